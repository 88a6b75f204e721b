/-! joint: letter, blank, forget, as, tone, press, change, swap -/
theorem rng {N H : Int32} {hi : Int64} {n : Nat} {a : Int32} {Im : Nat → Int32} {Fm : Nat → Nat → Int32} (hn : n < 2 ^ 31) (hN : N = nI n) (hH : H.toInt = (n : Int) - 1) (hhi : hi = H.toInt64) : (∃ y, y < n ∧ a = nI y ∧ (∀ post : Int32 → Prop, post 1 → ((a < 0 → post 0) ∧ (¬ a < 0 → ((N ≤ a → post 0) ∧ (¬ N ≤ a → post 1))))) ∧ ∀ hm post, post 1 → w_X9_in a.toInt64 0 hi Im Fm hm post) ∨ ((∀ post : Int32 → Prop, post 0 → ((a < 0 → post 0) ∧ (¬ a < 0 → ((N ≤ a → post 0) ∧ (¬ N ≤ a → post 1))))) ∧ ∀ hm post, post 0 → w_X9_in a.toInt64 0 hi Im Fm hm post) := by
  have l11 : H < a ↔ N ≤ a := by
    rw [Int32.lt_iff_toInt_lt, Int32.le_iff_toInt_le, hN, nI_toInt hn]
    omega
  by_cases q1 : a < 0
  · right
    exact ⟨fun post hp => ⟨fun _ => hp, fun q => absurd q1 q⟩, fun hm post hp => in_i (l2 := 0) (h2 := H) (by decide) hhi (fun _ => hp) (fun z => absurd q1 z)⟩
  · by_cases q2 : N ≤ a
    · right
      exact ⟨fun post hp => ⟨fun _ => hp, fun _ => ⟨fun _ => hp, fun q => absurd q2 q⟩⟩, fun hm post hp => in_i (l2 := 0) (h2 := H) (by decide) hhi (fun _ => hp) (fun _ z => absurd (l11.mpr q2) z)⟩
    · left
      obtain ⟨y, hy, e⟩ := nI_n (n := n) hn q1 (by rw [← hN]; exact q2)
      exact ⟨y, hy, e, fun post hp => ⟨fun q => absurd q q1, fun _ => ⟨fun q => absurd q q2, fun _ => hp⟩⟩, fun hm post hp => in_i (l2 := 0) (h2 := H) (by decide) hhi (fun z => by
        exfalso
        rcases z with z | z
        · exact q1 z
        · exact q2 (l11.mp z)) (fun _ _ => hp)⟩
theorem j_blank {i : Nat} {Ic Im : Nat → Int32} {Fc Fm : Nat → Nat → Int32} {hm : Int64} (h : RR i Ic Fc Im Fm) : w_X8_blank Ic Fc (fun r Ic2 Fc2 => w_X9_blank Im Fm hm (fun r2 Im2 Fm2 hm2 => r = r2 ∧ hm2 = hm ∧ RR i Ic2 Fc2 Im2 Fm2)) := by
  obtain ⟨n, b, g, w, p, s, hB, hC⟩ := h
  obtain ⟨hn, hb, hg, hw, hp, hs, hPt, ⟨c2, m0, hPg⟩, hSn, hCn, hKp, hT⟩ := id hB
  unfold w_X8_blank w_X1_clear_1 w_X9_blank
  intro v1 e1 I2 e2 v3 e3 I4 e4
  have k1 : ∀ j, j ≠ 2 → I2 j = Ic j := fun j hj => by rw [e2, pk_un hj]
  have k2 : ∀ j, j ≠ 0 → I4 j = Im j := fun j hj => by rw [e4, pk_un hj]
  refine ⟨by rw [e1, e3, c2, m0], rfl, n, b, 0, w, p, s, ⟨hn, hb, by omega, hw, hp, hs, ?_, ⟨by rw [e2, pk_us]; decide, by rw [e4, pk_us]; decide, fun k hk => absurd hk (by omega)⟩, ?_, ?_, ?_, hT⟩, ?_⟩
  · unfold RPart
    rw [k1 8 (by decide), k1 7 (by decide), k2 3 (by decide), k2 4 (by decide)]
    exact hPt
  · unfold RSeen
    rw [k1 11 (by decide), k2 11 (by decide)]
    exact hSn
  · unfold RCnt
    rw [k1 0 (by decide), k1 1 (by decide), k2 5 (by decide), k2 10 (by decide)]
    exact hCn
  · unfold RKept
    rw [k1 10 (by decide), k1 9 (by decide), k1 12 (by decide), k2 14 (by decide), k2 5 (by decide), k2 15 (by decide), k2 16 (by decide), k2 17 (by decide)]
    exact hKp
  · exact ⟨cacheF_keep (fun j hj => k1 j (fun z => by subst z; exact absurd hj (by decide))) (fun _ _ => rfl) hC.1, cacheB_keep (fun j hj => k1 j (fun z => by subst z; exact absurd hj (by decide))) (fun _ _ => rfl) hC.2.1, fun hn => cacheM_keep (fun j hj => k2 j (fun z => by subst z; exact absurd hj (by decide))) (fun _ _ => rfl) (hC.2.2 hn)⟩
theorem j_forget {i : Nat} {Ic Im : Nat → Int32} {Fc Fm : Nat → Nat → Int32} {hm : Int64} (h : RR i Ic Fc Im Fm) : w_X8_forget Ic Fc (fun r Ic2 Fc2 => w_X9_forget Im Fm hm (fun r2 Im2 Fm2 hm2 => r = r2 ∧ hm2 = hm ∧ RR i Ic2 Fc2 Im2 Fm2)) := by
  obtain ⟨n, b, g, w, p, s, hB, hC⟩ := h
  obtain ⟨hn, hb, hg, hw, hp, hs, hPt, hPg, ⟨c11, m11, hSn⟩, hCn, hKp, hT⟩ := id hB
  unfold w_X8_forget w_X6_clear_6 w_X9_forget
  intro v1 e1 I2 e2 v3 e3 I4 e4
  have k1 : ∀ j, j ≠ 11 → I2 j = Ic j := fun j hj => by rw [e2, pk_un hj]
  have k2 : ∀ j, j ≠ 11 → I4 j = Im j := fun j hj => by rw [e4, pk_un hj]
  refine ⟨by rw [e1, e3, c11, m11], rfl, n, b, g, 0, p, s, ⟨hn, hb, hg, by omega, hp, hs, ?_, ?_, ⟨by rw [e2, pk_us]; decide, by rw [e4, pk_us]; decide, fun k hk => absurd hk (by omega)⟩, ?_, ?_, hT⟩, ?_⟩
  · unfold RPart
    rw [k1 8 (by decide), k1 7 (by decide), k2 3 (by decide), k2 4 (by decide)]
    exact hPt
  · unfold RPage
    rw [k1 2 (by decide), k2 0 (by decide)]
    exact hPg
  · unfold RCnt
    rw [k1 0 (by decide), k1 1 (by decide), k2 5 (by decide), k2 10 (by decide)]
    exact hCn
  · unfold RKept
    rw [k1 10 (by decide), k1 9 (by decide), k1 12 (by decide), k2 14 (by decide), k2 5 (by decide), k2 15 (by decide), k2 16 (by decide), k2 17 (by decide)]
    exact hKp
  · exact ⟨cacheF_keep (fun j hj => k1 j (fun z => by subst z; exact absurd hj (by decide))) (fun _ _ => rfl) hC.1, cacheB_keep (fun j hj => k1 j (fun z => by subst z; exact absurd hj (by decide))) (fun _ _ => rfl) hC.2.1, fun hn => cacheM_keep (fun j hj => k2 j (fun z => by subst z; exact absurd hj (by decide))) (fun _ _ => rfl) (hC.2.2 hn)⟩
theorem j_letter {i : Nat} {a : Int32} {Ic Im : Nat → Int32} {Fc Fm : Nat → Nat → Int32} {hm : Int64} (h : RR i Ic Fc Im Fm) : w_X8_letter a Ic Fc (fun r Ic2 Fc2 => w_X9_letter a Im Fm hm (fun r2 Im2 Fm2 hm2 => r = r2 ∧ hm2 = hm ∧ RR i Ic2 Fc2 Im2 Fm2)) := by
  have h0 := h
  obtain ⟨n, b, g, w, p, s, hB, hC⟩ := h
  obtain ⟨hn, hb, hg, hw, hp, hs, hPt, ⟨c2, m0, hPg⟩, hSn, hCn, hKp, hT⟩ := id hB
  have l1 : (126 : Int32) < a ↔ ¬ a ≤ (126 : Int32) := by
    rw [Int32.lt_iff_toInt_lt, Int32.le_iff_toInt_le]
    omega
  unfold w_X8_letter w_X9_letter
  refine ⟨fun q => in_i (l2 := 1) (h2 := 126) (by decide) (by decide) (fun _ => ⟨fun q => absurd rfl q, fun _ => ⟨rfl, rfl, h0⟩⟩) (fun z => absurd q z), fun q1 => ⟨fun q2 => ?_, fun q => in_i (l2 := 1) (h2 := 126) (by decide) (by decide) (fun _ => ⟨fun q => absurd rfl q, fun _ => ⟨rfl, rfl, h0⟩⟩) (fun _ z => absurd (l1.mpr q) z)⟩⟩
  have go : ∀ post : Int32 → Prop, post 1 → w_X9_in a.toInt64 1 126 Im Fm hm post := fun post hp => in_i (l2 := 1) (h2 := 126) (by decide) (by decide) (fun z => by
    exfalso
    rcases z with z | z
    · exact q1 z
    · exact (l1.mp z) q2) (fun _ _ => hp)
  have ha : ∃ c, 1 ≤ c ∧ c ≤ 126 ∧ a = nI c := by
    rw [Int32.lt_iff_toInt_lt, show (1 : Int32).toInt = 1 by decide] at q1
    rw [Int32.le_iff_toInt_le, show (126 : Int32).toInt = 126 by decide] at q2
    refine ⟨a.toInt.toNat, by omega, by omega, ?_⟩
    apply Int32.toInt_inj.mp
    rw [nI_toInt (by omega)]
    omega
  unfold w_X1_append_1
  have e56 : nI g < (56 : Int32) ↔ g < 56 := by
    rw [Int32.lt_iff_toInt_lt, nI_toInt (by omega), show (56 : Int32).toInt = 56 by decide]
    omega
  have f56 : nI g = (56 : Int32) ↔ g = 56 := by
    rw [show (56 : Int32) = nI 56 by decide]
    exact nI_eq (by omega) (by omega)
  rw [c2, m0, e56, f56]
  refine ⟨fun hlt => ⟨vp_in_nI hlt (by decide), fun F2 e2 I3 e3 => ⟨fun q => absurd q (by decide), fun _ => go _ ⟨fun _ => ⟨fun _ => ⟨vp_in_nI hlt (by decide), fun F4 e4 I5 e5 => ?_⟩, fun q => absurd q (by omega)⟩, fun q => absurd q (by decide)⟩⟩⟩, fun hge => ⟨fun _ => go _ ⟨fun _ => ⟨fun q => absurd (show g = 56 by omega) q, fun _ => ⟨rfl, rfl, h0⟩⟩, fun q => absurd q (by decide)⟩, fun q => absurd rfl q⟩⟩
  rw [nI_clamp (by omega)] at e2 e4
  have k1 : ∀ j, j ≠ 2 → I3 j = Ic j := fun j hj => by rw [e3, pk_un hj]
  have k2 : ∀ j, j ≠ 0 → I5 j = Im j := fun j hj => by rw [e5, pk_un hj]
  have f1 : ∀ j, j ≠ 14 → F2 j = Fc j := fun j hj => by rw [e2, upF_n _ _ hj]
  have f2 : ∀ j, j ≠ 11 → F4 j = Fm j := fun j hj => by rw [e4, upF_n _ _ hj]
  have v1 : I3 2 = nI (g + 1) := by rw [e3, pk_us]; exact nI_1 g
  have v2 : I5 0 = nI (g + 1) := by rw [e5, pk_us]; exact nI_1 g
  refine ⟨by rw [v1, v2], rfl, n, b, g + 1, w, p, s, ⟨hn, hb, by omega, hw, hp, hs, ?_, ⟨v1, v2, fun k hk => ?_⟩, ?_, ?_, ?_, ?_⟩, ?_⟩
  · unfold RPart
    rw [k1 8 (by decide), k1 7 (by decide), k2 3 (by decide), k2 4 (by decide), f1 17 (by decide), f1 18 (by decide), f2 14 (by decide), f2 15 (by decide)]
    exact hPt
  · rw [e2, e4, upF_s, upF_s]
    by_cases e : k = g
    · subst e
      rw [pk_us, pk_us]
      exact ⟨rfl, ha⟩
    · rw [pk_un e, pk_un e]
      exact hPg k (by omega)
  · unfold RSeen
    rw [k1 11 (by decide), k2 11 (by decide), f1 21 (by decide), f1 22 (by decide), f2 22 (by decide)]
    exact hSn
  · unfold RCnt
    rw [k1 0 (by decide), k1 1 (by decide), k2 5 (by decide), k2 10 (by decide)]
    exact hCn
  · unfold RKept
    rw [k1 10 (by decide), k1 9 (by decide), k1 12 (by decide), k2 14 (by decide), k2 5 (by decide), k2 15 (by decide), k2 16 (by decide), k2 17 (by decide), f1 19 (by decide), f1 20 (by decide), f1 23 (by decide), f1 24 (by decide), f2 23 (by decide), f2 24 (by decide), f2 25 (by decide)]
    exact hKp
  · unfold RTab mTab
    rw [f1 25 (by decide), f2 1 (by decide), f2 2 (by decide), f2 3 (by decide), f2 8 (by decide), f2 9 (by decide), f2 10 (by decide)]
    exact hT
  · exact ⟨cacheF_keep (fun j hj => k1 j (fun z => by subst z; exact absurd hj (by decide))) (fun j hj => f1 j (fun z => by subst z; exact absurd hj (by decide))) hC.1, cacheB_keep (fun j hj => k1 j (fun z => by subst z; exact absurd hj (by decide))) (fun j hj => f1 j (fun z => by subst z; exact absurd hj (by decide))) hC.2.1, fun hn => cacheM_keep (fun j hj => k2 j (fun z => by subst z; exact absurd hj (by decide))) (fun j hj => f2 j (fun z => by subst z; exact absurd hj (by decide))) (hC.2.2 hn)⟩
/-- the part has changed, plans are stale on both sides -/
theorem RR_stale {i n b n2 b2 g w p s : Nat} {Ic Ic2 : Nat → Int32} {Fc Fc2 : Nat → Nat → Int32} {Im Im2 : Nat → Int32} {Fm Fm2 : Nat → Nat → Int32} (h : RB i n b g w p s Ic Fc Im Fm) (hn2 : n2 ≤ 8) (hb2 : b2 < 2187) (hP : RPart n2 b2 Ic2 Fc2 Im2 Fm2) (h1 : sI [0, 1, 2, 9, 10, 11, 12] Ic Ic2) (h2 : sF [14, 19, 20, 21, 22, 23, 24, 25] Fc Fc2) (h3 : sI [0, 5, 10, 11, 14, 15, 16, 17] Im Im2) (h4 : sF [1, 2, 3, 8, 9, 10, 11, 22, 23, 24, 25] Fm Fm2) : RB i n2 b2 g w p s Ic2 Fc2 Im2 Fm2 := by
  obtain ⟨hn, hb, hg, hw, hp, hs, hPt, hPg, hSn, hCn, hKp, hT⟩ := h
  refine ⟨hn2, hb2, hg, hw, hp, hs, hP, ?_, ?_, ?_, ?_, ?_⟩
  · unfold RPage
    rw [h1 2 (by decide), h3 0 (by decide), h2 14 (by decide), h4 11 (by decide)]
    exact hPg
  · unfold RSeen
    rw [h1 11 (by decide), h3 11 (by decide), h2 21 (by decide), h2 22 (by decide), h4 22 (by decide)]
    exact hSn
  · unfold RCnt
    rw [h1 0 (by decide), h1 1 (by decide), h3 5 (by decide), h3 10 (by decide)]
    exact hCn
  · unfold RKept
    rw [h1 10 (by decide), h1 9 (by decide), h1 12 (by decide), h3 14 (by decide), h3 5 (by decide), h3 15 (by decide), h3 16 (by decide), h3 17 (by decide), h2 19 (by decide), h2 20 (by decide), h2 23 (by decide), h2 24 (by decide), h4 23 (by decide), h4 24 (by decide), h4 25 (by decide)]
    exact hKp
  · unfold RTab mTab
    rw [h2 25 (by decide), h4 1 (by decide), h4 2 (by decide), h4 3 (by decide), h4 8 (by decide), h4 9 (by decide), h4 10 (by decide)]
    exact hT
theorem RC_stale {n b : Nat} {Ic : Nat → Int32} {Fc : Nat → Nat → Int32} {Im : Nat → Int32} {Fm : Nat → Nat → Int32} (h15 : Ic 15 = -1) (h16 : Ic 16 = 0) (h6 : Im 6 = 1) : RCac n b Ic Fc Im Fm := ⟨Or.inl h15, Or.inl h16, fun _ => Or.inl h6⟩
