/-! joint: put, second half -/
theorem pcn_le (t : Nat) : ∀ j, pcn t j ≤ j
  | 0 => Nat.le_refl _
  | j + 1 => by
    have ih := pcn_le t j
    show pcn t j + t / 2 ^ j % 2 ≤ j + 1
    omega
theorem tones_cases {a : Int32} {Ic Im : Nat → Int32} {Fc Fm : Nat → Nat → Int32} : (∃ t, t < 4096 ∧ a = nI t ∧ (∀ post, (pcn t 12 ≤ 4 → post 1) → (¬ pcn t 12 ≤ 4 → post 0) → w_X8_areTones a Ic Fc post) ∧ ∀ hm post, post 1 → w_X9_in a.toInt64 1 4095 Im Fm hm post) ∨ ((∀ post, post 0 → w_X8_areTones a Ic Fc post) ∧ ∀ hm post, post 0 → w_X9_in a.toInt64 1 4095 Im Fm hm post) := by
  have l1 : a < 1 ↔ a ≤ 0 := by
    rw [Int32.lt_iff_toInt_lt, Int32.le_iff_toInt_le, show (1 : Int32).toInt = 1 by decide, show (0 : Int32).toInt = 0 by decide]
    omega
  unfold w_X8_areTones
  by_cases q1 : a ≤ 0
  · right
    exact ⟨fun post hp => ⟨fun _ => hp, fun q => absurd q1 q⟩, fun hm post hp => in_i (l2 := 1) (h2 := 4095) (by decide) (by decide) (fun _ => hp) (fun z => absurd (l1.mpr q1) z)⟩
  · by_cases q2 : (4095 : Int32) < a
    · right
      exact ⟨fun post hp => ⟨fun _ => hp, fun _ => ⟨fun _ => hp, fun q => absurd q2 q⟩⟩, fun hm post hp => in_i (l2 := 1) (h2 := 4095) (by decide) (by decide) (fun _ => hp) (fun _ z => absurd q2 z)⟩
    · left
      have w1 : 0 < a.toInt := by
        rw [Int32.le_iff_toInt_le, show (0 : Int32).toInt = 0 by decide] at q1
        omega
      have w2 : a.toInt ≤ 4095 := by
        rw [Int32.lt_iff_toInt_lt, show (4095 : Int32).toInt = 4095 by decide] at q2
        omega
      have ea : a = nI a.toInt.toNat := by
        apply Int32.toInt_inj.mp
        rw [nI_toInt (by omega)]
        omega
      refine ⟨a.toInt.toNat, by omega, ea, fun post h1 h0 => ⟨fun q => absurd q q1, fun _ => ⟨fun q => absurd q q2, fun _ => ?_⟩⟩, fun hm post hp => in_i (l2 := 1) (h2 := 4095) (by decide) (by decide) (fun z => ?_) (fun _ _ => hp)⟩
      · have hpc := pcn_le a.toInt.toNat 12
        have l4 : (4 : Int32) < nI (pcn a.toInt.toNat 12) ↔ 4 < pcn a.toInt.toNat 12 := by
          rw [Int32.lt_iff_toInt_lt, nI_toInt (by omega), show (4 : Int32).toInt = 4 by decide]
          omega
        have hT := s_bits (t := a.toInt.toNat) (I := Ic) (F := Fc) (post := fun r3 => (((4 : Int32) < r3 → post 0) ∧ (¬ (4 : Int32) < r3 → post 1))) (by omega) ⟨fun q => h0 (by have := l4.mp q; omega), fun q => h1 (Nat.le_of_not_lt (fun z => q (l4.mpr z)))⟩
        rw [← ea] at hT
        exact hT
      · exfalso
        rcases z with z | z
        · exact q1 (l1.mp z)
        · exact q2 z
theorem PR_in {n k : Nat} {v w : Int32} {t : Nat} (ht : t < 4096) (hw : w = nI t) {Kc Tc Km Tm K2 T2 L2 S2 : Nat → Int32} (h : PR n Kc Tc Km Tm) (hk : k ≤ n) (h1 : ∀ x, x ≤ n → K2 x = (if k < x then Kc (x - 1) else Kc x) ∧ T2 x = (if k < x then Tc (x - 1) else Tc x)) (h2 : ∀ x, x ≤ n → L2 x = (if k < x then Km (x - 1) else Km x) ∧ S2 x = (if k < x then Tm (x - 1) else Tm x)) : PR (n + 1) (upd K2 k v) (upd T2 k w) (upd L2 k v) (upd S2 k w) := by
  intro x hx
  by_cases e : x = k
  · subst e
    rw [pk_us, pk_us, pk_us, pk_us]
    exact ⟨⟨rfl, rfl⟩, t, ht, hw⟩
  · rw [pk_un e, pk_un e, pk_un e, pk_un e, (h1 x (by omega)).1, (h1 x (by omega)).2, (h2 x (by omega)).1, (h2 x (by omega)).2]
    by_cases e2 : k < x
    · rw [if_pos e2, if_pos e2, if_pos e2, if_pos e2]
      exact h (x - 1) (by omega)
    · rw [if_neg e2, if_neg e2, if_neg e2, if_neg e2]
      exact h x (by omega)
theorem j_put {i : Nat} {a a2 a3 : Int32} {Ic Im : Nat → Int32} {Fc Fm : Nat → Nat → Int32} {hm : Int64} (h : RR i Ic Fc Im Fm) : w_X8_put a a2 a3 Ic Fc (fun r Ic2 Fc2 => w_X9_put a a2 a3 Im Fm hm (fun r2 Im2 Fm2 hm2 => r = r2 ∧ hm2 = hm ∧ RR i Ic2 Fc2 Im2 Fm2)) := by
  have h0 := h
  obtain ⟨n, b, g, w, p, s, hB, hC⟩ := h
  obtain ⟨hn, hb, hg, hw, hp, hs, ⟨c8, m3, c7, m4, hPR⟩, -, -, -, -, hT, hM⟩ := id hB
  unfold w_X8_put w_X9_put
  have bad : (a < 0 ∨ ¬ a ≤ Ic 8) → ∀ post : Int32 → Prop, post 0 → w_X9_in a.toInt64 0 (Im 3).toInt64 Im Fm hm post := fun q post hp => in_i (l2 := 0) (h2 := Im 3) (by decide) rfl (fun _ => hp) (fun z1 z2 => by
    exfalso
    rcases q with q | q
    · exact z1 q
    · rw [m3] at z2
      rw [c8] at q
      rw [Int32.lt_iff_toInt_lt] at z2
      rw [Int32.le_iff_toInt_le] at q
      omega)
  refine ⟨fun q => bad (Or.inl q) _ ⟨fun q => absurd rfl q, fun _ => ⟨rfl, rfl, h0⟩⟩, fun q1 => ⟨fun q2 => ?_, fun q => bad (Or.inr q) _ ⟨fun q => absurd rfl q, fun _ => ⟨rfl, rfl, h0⟩⟩⟩⟩
  have hk : ∃ k, k ≤ n ∧ a = nI k := by
    obtain ⟨k, hk, e⟩ := nI_n (n := n + 1) (by omega) q1 (fun z => by
      rw [c8, Int32.le_iff_toInt_le, nI_toInt (by omega)] at q2
      rw [Int32.le_iff_toInt_le, nI_toInt (by omega)] at z
      omega)
    exact ⟨k, by omega, e⟩
  have good : ∀ post : Int32 → Prop, post 1 → w_X9_in a.toInt64 0 (Im 3).toInt64 Im Fm hm post := fun post hp => in_i (l2 := 0) (h2 := Im 3) (by decide) rfl (fun z => by
    exfalso
    rcases z with z | z
    · exact q1 z
    · rw [m3, ← c8] at z
      rw [Int32.lt_iff_toInt_lt] at z
      rw [Int32.le_iff_toInt_le] at q2
      omega) (fun _ _ => hp)
  obtain ⟨k, hk, ek⟩ := hk
  rcases rngK (a := a2) (Ic := Ic) (Im := Im) (Fc := Fc) (Fm := Fm) with ⟨y, hy, e2, r1, r2⟩ | ⟨r1, r2⟩
  · refine r1 _ ⟨fun q => absurd q (by decide), fun _ => ?_⟩
    rcases tones_cases (a := a3) (Ic := Ic) (Im := Im) (Fc := Fc) (Fm := Fm) with ⟨t, ht, e3, t1, t2⟩ | ⟨t1, t2⟩
    · have hpc : pcn t 12 ≤ 12 := by
        have : ∀ j, pcn t j ≤ j := fun j => by
          induction j with
          | zero => exact Nat.le_refl _
          | succ j ih =>
            show pcn t j + t / 2 ^ j % 2 ≤ j + 1
            omega
        exact this 12
      have l4 : nI (pcn t 12) ≤ (4 : Int32) ↔ pcn t 12 ≤ 4 := by
        rw [show (4 : Int32) = nI 4 by decide]
        exact nI_leI (by omega) (by omega)
      refine t1 _ (fun hle => ⟨fun _ => ?_, fun q => absurd q (by decide)⟩) (fun hgt => ⟨fun q => absurd rfl q, fun _ => good _ ⟨fun _ => r2 _ _ ⟨fun q => absurd q (by decide), fun _ => t2 _ _ ⟨fun q => absurd q (by decide), fun _ => ?_⟩⟩, fun q => absurd q (by decide)⟩⟩)
      · have m1 : ∀ post : Int32 → (Nat → Int32) → (Nat → Nat → Int32) → Int64 → Prop, True := fun _ => trivial
        rw [c8, nI_is0 (by omega)]
        refine ⟨fun hn0 => ?_, fun hn0 => good _ ⟨fun _ => r2 _ _ ⟨fun q => absurd q (by decide), fun _ => t2 _ _ ⟨fun q => absurd q (by decide), fun _ => ?_⟩⟩, fun q => absurd q (by decide)⟩⟩
        · have hn1 : 0 < n := by omega
          subst ek
          subst e3
          have e8 : (8 : Int32) ≤ nI n ↔ 8 ≤ n := by
            rw [show (8 : Int32) = nI 8 by decide]
            exact nI_leI (by omega) (by omega)
          have f8 : nI n = (8 : Int32) ↔ n = 8 := by
            rw [show (8 : Int32) = nI 8 by decide]
            exact nI_eq (by omega) (by omega)
          unfold w_X2_insert_4
          rw [c8, e8]
          refine ⟨fun h8 => ⟨fun q => absurd rfl q, fun _ => good _ ⟨fun _ => r2 _ _ ⟨fun q => absurd q (by decide), fun _ => t2 _ _ ⟨fun q => absurd q (by decide), fun _ => m_ones ht ⟨fun _ => m_lacks0 m3 hn (fun _ => ⟨fun _ => ⟨fun q => absurd (by rw [m3]; exact f8.mpr (by omega)) q, fun _ => ⟨rfl, rfl, h0⟩⟩, fun q => absurd rfl q⟩) (fun z => absurd hn1 (by omega)), fun q => absurd (l4.mpr hle) q⟩⟩⟩, fun q => absurd q (by decide)⟩⟩, fun h8 => ⟨fun q => absurd q q1, fun _ => ⟨fun _ v7 e7 => ?_, fun q => absurd (by rw [← c8]; exact q2) q⟩⟩⟩
          subst e7
          have hvk : vp_in (nI k) 8 := vp_in_nI (by omega) (by decide)
          refine s_insert (by omega) hk (fun yy F10 f1 f17 => ⟨hvk, fun F11 e11 => ⟨hvk, fun F12 e12 I13 e13 => ⟨fun _ => ?_, fun q => absurd q (by decide)⟩⟩⟩)
          unfold w_X3_makeStale_9
          intro I7 d7 I8 d8
          rw [nI_clamp (by omega)] at e11 e12
          have v8 : I8 8 = nI (n + 1) := by rw [d8, pk_un (by decide), d7, pk_un (by decide), e13, pk_us, c8]; exact nI_1 n
          have k1 : ∀ j, j ≠ 8 → j ≠ 15 → j ≠ 16 → I8 j = Ic j := fun j h1 h2 h3 => by rw [d8, pk_un h3, d7, pk_un h2, e13, pk_un h1]
          have g1 : ∀ r, r ≠ 17 → r ≠ 18 → F12 r = Fc r := fun r h1 h2 => by rw [e12, upF_n _ _ h2, e11, upF_n _ _ h1]; exact f1 r h1 h2
          have g17 : F12 17 = upd (F10 17) k a2 := by rw [e12, upF_n _ _ (by decide), e11, upF_s]
          have g18 : F12 18 = upd (F10 18) k (nI t) := by rw [e12, upF_s, e11, upF_n _ _ (by decide)]
          refine good _ ⟨fun _ => r2 _ _ ⟨fun q => absurd q (by decide), fun _ => t2 _ _ ⟨fun q => absurd q (by decide), fun _ => m_ones ht ⟨fun _ => m_lacks0 m3 hn (fun _ => ⟨fun _ => ⟨fun _ v15 e15 => ?_, fun q => absurd (f8.mp (by rw [← m3]; exact q)) (by omega)⟩, fun q => absurd rfl q⟩) (fun z => absurd hn1 (by omega)), fun q => absurd (l4.mpr hle) q⟩⟩⟩, fun q => absurd q (by decide)⟩
          rw [m3] at e15
          subst e15
          refine m_insert (by omega) hk (fun yy G18 f2 f14 => ⟨hvk, fun G20 e20 => ⟨hvk, fun G21 e21 J22 e22 J23 e23 => ?_⟩⟩)
          rw [nI_clamp (by omega)] at e20 e21
          have w3 : J23 3 = nI (n + 1) := by rw [e23, pk_un (by decide), e22, pk_us, m3]; exact nI_1 n
          have k2 : ∀ j, j ≠ 3 → j ≠ 6 → J23 j = Im j := fun j h1 h2 => by rw [e23, pk_un h2, e22, pk_un h1]
          have g2 : ∀ r, r ≠ 14 → r ≠ 15 → G21 r = Fm r := fun r h1 h2 => by rw [e21, upF_n _ _ h2, e20, upF_n _ _ h1]; exact f2 r h1 h2
          have g14 : G21 14 = upd (G18 14) k a2 := by rw [e21, upF_n _ _ (by decide), e20, upF_s]
          have g15 : G21 15 = upd (G18 15) k (nI t) := by rw [e21, upF_s, e20, upF_n _ _ (by decide)]
          exact ⟨by rw [v8, w3], rfl, n + 1, b, g, w, p, s, RR_stale hB (by omega) hb ⟨v8, w3, by rw [k1 7 (by decide) (by decide) (by decide)]; exact c7, by rw [k2 4 (by decide) (by decide)]; exact m4, by rw [g17, g18, g14, g15]; exact PR_in ht rfl hPR hk f17 f14⟩ (fun j hj => k1 j (fun z => by subst z; exact absurd hj (by decide)) (fun z => by subst z; exact absurd hj (by decide)) (fun z => by subst z; exact absurd hj (by decide))) (fun j hj => g1 j (fun z => by subst z; exact absurd hj (by decide)) (fun z => by subst z; exact absurd hj (by decide))) (fun j hj => k2 j (fun z => by subst z; exact absurd hj (by decide)) (fun z => by subst z; exact absurd hj (by decide))) (fun j hj => g2 j (fun z => by subst z; exact absurd hj (by decide)) (fun z => by subst z; exact absurd hj (by decide))), RC_stale (by rw [d8, pk_un (by decide), d7, pk_us]) (by rw [d8, pk_us]) (by rw [e23, pk_us])⟩
        · rw [e3]
          exact m_ones ht ⟨fun _ => m_lacks0 m3 hn (fun z => absurd hn0 (by omega)) (fun _ => ⟨fun q => absurd q (by decide), fun _ => ⟨rfl, rfl, h0⟩⟩), fun q => absurd (l4.mpr hle) q⟩
      · rw [e3]
        exact m_ones ht ⟨fun q => absurd (l4.mp q) hgt, fun _ => ⟨rfl, rfl, h0⟩⟩
    · exact t1 _ ⟨fun q => absurd rfl q, fun _ => good _ ⟨fun _ => r2 _ _ ⟨fun q => absurd q (by decide), fun _ => t2 _ _ ⟨fun _ => ⟨rfl, rfl, h0⟩, fun q => absurd rfl q⟩⟩, fun q => absurd q (by decide)⟩⟩
  · exact r1 _ ⟨fun _ => good _ ⟨fun _ => r2 _ _ ⟨fun _ => ⟨rfl, rfl, h0⟩, fun q => absurd rfl q⟩, fun q => absurd q (by decide)⟩, fun q => absurd rfl q⟩
