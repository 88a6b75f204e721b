/-! joint: see; sorts, what to ask -/
theorem kd4 {q : Nat} (h : q < 4) : q = 0 ∨ q = 1 ∨ q = 2 ∨ q = 3 := by omega
theorem j_see {i : Nat} {a a2 a3 : Int32} {Ic Im : Nat → Int32} {Fc Fm : Nat → Nat → Int32} {hm : Int64} (h : RR i Ic Fc Im Fm) : w_X8_see a a2 a3 Ic Fc (fun r Ic2 Fc2 => w_X9_see a a2 a3 Im Fm hm (fun r2 Im2 Fm2 hm2 => r = r2 ∧ hm2 = hm ∧ RR i Ic2 Fc2 Im2 Fm2)) := by
  have h0 := h
  obtain ⟨n, b, g, w, p, s, hB, hC⟩ := h
  obtain ⟨hn, hb, hg, hw, hp, hs, ⟨c8, m3, c7, m4, hPR⟩, hPg, ⟨c11, m11, hSR⟩, hCn, hKp, hT⟩ := id hB
  unfold w_X8_see w_X9_see
  rcases has_cases (a := a) (Fc := Fc) (Fm := Fm) hn c8 m3 with ⟨k, hk, e⟩ | ⟨q1, q2⟩
  · have has1 : ∀ post : Int32 → Prop, post 1 → w_X2_has_4 a Ic Fc post := fun post hp => by rw [e]; exact s_has hn c8 hk hp
    refine has1 _ ⟨fun _ => ?_, fun q => absurd q (by decide)⟩
    have ich : ∀ post : Int32 → Prop, post 1 → w_X9_isChord a Im Fm hm post := fun post hp => by rw [e]; exact m_isChord hn m3 hk hp
    have l3 : (3 : Int32) < a2 ↔ ¬ a2 < (4 : Int32) := by
      rw [Int32.lt_iff_toInt_lt, Int32.lt_iff_toInt_lt, show (3 : Int32).toInt = 3 by decide, show (4 : Int32).toInt = 4 by decide]
      omega
    refine ⟨fun q => ich _ ⟨fun _ => in_i (l2 := 0) (h2 := 3) (by decide) (by decide) (fun _ => ⟨fun q => absurd rfl q, fun _ => ⟨rfl, rfl, h0⟩⟩) (fun z => absurd q z), fun q => absurd q (by decide)⟩, fun q1 => ⟨fun q2 => ?_, fun q => ich _ ⟨fun _ => in_i (l2 := 0) (h2 := 3) (by decide) (by decide) (fun _ => ⟨fun q => absurd rfl q, fun _ => ⟨rfl, rfl, h0⟩⟩) (fun _ z => absurd (l3.mpr q) z), fun q => absurd q (by decide)⟩⟩⟩
    have good : ∀ post : Int32 → Prop, post 1 → w_X9_in a2.toInt64 0 3 Im Fm hm post := fun post hp => in_i (l2 := 0) (h2 := 3) (by decide) (by decide) (fun z => by
      exfalso
      rcases z with z | z
      · exact q1 z
      · exact l3.mp z q2) (fun _ _ => hp)
    obtain ⟨q, hq, e2⟩ := nI_n (n := 4) (by omega) q1 (fun z => by
      rw [Int32.lt_iff_toInt_lt, show (4 : Int32).toInt = 4 by decide] at q2
      rw [Int32.le_iff_toInt_le, nI_toInt (by omega)] at z
      omega)
    unfold w_X6_add_6
    have e6 : (6 : Int32) ≤ nI w ↔ 6 ≤ w := by
      rw [show (6 : Int32) = nI 6 by decide]
      exact nI_leI (by omega) (by omega)
    have f6 : nI w = (6 : Int32) ↔ w = 6 := by
      rw [show (6 : Int32) = nI 6 by decide]
      exact nI_eq (by omega) (by omega)
    have e3w : (3 : Int32) * nI w = nI (3 * w) := by
      rw [show (3 : Int32) = nI 3 by decide, pk_mul]
    rw [c11, m11, e6, f6, e3w]
    refine ⟨fun h6 => ⟨fun _ => ich _ ⟨fun _ => good _ ⟨fun _ => ⟨fun q => absurd (show w = 6 by omega) q, fun _ => ⟨rfl, rfl, h0⟩⟩, fun q => absurd q (by decide)⟩, fun q => absurd q (by decide)⟩, fun q => absurd rfl q⟩, fun h6 => ⟨fun q => absurd q q1, fun _ => ⟨fun _ => ?_, fun q => absurd q2 q⟩⟩⟩
    have fin : ∀ (z zc : Int32) (F7 F1 : Nat → Nat → Int32) (I2 : Nat → Int32), F7 = upF Fc 21 (upd (Fc 21) w a) → F1 = upF F7 22 (upd (F7 22) w zc) → I2 = upd Ic 11 (nI w + 1) → ∀ (F8 F9 : Nat → Nat → Int32), F8 = upF Fm 22 (upd (Fm 22) (3 * w) a) → F9 = upF F8 22 (upd (F8 22) (3 * w + 1) a2) → ((z = 1 ∧ zc = tabK q) ∨ (z = 0 ∧ zc = (31 : Int32) - tabK q)) → w_X9_see_J85 (nI (3 * w + 2)) z Im F9 hm (fun r2 Im2 Fm2 hm2 => I2 11 = r2 ∧ hm2 = hm ∧ RR i I2 F1 Im2 Fm2) := by
      intro z zc F7 F1 I2 e7 e1 d2 F8 F9 g8 g9 hz
      unfold w_X9_see_J85
      refine ⟨vp_in_nI (by omega) (by decide), fun G1 t1 J2 t2 => ?_⟩
      rw [nI_clamp (by omega)] at t1
      rw [m11] at t2
      have k1 : ∀ j, j ≠ 11 → I2 j = Ic j := fun j hj => by rw [d2, pk_un hj]
      have k2 : ∀ j, j ≠ 11 → J2 j = Im j := fun j hj => by rw [t2, pk_un hj]
      have f1 : ∀ r, r ≠ 21 → r ≠ 22 → F1 r = Fc r := fun r h1 h2 => by rw [e1, upF_n _ _ h2, e7, upF_n _ _ h1]
      have f2 : ∀ r, r ≠ 22 → G1 r = Fm r := fun r h1 => by rw [t1, upF_n _ _ h1, g9, upF_n _ _ h1, g8, upF_n _ _ h1]
      have v11 : I2 11 = nI (w + 1) := by rw [d2, pk_us]; exact nI_1 w
      have w11 : J2 11 = nI (w + 1) := by rw [t2, pk_us]; exact nI_1 w
      have s21 : F1 21 = upd (Fc 21) w a := by rw [e1, upF_n _ _ (by decide), e7, upF_s]
      have s22 : F1 22 = upd (Fc 22) w zc := by rw [e1, upF_s, e7, upF_n _ _ (by decide)]
      have t22 : G1 22 = upd (upd (upd (Fm 22) (3 * w) a) (3 * w + 1) a2) (3 * w + 2) z := by rw [t1, upF_s, g9, upF_s, g8, upF_s]
      refine ⟨by rw [v11, w11], rfl, n, b, g, w + 1, p, s, ⟨hn, hb, hg, by omega, hp, hs, ?_, ?_, ⟨v11, w11, fun j hj => ?_⟩, ?_, ?_, ?_⟩, ?_⟩
      · unfold RPart
        rw [k1 8 (by decide), k1 7 (by decide), k2 3 (by decide), k2 4 (by decide), f1 17 (by decide) (by decide), f1 18 (by decide) (by decide), f2 14 (by decide), f2 15 (by decide)]
        exact ⟨c8, m3, c7, m4, hPR⟩
      · unfold RPage
        rw [k1 2 (by decide), k2 0 (by decide), f1 14 (by decide) (by decide), f2 11 (by decide)]
        exact hPg
      · rw [s21, s22, t22]
        by_cases ej : j = w
        · subst ej
          have n1 : 3 * j ≠ 3 * j + 2 := by omega
          have n2 : 3 * j ≠ 3 * j + 1 := by omega
          have n3 : 3 * j + 1 ≠ 3 * j + 2 := by omega
          rw [pk_us, pk_us, pk_un n1, pk_un n2, pk_us, pk_un n3, pk_us, pk_us]
          exact ⟨rfl, q, hq, e2, hz⟩
        · have m1 : 3 * j ≠ 3 * w + 2 := by omega
          have m2 : 3 * j ≠ 3 * w + 1 := by omega
          have m3' : 3 * j ≠ 3 * w := by omega
          have m4' : 3 * j + 1 ≠ 3 * w + 2 := by omega
          have m5 : 3 * j + 1 ≠ 3 * w + 1 := by omega
          have m6 : 3 * j + 1 ≠ 3 * w := by omega
          have m7 : 3 * j + 2 ≠ 3 * w + 2 := by omega
          have m8 : 3 * j + 2 ≠ 3 * w + 1 := by omega
          have m9 : 3 * j + 2 ≠ 3 * w := by omega
          rw [pk_un ej, pk_un ej, pk_un m1, pk_un m2, pk_un m3', pk_un m4', pk_un m5, pk_un m6, pk_un m7, pk_un m8, pk_un m9]
          exact hSR j (by omega)
      · unfold RCnt
        rw [k1 0 (by decide), k1 1 (by decide), k2 5 (by decide), k2 10 (by decide)]
        exact hCn
      · unfold RKept
        rw [k1 10 (by decide), k1 9 (by decide), k1 12 (by decide), k2 14 (by decide), k2 5 (by decide), k2 15 (by decide), k2 16 (by decide), k2 17 (by decide), f1 19 (by decide) (by decide), f1 20 (by decide) (by decide), f1 23 (by decide) (by decide), f1 24 (by decide) (by decide), f2 23 (by decide), f2 24 (by decide), f2 25 (by decide)]
        exact hKp
      · unfold RTab mTab
        rw [f1 25 (by decide) (by decide), f2 1 (by decide), f2 2 (by decide), f2 3 (by decide), f2 8 (by decide), f2 9 (by decide), f2 10 (by decide)]
        exact hT
      · exact ⟨cacheF_keep (fun j hj => k1 j (fun z => by subst z; exact absurd hj (by decide))) (fun j hj => f1 j (fun z => by subst z; exact absurd hj (by decide)) (fun z => by subst z; exact absurd hj (by decide))) hC.1, cacheB_keep (fun j hj => k1 j (fun z => by subst z; exact absurd hj (by decide))) (fun j hj => f1 j (fun z => by subst z; exact absurd hj (by decide)) (fun z => by subst z; exact absurd hj (by decide))) hC.2.1, fun hn => cacheM_keep (fun j hj => k2 j (fun z => by subst z; exact absurd hj (by decide))) (fun j hj => f2 j (fun z => by subst z; exact absurd hj (by decide))) (hC.2.2 hn)⟩
    have hv3 : nI (3 * w) + (1 : Int32) = nI (3 * w + 1) := nI_1 _
    have hv2 : nI (3 * w) + (2 : Int32) = nI (3 * w + 2) := by rw [show (2 : Int32) = nI 2 by decide, nI_add]
    have vq : vp_in a2 4 := by rw [e2]; exact vp_in_nI hq (by decide)
    have vw : vp_in (nI w) 6 := vp_in_nI (by omega) (by decide)
    refine ⟨vq, fun v6 d6 => ⟨vw, fun F7 e7 => ?_⟩⟩
    rw [e2, nI_clamp (by omega)] at d6
    rw [nI_clamp (by omega)] at e7
    unfold w_X6_add_6_J61
    rw [nI_clamp (by omega), hv3, hv2]
    refine ⟨fun z3 => ⟨vw, fun F1 e1 I2 d2 => ⟨fun q => absurd q (by decide), fun _ => ich _ ⟨fun _ => good _ ⟨fun _ => ⟨fun _ => ⟨vp_in_nI (by omega) (by decide), fun F8 g8 => ⟨vp_in_nI (by omega) (by decide), fun F9 g9 => ⟨fun _ => ?_, fun q => absurd z3 q⟩⟩⟩, fun q => absurd q (by omega)⟩, fun q => absurd q (by decide)⟩, fun q => absurd q (by decide)⟩⟩⟩, fun z3 => ⟨vw, fun F1 e1 I2 d2 => ⟨fun q => absurd q (by decide), fun _ => ich _ ⟨fun _ => good _ ⟨fun _ => ⟨fun _ => ⟨vp_in_nI (by omega) (by decide), fun F8 g8 => ⟨vp_in_nI (by omega) (by decide), fun F9 g9 => ⟨fun q => absurd q z3, fun _ => ?_⟩⟩⟩, fun q => absurd q (by omega)⟩, fun q => absurd q (by decide)⟩, fun q => absurd q (by decide)⟩⟩⟩⟩
    · rw [nI_clamp (by omega)] at g8 g9
      rw [c11] at d2
      refine fin 0 _ F7 F1 I2 e7 e1 d2 F8 F9 g8 g9 (Or.inr ⟨rfl, ?_⟩)
      rw [d6]
      rcases kd4 hq with rfl | rfl | rfl | rfl <;> decide
    · rw [nI_clamp (by omega)] at g8 g9
      rw [c11] at d2
      exact fin 1 _ F7 F1 I2 e7 e1 d2 F8 F9 g8 g9 (Or.inl ⟨rfl, d6⟩)
  · exact q1 _ ⟨fun q => absurd rfl q, fun _ => q2 _ _ ⟨fun q => absurd rfl q, fun _ => ⟨rfl, rfl, h0⟩⟩⟩
