/-! joint: plan, setting, reach, shifted, least shift, free -/
theorem m_lacks0 {n : Nat} {Im : Nat → Int32} {Fm : Nat → Nat → Int32} {hm : Int64} {post : Int32 → Prop} (h3 : Im 3 = nI n) (hn : n ≤ 8) (h : 0 < n → post 0) (h1 : n = 0 → post 1) : w_X9_lacks Im Fm hm post := by
  unfold w_X9_lacks
  rw [h3, nI_is0 (by omega)]
  exact ⟨fun q => h (by omega), fun q => h1 q⟩
theorem s_fewest0 {n b : Nat} {I : Nat → Int32} {F : Nat → Nat → Int32} {post : Int32 → (Nat → Int32) → (Nat → Nat → Int32) → Prop} (hn : n ≤ 8) (hb : b < 2187) (h8 : I 8 = nI n) (h7 : I 7 = nI b) (hTb : ∀ s, s < 2187 → F 25 s = hasR s 7) (hc : cacheF n b I F)
    (hp : ∀ I2 F2, kI [14, 15, 17, 18] I I2 → kF [26, 28, 29, 30] F F2 → cacheF n b I2 F2 → post (fewI (F 17) (F 18) 0 n b) I2 F2) : w_X3_fewest_9_4 (0 : Int32) I F post := by
  have e : nI 0 = (0 : Int32) := by decide
  have h := s_fewest (y := 0) (post := post) hn hb (by omega) h8 h7 hTb hc (fun I2 F2 a1 a2 a3 => by rw [e]; exact hp I2 F2 a1 a2 a3)
  rw [e] at h
  exact h
theorem j_plan {i : Nat} {a : Int32} {Ic Im : Nat → Int32} {Fc Fm : Nat → Nat → Int32} {hm : Int64} (h : RR i Ic Fc Im Fm) : w_X8_plan a Ic Fc (fun r Ic2 Fc2 => w_X9_plan a Im Fm hm (fun r2 Im2 Fm2 hm2 => r = r2 ∧ hm2 = hm ∧ RR i Ic2 Fc2 Im2 Fm2)) := by
  have h0 := h
  obtain ⟨n, b, g, w, p, s, hB, hC⟩ := h
  obtain ⟨hn, hb, hg, hw, hp, hs, ⟨c8, m3, c7, m4, hPR⟩, -, -, -, -, hT, hM⟩ := id hB
  have hE := PR_EQ hPR
  unfold w_X8_plan w_X9_plan
  refine ⟨fun q => in_i (l2 := 0) (h2 := 2) (by decide) (by decide) (fun _ => ⟨fun q => absurd rfl q, fun _ => ⟨rfl, rfl, h0⟩⟩) (fun z => absurd q z), fun q1 => ⟨fun q2 => ?_, fun q => in_i (l2 := 0) (h2 := 2) (by decide) (by decide) (fun _ => ⟨fun q => absurd rfl q, fun _ => ⟨rfl, rfl, h0⟩⟩) (fun _ z => absurd ?_ z)⟩⟩
  · have go : ∀ post : Int32 → Prop, post 1 → w_X9_in a.toInt64 0 2 Im Fm hm post := fun post hp => in_i (l2 := 0) (h2 := 2) (by decide) (by decide) (fun z => by
      exfalso
      rcases z with z | z
      · exact q1 z
      · rw [Int32.lt_iff_toInt_lt, show (2 : Int32).toInt = 2 by decide] at z
        rw [Int32.lt_iff_toInt_lt, show (3 : Int32).toInt = 3 by decide] at q2
        omega) (fun _ _ => hp)
    rw [c8, nI_is0 (by omega)]
    refine ⟨fun hn0 => ?_, fun hn0 => go _ ⟨fun _ => m_lacks0 m3 hn (fun z => absurd hn0 (by omega)) (fun _ => ⟨fun q => absurd q (by decide), fun _ => ⟨rfl, rfl, h0⟩⟩), fun q => absurd q (by decide)⟩⟩
    have hn1 : 0 < n := by omega
    refine ⟨fun e => ?_, fun e => ?_, fun e1 e2 => ?_⟩
    · subst e
      exact s_fewest0 hn hb c8 c7 hT hC.1 (fun I2 F2 a1 a2 a3 => go _ ⟨fun _ => m_lacks0 m3 hn (fun _ => ⟨fun _ => m_plan0 hM hn hn1 m3 m4 hb (hC.2.2 hn1) (fun I3 F3 b1 b2 b3 => ⟨fewI_congr 0 b hE, rfl, RR_plan hB hC a1 a2 a3 b1 b2 (fun _ => b3)⟩), fun q => absurd rfl q⟩) (fun z => absurd hn1 (by omega)), fun q => absurd q (by decide)⟩)
    · subst e
      exact s_ways hn hb c8 c7 hT hC.1 (fun I2 F2 a1 a2 a3 => go _ ⟨fun _ => m_lacks0 m3 hn (fun _ => ⟨fun _ => m_plan1 hM hn hn1 m3 m4 hb (hC.2.2 hn1) (fun I3 F3 b1 b2 b3 => ⟨congrArg nI (waysN_congr b hE), rfl, RR_plan hB hC a1 a2 a3 b1 b2 (fun _ => b3)⟩), fun q => absurd rfl q⟩) (fun z => absurd hn1 (by omega)), fun q => absurd q (by decide)⟩)
    · exact s_stuck hn hb c8 c7 hT hC.1 (fun I2 F2 a1 a2 a3 => go _ ⟨fun _ => m_lacks0 m3 hn (fun _ => ⟨fun _ => m_plan2 hM hn hn1 m3 m4 hb (hC.2.2 hn1) (fun I3 F3 b1 b2 b3 => ⟨stk_congr b hE, rfl, RR_plan hB hC a1 a2 a3 b1 b2 (fun _ => b3)⟩) e1 e2, fun q => absurd rfl q⟩) (fun z => absurd hn1 (by omega)), fun q => absurd q (by decide)⟩)
  · rw [Int32.lt_iff_toInt_lt, show (3 : Int32).toInt = 3 by decide] at q
    rw [Int32.lt_iff_toInt_lt, show (2 : Int32).toInt = 2 by decide]
    omega
theorem j_setting {i : Nat} {a : Int32} {Ic Im : Nat → Int32} {Fc Fm : Nat → Nat → Int32} {hm : Int64} (h : RR i Ic Fc Im Fm) : w_X8_setting a Ic Fc (fun r Ic2 Fc2 => w_X9_setting a Im Fm hm (fun r2 Im2 Fm2 hm2 => r = r2 ∧ hm2 = hm ∧ RR i Ic2 Fc2 Im2 Fm2)) := by
  have h0 := h
  obtain ⟨n, b, g, w, p, s, hB, hC⟩ := h
  obtain ⟨hn, hb, hg, hw, hp, hs, ⟨c8, m3, c7, m4, hPR⟩, -, -, -, -, hT, hM⟩ := id hB
  have hE := PR_EQ hPR
  unfold w_X8_setting w_X9_setting
  rcases has_cases (a := a) (Fc := Fc) (Fm := Fm) hn c8 m3 with ⟨k, hk, e⟩ | ⟨q1, q2⟩
  · subst e
    exact s_has hn c8 hk ⟨fun q => absurd q (by decide), fun _ => s_best hn hk hb c8 c7 hT (fun j hj => (hPR j hj).2) hC.2.1 (fun I2 F2 a1 a2 a3 => m_isChord hn m3 hk ⟨fun q => absurd q (by decide), fun _ => m_settingOf hM hn hk m3 m4 hb (hC.2.2 (by omega)) (fun I3 F3 b1 b2 b3 => ⟨setI_congr b hE hk, rfl, RR_best hB hC a1 a2 a3 b1 b2 (fun _ => b3)⟩)⟩)⟩
  · exact q1 _ ⟨fun _ => q2 _ _ ⟨fun _ => ⟨rfl, rfl, h0⟩, fun q => absurd rfl q⟩, fun q => absurd rfl q⟩
theorem j_reach {i : Nat} {a : Int32} {Ic Im : Nat → Int32} {Fc Fm : Nat → Nat → Int32} {hm : Int64} (h : RR i Ic Fc Im Fm) : w_X8_reach a Ic Fc (fun r Ic2 Fc2 => w_X9_reach a Im Fm hm (fun r2 Im2 Fm2 hm2 => r = r2 ∧ hm2 = hm ∧ RR i Ic2 Fc2 Im2 Fm2)) := by
  have h0 := h
  obtain ⟨n, b, g, w, p, s, hB, hC⟩ := h
  obtain ⟨hn, hb, hg, hw, hp, hs, ⟨c8, m3, c7, m4, hPR⟩, -, -, -, -, hT, hM⟩ := id hB
  have hE := PR_EQ hPR
  unfold w_X8_reach w_X9_reach
  rcases has_cases (a := a) (Fc := Fc) (Fm := Fm) hn c8 m3 with ⟨k, hk, e⟩ | ⟨q1, q2⟩
  · subst e
    exact s_has hn c8 hk ⟨fun q => absurd q (by decide), fun _ => s_reached hn hb hk c8 c7 hT hC.1 (fun I2 F2 a1 a2 a3 => m_isChord hn m3 hk ⟨fun q => absurd q (by decide), fun _ => m_reachOf hM hn hk m3 m4 hb (hC.2.2 (by omega)) (fun I3 F3 b1 b2 b3 => ⟨congrArg nI (rc_congr 0 b hE hk), rfl, RR_plan hB hC a1 a2 a3 b1 b2 (fun _ => b3)⟩)⟩)⟩
  · exact q1 _ ⟨fun _ => q2 _ _ ⟨fun _ => ⟨rfl, rfl, h0⟩, fun q => absurd rfl q⟩, fun q => absurd rfl q⟩
theorem j_free {i : Nat} {Ic Im : Nat → Int32} {Fc Fm : Nat → Nat → Int32} {hm : Int64} (h : RR i Ic Fc Im Fm) : w_X8_free Ic Fc (fun r Ic2 Fc2 => w_X9_free Im Fm hm (fun r2 Im2 Fm2 hm2 => r = r2 ∧ hm2 = hm ∧ RR i Ic2 Fc2 Im2 Fm2)) := by
  have h0 := h
  obtain ⟨n, b, g, w, p, s, hB, hC⟩ := h
  obtain ⟨hn, hb, hg, hw, hp, hs, ⟨c8, m3, c7, m4, hPR⟩, -, -, -, -, hT, hM⟩ := id hB
  have hE := PR_EQ hPR
  unfold w_X8_free w_X9_free
  rw [c8, nI_is0 (by omega)]
  refine ⟨fun hn0 => ?_, fun hn0 => m_lacks0 m3 hn (fun z => absurd hn0 (by omega)) (fun _ => ⟨fun q => absurd q (by decide), fun _ => ⟨rfl, rfl, h0⟩⟩)⟩
  have hn1 : 0 < n := by omega
  exact s_begin hn hn1 hb c8 c7 hT (fun j hj => (hPR j hj).2) hC.2.1 (fun I2 F2 a1 a2 a3 => m_lacks0 m3 hn (fun _ => ⟨fun _ => m_freeOf hM hn hn1 m3 (fun F3 b2 => ⟨freI_congr hE hn1, rfl, RR_best hB hC a1 a2 a3 (fun _ _ => rfl) (fun j hj => b2 j (fun z => hj (by simp at z ⊢; omega))) (fun _ => cacheM_keep (fun _ _ => rfl) (sF_of b2 (by decide)) (hC.2.2 hn1))⟩), fun q => absurd rfl q⟩) (fun z => absurd hn1 (by omega)))
theorem shift_cases {a : Int32} {Ic Im : Nat → Int32} {Fc Fm : Nat → Nat → Int32} : (∃ y, y < 12 ∧ a = nI y ∧ (∀ post, post 1 → w_X8_isShift a Ic Fc post) ∧ ∀ hm post, post 1 → w_X9_in a.toInt64 0 11 Im Fm hm post) ∨ ((∀ post, post 0 → w_X8_isShift a Ic Fc post) ∧ ∀ hm post, post 0 → w_X9_in a.toInt64 0 11 Im Fm hm post) := by
  have l11 : (11 : Int32) < a ↔ (12 : Int32) ≤ a := by
    rw [Int32.lt_iff_toInt_lt, Int32.le_iff_toInt_le, show (11 : Int32).toInt = 11 by decide, show (12 : Int32).toInt = 12 by decide]
    omega
  unfold w_X8_isShift
  by_cases q1 : a < 0
  · right
    exact ⟨fun post hp => ⟨fun _ => hp, fun q => absurd q1 q⟩, fun hm post hp => in_i (l2 := 0) (h2 := 11) (by decide) (by decide) (fun _ => hp) (fun z => absurd q1 z)⟩
  · by_cases q2 : (12 : Int32) ≤ a
    · right
      exact ⟨fun post hp => ⟨fun _ => hp, fun _ => ⟨fun _ => hp, fun q => absurd q2 q⟩⟩, fun hm post hp => in_i (l2 := 0) (h2 := 11) (by decide) (by decide) (fun _ => hp) (fun _ z => absurd (l11.mpr q2) z)⟩
    · left
      obtain ⟨y, hy, e⟩ := nI_n (n := 12) (by omega) q1 q2
      exact ⟨y, hy, e, fun post hp => ⟨fun q => absurd q q1, fun _ => ⟨fun q => absurd q q2, fun _ => hp⟩⟩, fun hm post hp => in_i (l2 := 0) (h2 := 11) (by decide) (by decide) (fun z => by
        exfalso
        rcases z with z | z
        · exact q1 z
        · exact q2 (l11.mp z)) (fun _ _ => hp)⟩
theorem j_shifted {i : Nat} {a : Int32} {Ic Im : Nat → Int32} {Fc Fm : Nat → Nat → Int32} {hm : Int64} (h : RR i Ic Fc Im Fm) : w_X8_shifted a Ic Fc (fun r Ic2 Fc2 => w_X9_shifted a Im Fm hm (fun r2 Im2 Fm2 hm2 => r = r2 ∧ hm2 = hm ∧ RR i Ic2 Fc2 Im2 Fm2)) := by
  have h0 := h
  obtain ⟨n, b, g, w, p, s, hB, hC⟩ := h
  obtain ⟨hn, hb, hg, hw, hp, hs, ⟨c8, m3, c7, m4, hPR⟩, -, -, -, -, hT, hM⟩ := id hB
  have hE := PR_EQ hPR
  unfold w_X8_shifted w_X9_shifted
  rcases shift_cases (a := a) (Ic := Ic) (Im := Im) (Fc := Fc) (Fm := Fm) with ⟨y, hy, e, q1, q2⟩ | ⟨q1, q2⟩
  · refine q1 _ ⟨fun _ => ?_, fun q => absurd q (by decide)⟩
    rw [c8, nI_is0 (by omega)]
    refine ⟨fun hn0 => ?_, fun hn0 => q2 _ _ ⟨fun _ => m_lacks0 m3 hn (fun z => absurd hn0 (by omega)) (fun _ => ⟨fun q => absurd q (by decide), fun _ => ⟨rfl, rfl, h0⟩⟩), fun q => absurd q (by decide)⟩⟩
    have hn1 : 0 < n := by omega
    subst e
    exact s_fewest hn hb hy c8 c7 hT hC.1 (fun I2 F2 a1 a2 a3 => q2 _ _ ⟨fun _ => m_lacks0 m3 hn (fun _ => ⟨fun _ => m_shiftedOf hM hn hn1 m3 m4 hb (fun I3 F3 b1 b2 b3 => ⟨fewI_congr (nI y) b hE, rfl, RR_plan hB hC a1 a2 a3 b1 b2 (fun _ => Or.inl b3)⟩), fun q => absurd rfl q⟩) (fun z => absurd hn1 (by omega)), fun q => absurd q (by decide)⟩)
  · exact q1 _ ⟨fun q => absurd rfl q, fun _ => q2 _ _ ⟨fun q => absurd rfl q, fun _ => ⟨rfl, rfl, h0⟩⟩⟩
theorem j_least {i : Nat} {Ic Im : Nat → Int32} {Fc Fm : Nat → Nat → Int32} {hm : Int64} (h : RR i Ic Fc Im Fm) : w_X8_leastShift Ic Fc (fun r Ic2 Fc2 => w_X9_leastShift Im Fm hm (fun r2 Im2 Fm2 hm2 => r = r2 ∧ hm2 = hm ∧ RR i Ic2 Fc2 Im2 Fm2)) := by
  have h0 := h
  obtain ⟨n, b, g, w, p, s, hB, hC⟩ := h
  obtain ⟨hn, hb, hg, hw, hp, hs, ⟨c8, m3, c7, m4, hPR⟩, hPg, hSn, ⟨c0, m5, c1, m10⟩, hKp, hT, hM⟩ := id hB
  have hE := PR_EQ hPR
  unfold w_X8_leastShift w_X9_leastShift
  rw [c8, nI_is0 (by omega), c1]
  refine ⟨fun hn0 => m_lacks0 m3 hn (fun z => absurd hn0 (by omega)) (fun _ => ⟨fun _ => ⟨rfl, rfl, h0⟩, fun q => absurd q (by decide)⟩), fun hn0 => ?_⟩
  have hn1 : 0 < n := by omega
  have e5 : nI s < (5 : Int32) ↔ s < 5 := by
    rw [Int32.lt_iff_toInt_lt, nI_toInt (by omega), show (5 : Int32).toInt = 5 by decide]
    omega
  have f5 : nI s = (5 : Int32) ↔ s = 5 := by
    rw [show (5 : Int32) = nI 5 by decide]
    exact nI_eq (by omega) (by omega)
  rw [e5, m10, f5]
  refine ⟨fun q5 I9 e9 => ?_, fun q5 => m_lacks0 m3 hn (fun _ => ⟨fun q => absurd rfl q, fun _ => ⟨fun q => absurd (show s = 5 by omega) q, fun _ => ⟨rfl, rfl, h0⟩⟩⟩) (fun z => absurd hn1 (by omega))⟩
  have k1 : ∀ j, j ≠ 1 → I9 j = Ic j := fun j hj => by rw [e9, pk_un hj]
  refine s_least hn hb (by rw [k1 8 (by decide)]; exact c8) (by rw [k1 7 (by decide)]; exact c7) hT (cacheF_keep (fun j hj => k1 j (fun z => by subst z; exact absurd hj (by decide))) (fun _ _ => rfl) hC.1) (fun I2 F2 a1 a2 a3 => m_lacks0 m3 hn (fun _ => ⟨fun q => absurd rfl q, fun _ => ⟨fun _ I17 e17 => ?_, fun q => absurd q (by omega)⟩⟩) (fun z => absurd hn1 (by omega)))
  have k2 : ∀ j, j ≠ 10 → I17 j = Im j := fun j hj => by rw [e17, pk_un hj]
  refine m_least hM hn hn1 (by rw [k2 3 (by decide)]; exact m3) (by rw [k2 4 (by decide)]; exact m4) hb (cacheM_keep (fun j hj => k2 j (fun z => by subst z; exact absurd hj (by decide))) (fun _ _ => rfl) (hC.2.2 hn1)) (fun I3 F3 b1 b2 b3 => ⟨lsI_congr b hE, rfl, ?_⟩)
  have hB2 : RB i n b g w p (s + 1) I9 Fc I17 Fm := by
    refine ⟨hn, hb, hg, hw, hp, by omega, ?_, ?_, ?_, ⟨by rw [k1 0 (by decide)]; exact c0, by rw [k2 5 (by decide)]; exact m5, by rw [e9, pk_us]; exact nI_1 s, by rw [e17, pk_us]; exact nI_1 s⟩, ?_, hT, hM⟩
    · unfold RPart
      rw [k1 8 (by decide), k1 7 (by decide), k2 3 (by decide), k2 4 (by decide)]
      exact ⟨c8, m3, c7, m4, hPR⟩
    · unfold RPage
      rw [k1 2 (by decide), k2 0 (by decide)]
      exact hPg
    · unfold RSeen
      rw [k1 11 (by decide), k2 11 (by decide)]
      exact hSn
    · unfold RKept
      rw [k1 10 (by decide), k1 9 (by decide), k1 12 (by decide), k2 14 (by decide), k2 5 (by decide), k2 15 (by decide), k2 16 (by decide), k2 17 (by decide)]
      exact hKp
  have hC2 : RCac n b I9 Fc I17 Fm := ⟨cacheF_keep (fun j hj => k1 j (fun z => by subst z; exact absurd hj (by decide))) (fun _ _ => rfl) hC.1, cacheB_keep (fun j hj => k1 j (fun z => by subst z; exact absurd hj (by decide))) (fun _ _ => rfl) hC.2.1, fun hn => cacheM_keep (fun j hj => k2 j (fun z => by subst z; exact absurd hj (by decide))) (fun _ _ => rfl) (hC.2.2 hn)⟩
  exact RR_plan hB2 hC2 a1 a2 a3 b1 b2 (fun _ => b3)
