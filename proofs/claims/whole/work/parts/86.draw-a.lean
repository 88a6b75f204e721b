/-! the player's own gap: the rows of 43, 45, 55 for its cell -/
theorem s_holds12 {p d : Nat} {I : Nat → Int32} {F : Nat → Nat → Int32} {post : Int32 → Prop} (h0 : hbI (I 24) p d = false → post 0) (h1 : hbI (I 24) p d = true → post 1) : w_X0_holds_12 (nI p) (nI d) I F post := by
  unfold w_X0_holds_12
  refine ⟨fun q => h0 ?_, fun q => h1 ?_⟩
  · unfold hbI; simp [q]
  · unfold hbI; simp [q]
theorem s_gapset12 {kd hd : Int32} {I : Nat → Int32} {F : Nat → Nat → Int32} {post : (Nat → Int32) → (Nat → Nat → Int32) → Prop} (h : ∀ I2 : Nat → Int32, I2 23 = nI (mostI kd) → (∀ p d, p < 7 → d < 3 → hbI (I2 24) p d = hT hd p d) → (∀ j, j ≠ 23 → j ≠ 24 → I2 j = I j) → post I2 F) : w_X0_set_12 kd hd I F post := by
  have key : ∀ m, mostI kd = m → w_X0_set_12_J20 hd (nI m) I F post := by
    intro m hm
    unfold w_X0_set_12_J20
    intro I9 e9 I10 e10
    have h17 : I10 23 = nI m := by rw [e10, pk_un (by decide), e9, pk_us]
    have h18 : I10 24 = 0 := by rw [e10, pk_us]
    have hj : ∀ j, j ≠ 23 → j ≠ 24 → I10 j = I j := fun j h1 h2 => by rw [e10, pk_un h2, e9, pk_un h1]
    refine gL_inv (fun p v => v.1 = nI p ∧ v.2.2 = F ∧ v.2.1 23 = nI m ∧ (∀ j, j ≠ 23 → j ≠ 24 → v.2.1 j = I j) ∧ ∀ i, i < 21 → bt (v.2.1 24) i = (decide (i < 3 * p) && hT hd (i / 3) (i % 3))) 7 ?_ ?_ ⟨rfl, rfl, h17, hj, fun i hi => ?_⟩
    · rintro p hp ⟨x3, J, K⟩ ⟨h3, hK, a1, a2, a3⟩ again hag
      dsimp only at h3 hK a1 a2 a3 ⊢
      subst h3
      subst hK
      unfold w_X0_set_12_B30
      refine ⟨fun q => absurd ((nI_leI (a := 7) (by omega) (by omega)).mp q) (by omega), fun _ => ?_⟩
      refine gL_inv (fun d v => v.1 = nI d ∧ v.2.2 = K ∧ v.2.1 23 = nI m ∧ (∀ j, j ≠ 23 → j ≠ 24 → v.2.1 j = I j) ∧ ∀ i, i < 21 → bt (v.2.1 24) i = (decide (i < 3 * p + d) && hT hd (i / 3) (i % 3))) 3 ?_ ?_ ⟨rfl, rfl, a1, a2, a3⟩
      · rintro d hd3 ⟨x4, J2, K2⟩ ⟨h4, hK2, b1, b2, b3⟩ again2 hag2
        dsimp only at h4 hK2 b1 b2 b3 ⊢
        subst h4
        subst hK2
        unfold w_X0_set_12_B39
        refine ⟨fun q => absurd ((nI_leI (a := 3) (by omega) (by omega)).mp q) (by omega), fun _ => s_tone hp hd3 ?_⟩
        intro v hv J3 eJ3
        have ht := tn_lt p d
        refine hag2 _ ⟨nI_1 d, rfl, ?_, ?_, ?_⟩
        · show J3 23 = nI m
          rw [eJ3, pk_un (by decide)]
          exact b1
        · intro j h1 h2
          show J3 j = I j
          rw [eJ3, pk_un h2]
          exact b2 j h1 h2
        · intro i hi
          show bt (J3 24) i = _
          rw [eJ3, pk_us, hv, show (3 : Int32) = nI 3 by decide, pk_mul, nI_add, bt_put _ _ (by omega) (by omega) (by omega), b3 i hi]
          by_cases e : i = p * 3 + d
          · rw [decide_eq_true e, decide_eq_false (show ¬ i < 3 * p + d by omega), decide_eq_true (show i < 3 * p + (d + 1) by omega), show i / 3 = p by omega, show i % 3 = d by omega]
            simp [hT]
          · rw [decide_eq_false e]
            by_cases e2 : i < 3 * p + d
            · rw [decide_eq_true e2, decide_eq_true (show i < 3 * p + (d + 1) by omega)]
              simp
            · rw [decide_eq_false e2, decide_eq_false (show ¬ i < 3 * p + (d + 1) by omega)]
              simp
      · rintro ⟨x4, J2, K2⟩ ⟨h4, hK2, b1, b2, b3⟩ again2
        dsimp only at h4 hK2 b1 b2 b3 ⊢
        subst h4
        subst hK2
        unfold w_X0_set_12_B39
        exact ⟨fun _ => hag _ ⟨nI_1 p, rfl, b1, b2, fun i hi => by rw [b3 i hi, show 3 * p + 3 = 3 * (p + 1) by omega]⟩, fun q => absurd (by decide) q⟩
    · rintro ⟨x3, J, K⟩ ⟨h3, hK, a1, a2, a3⟩ again
      dsimp only at h3 hK a1 a2 a3 ⊢
      subst h3
      subst hK
      unfold w_X0_set_12_B30
      refine ⟨fun _ => h J (by rw [hm]; exact a1) (fun p d hp hd3 => ?_) a2, fun q => absurd (by decide) q⟩
      rw [hbI_bt _ hp hd3, a3 _ (by omega), decide_eq_true (show 3 * p + d < 3 * 7 by omega), show (3 * p + d) / 3 = p by omega, show (3 * p + d) % 3 = d by omega]
      rfl
    · show bt (I10 24) i = _
      rw [h18, b_0, decide_eq_false (by omega)]
      rfl
  unfold w_X0_set_12
  refine ⟨fun h1 => ⟨fun h2 => ?_, fun h2 => ?_⟩, fun h1 => ?_⟩
  · exact key 2 (by unfold mostI; rw [if_neg h1, if_neg h2])
  · exact key 1 (by unfold mostI; rw [if_neg h1, if_pos h2])
  · exact key 0 (by unfold mostI; rw [if_pos h1])
theorem s_moves12 {s t M : Nat} {hbf : Nat → Nat → Bool} {I : Nat → Int32} {F : Nat → Nat → Int32} {post : Int32 → Prop} (hs : s < 2187) (ht : t < 2187) (hM : I 23 = nI M) (hM2 : M ≤ 2) (hh : ∀ p d, p < 7 → d < 3 → hbI (I 24) p d = hbf p d) (hy : ∀ o, o < 63 → af s o = t → mv o ≤ M → canS hbf s o = true → post (nI (mv o))) (hn : (∀ o, o < 63 → af s o = t → ¬ (mv o ≤ M ∧ canS hbf s o = true)) → post (-1)) : w_X0_movesBetween_12 (nI s) (nI t) I F post := by
  unfold w_X0_movesBetween_12
  refine gL_inv (fun p v => v.2.2 = nI p ∧ ∃ o, o < 63 ∧ canS hbf s o = true ∧ v.1 = nI (m1 (o % 7)) ∧ v.2.1 = nI (m1 (o / 7)) ∧ (o % 7 ≠ 0 → lp (o % 7) < p) ∧ (o / 7 ≠ 0 → rp (o / 7) < p) ∧ ∀ p', p' < p → pos (af s o) p' = pos t p') 7 ?_ ?_ ⟨rfl, 0, by decide, rfl, rfl, rfl, fun q => absurd rfl q, fun q => absurd rfl q, fun p' hp => absurd hp (by omega)⟩
  · rintro p hp ⟨x3, x4, x5⟩ ⟨h5, o, ho, hc, h3, h4, hl, hr, hag0⟩ again hag
    dsimp only at h3 h4 h5 ⊢
    subst h3
    subst h4
    subst h5
    have hps := pos_lt s p
    have hpt := pos_lt t p
    unfold w_X0_movesBetween_12_B8
    refine ⟨fun q => absurd ((nI_leI (a := 7) (by omega) (by omega)).mp q) (by omega), fun _ => s_pos hs hp (s_pos ht hp ?_)⟩
    rw [nI_eq (by omega) (by omega)]
    refine ⟨fun e => hag _ ⟨nI_1 p, o, ho, hc, rfl, rfl, fun q => by have := hl q; omega, fun q => by have := hr q; omega, fun p' hp' => ?_⟩, fun e => s_holds12 (fun hh0 => ⟨fun _ => ?_, fun q => absurd rfl q⟩) (fun hh1 => ⟨fun q => absurd q (by decide), fun _ => hn (fun o' ho' he' hc' => ?_)⟩)⟩
    · by_cases e2 : p' = p
      · subst e2
        rw [← e]
        by_cases h3 : p' < 3
        · rw [af_posL ho hs h3]
          by_cases h0 : o % 7 = 0
          · rw [if_pos h0]
          · rw [if_neg h0, if_neg (by have := hl h0; omega)]
        · rw [af_posR ho hs (by omega) hp]
          by_cases h0 : o / 7 = 0
          · rw [if_pos h0]
          · rw [if_neg h0, if_neg (by have := hr h0; omega)]
      · exact hag0 p' (by omega)
    · rw [hh p _ hp hps] at hh0
      refine ⟨fun q => ?_, fun q => ?_⟩
      · have hp3 : 3 ≤ p := (nI_leI (a := 3) (by omega) (by omega)).mp q
        refine ⟨fun q2 => ?_, fun _ => ?_⟩
        · have hm : m1 (o % 7) ≤ 1 := by unfold m1; split <;> omega
          rw [show (1 : Int32) = nI 1 by decide, nI_ltI (by omega) (by omega)] at q2
          omega
        · have hm2 : m1 (o / 7) ≤ 1 := by unfold m1; split <;> omega
          rw [nI_1, show (1 : Int32) = nI 1 by decide, nI_leI (by omega) (by omega)]
          refine ⟨fun q2 => ?_, fun q2 => hn (fun o' ho' he' hc' => ?_)⟩
          · have h0 : o / 7 = 0 := by
              unfold m1 at q2
              by_cases z : o / 7 = 0
              · exact z
              · rw [if_neg z] at q2; omega
            obtain ⟨kk, hk1, hk2⟩ : ∃ kk, (kk = 1 ∨ kk = 2) ∧ (pos s p + kk) % 3 = pos t p := by
              rcases (show (pos s p + 1) % 3 = pos t p ∨ (pos s p + 2) % 3 = pos t p by omega) with z | z
              · exact ⟨1, Or.inl rfl, z⟩
              · exact ⟨2, Or.inr rfl, z⟩
            have er : (7 * (2 * (p - 3) + kk) + o % 7) / 7 = 2 * (p - 3) + kk := by omega
            have el : (7 * (2 * (p - 3) + kk) + o % 7) % 7 = o % 7 := by omega
            have erp : rp (2 * (p - 3) + kk) = p := by unfold rp; omega
            have ebk : bk (2 * (p - 3) + kk) = kk := by unfold bk; omega
            have ho2 : 7 * (2 * (p - 3) + kk) + o % 7 < 63 := by omega
            refine hag _ ⟨nI_1 p, 7 * (2 * (p - 3) + kk) + o % 7, ho2, ?_, ?_, ?_, ?_, ?_, fun p' hp' => ?_⟩
            · unfold canS at hc ⊢
              rw [Bool.and_eq_true] at hc ⊢
              rw [el, er, erp]
              refine ⟨hc.1, ?_⟩
              rw [hh0]
              simp
            · show nI _ = nI _
              rw [el]
            · show nI _ = nI _
              rw [er, h0]
              unfold m1
              rw [if_pos rfl, if_neg (by omega)]
            · rw [el]
              intro z
              have := hl z
              omega
            · rw [er, erp]
              intro _
              omega
            · by_cases h3 : p' < 3
              · rw [af_posL ho2 hs h3, el, ← af_posL ho hs h3]
                exact hag0 p' (by omega)
              · rw [af_posR ho2 hs (by omega) (by omega), er, if_neg (by omega), erp, ebk]
                by_cases e2 : p' = p
                · rw [if_pos e2, e2]
                  exact hk2
                · rw [if_neg e2]
                  have h9 := hag0 p' (by omega)
                  rw [af_posR ho hs (by omega) (by omega), if_pos h0] at h9
                  exact h9
          · have hz : o / 7 ≠ 0 := by
              intro z
              apply q2
              unfold m1
              rw [if_pos z]
              omega
            have hr1 := hr hz
            have hd1 : pos s (rp (o / 7)) ≠ pos (af s o') (rp (o / 7)) := by
              rw [he', ← hag0 _ hr1, af_posR ho hs (rp_ge _) (rp_lt (by omega)), if_neg hz, if_pos rfl]
              have := pos_lt s (rp (o / 7))
              rcases bk_12 (o / 7) with w | w <;> rw [w] <;> omega
            have hd2 : pos s p ≠ pos (af s o') p := by rw [he']; exact e
            have hl3 := lp_lt (l := o' % 7) (by omega)
            rcases af_diff ho' hs (by omega) hd1 with ⟨-, z1⟩ | ⟨-, z1⟩
            · have := rp_ge (o / 7); omega
            · rcases af_diff ho' hs hp hd2 with ⟨-, z2⟩ | ⟨-, z2⟩
              · omega
              · omega
      · have hp3 : p < 3 := by
          apply Classical.byContradiction
          intro z
          exact q ((nI_leI (a := 3) (by omega) (by omega)).mpr (by omega))
        have hm : m1 (o % 7) ≤ 1 := by unfold m1; split <;> omega
        have hm2 : m1 (o / 7) ≤ 1 := by unfold m1; split <;> omega
        rw [nI_1, show (1 : Int32) = nI 1 by decide, nI_ltI (by omega) (by omega), nI_leI (by omega) (by omega)]
        refine ⟨fun q2 => hn (fun o' ho' he' hc' => ?_), fun q2 => ⟨fun _ => ?_, fun q3 => absurd hm2 q3⟩⟩
        · have hz : o % 7 ≠ 0 := by
            intro z
            unfold m1 at q2
            rw [if_pos z] at q2
            omega
          have hl1 := hl hz
          have hl3 := lp_lt (l := o % 7) (by omega)
          have hd1 : pos s (lp (o % 7)) ≠ pos (af s o') (lp (o % 7)) := by
            rw [he', ← hag0 _ hl1, af_posL ho hs hl3, if_neg hz, if_pos rfl]
            have := pos_lt s (lp (o % 7))
            rcases bk_12 (o % 7) with w | w <;> rw [w] <;> omega
          have hd2 : pos s p ≠ pos (af s o') p := by rw [he']; exact e
          have hr3 := rp_ge (o' / 7)
          rcases af_diff ho' hs (by omega) hd1 with ⟨-, z1⟩ | ⟨-, z1⟩
          · rcases af_diff ho' hs hp hd2 with ⟨-, z2⟩ | ⟨-, z2⟩
            · omega
            · omega
          · omega
        · have h0 : o % 7 = 0 := by
            unfold m1 at q2
            by_cases z : o % 7 = 0
            · exact z
            · rw [if_neg z] at q2; omega
          have h07 : o / 7 = 0 := by
            by_cases z : o / 7 = 0
            · exact z
            · have := hr z
              have := rp_ge (o / 7)
              omega
          obtain ⟨kk, hk1, hk2⟩ : ∃ kk, (kk = 1 ∨ kk = 2) ∧ (pos s p + kk) % 3 = pos t p := by
            rcases (show (pos s p + 1) % 3 = pos t p ∨ (pos s p + 2) % 3 = pos t p by omega) with z | z
            · exact ⟨1, Or.inl rfl, z⟩
            · exact ⟨2, Or.inr rfl, z⟩
          have er : (2 * p + kk) / 7 = 0 := by omega
          have el : (2 * p + kk) % 7 = 2 * p + kk := by omega
          have elp : lp (2 * p + kk) = p := by unfold lp; omega
          have ebk : bk (2 * p + kk) = kk := by unfold bk; omega
          have ho2 : 2 * p + kk < 63 := by omega
          refine hag _ ⟨by rw [← show (1 : Int32) = nI 1 by decide]; exact nI_1 p, 2 * p + kk, ho2, ?_, ?_, ?_, ?_, ?_, fun p' hp' => ?_⟩
          · unfold canS
            rw [Bool.and_eq_true, el, er, elp, hh0]
            simp
          · show nI _ = nI _
            rw [el, h0]
            unfold m1
            rw [if_pos rfl, if_neg (by omega)]
          · show nI _ = nI _
            rw [er, h07]
          · rw [el, elp]
            intro _
            omega
          · rw [er]
            intro z
            exact absurd rfl z
          · rw [af_posL ho2 hs (by omega), el, if_neg (by omega), elp, ebk]
            by_cases e2 : p' = p
            · rw [if_pos e2, e2]
              exact hk2
            · rw [if_neg e2]
              have h9 := hag0 p' (by omega)
              rw [af_posL ho hs (by omega), if_pos h0] at h9
              exact h9
    · rw [hh p _ hp hps] at hh1
      have hd2 : pos s p ≠ pos (af s o') p := by rw [he']; exact e
      have hc2 := hc'.2
      unfold canS at hc2
      rw [Bool.and_eq_true] at hc2
      rcases af_diff ho' hs hp hd2 with ⟨z1, z2⟩ | ⟨z1, z2⟩
      · have h9 := hc2.1
        rw [decide_eq_false z1, ← z2, hh1] at h9
        cases h9
      · have h9 := hc2.2
        rw [decide_eq_false z1, ← z2, hh1] at h9
        cases h9
  · rintro ⟨x3, x4, x5⟩ ⟨h5, o, ho, hc, h3, h4, hl, hr, hag0⟩ again
    dsimp only at h3 h4 h5 ⊢
    subst h3
    subst h4
    subst h5
    have he : af s o = t := pos_ext (af_lt ho hs) ht hag0
    have hmo : mv o ≤ 2 := by unfold mv m1; split <;> split <;> omega
    unfold w_X0_movesBetween_12_B8
    refine ⟨fun _ => ?_, fun q => absurd (by decide) q⟩
    dsimp only
    rw [nI_add, show m1 (o % 7) + m1 (o / 7) = mv o from rfl, hM, nI_ltI (by omega) (by omega)]
    refine ⟨fun q => hn (fun o' ho' he' hc' => ?_), fun q => hy o ho he (by omega) hc⟩
    have := af_same ho ho' hs (he.trans he'.symm)
    omega
