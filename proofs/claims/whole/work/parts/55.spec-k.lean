/-! how many pedals are moved from one setting to another; the best next setting -/
theorem af_posL {s o p : Nat} (ho : o < 63) (hs : s < 2187) (hp : p < 3) : pos (af s o) p = if o % 7 = 0 then pos s p else if p = lp (o % 7) then (pos s p + bk (o % 7)) % 3 else pos s p := by
  have hl : o % 7 < 7 := by omega
  have hl3 := lp_lt hl
  unfold af
  rw [pos_aR_l (by omega) hp (aL_lt hl hs)]
  unfold aL
  by_cases h0 : o % 7 = 0
  · rw [if_pos h0, if_pos h0]
  · rw [if_neg h0, if_neg h0]
    by_cases h1 : p = lp (o % 7)
    · rw [if_pos h1, h1, pos_turn (by omega) hs]
    · rw [if_neg h1, pos_turn_ne (by omega) (by omega) (fun q => h1 q.symm) hs]
theorem af_posR {s o p : Nat} (ho : o < 63) (hs : s < 2187) (hp : 3 ≤ p) (hp7 : p < 7) : pos (af s o) p = if o / 7 = 0 then pos s p else if p = rp (o / 7) then (pos s p + bk (o / 7)) % 3 else pos s p := by
  have hl : o % 7 < 7 := by omega
  have hr : o / 7 < 9 := by omega
  have hu := aL_lt hl hs
  unfold af aR
  by_cases h0 : o / 7 = 0
  · rw [if_pos h0, if_pos h0, pos_aL_r hl hp hp7 hs]
  · rw [if_neg h0, if_neg h0]
    by_cases h1 : p = rp (o / 7)
    · rw [if_pos h1, h1, pos_turn (rp_lt hr) hu, pos_aL_r hl (rp_ge _) (rp_lt hr) hs]
    · rw [if_neg h1, pos_turn_ne (rp_lt hr) hp7 (fun q => h1 q.symm) hu, pos_aL_r hl hp hp7 hs]
theorem bk_12 (l : Nat) : bk l = 1 ∨ bk l = 2 := by unfold bk; omega
/-- which pedals a choice moves -/
theorem af_diff {s o p : Nat} (ho : o < 63) (hs : s < 2187) (hp : p < 7) (h : pos s p ≠ pos (af s o) p) : (o % 7 ≠ 0 ∧ p = lp (o % 7)) ∨ (o / 7 ≠ 0 ∧ p = rp (o / 7)) := by
  by_cases h3 : p < 3
  · rw [af_posL ho hs h3] at h
    by_cases h0 : o % 7 = 0
    · rw [if_pos h0] at h; exact absurd rfl h
    · rw [if_neg h0] at h
      by_cases h1 : p = lp (o % 7)
      · exact Or.inl ⟨h0, h1⟩
      · rw [if_neg h1] at h; exact absurd rfl h
  · rw [af_posR ho hs (by omega) hp] at h
    by_cases h0 : o / 7 = 0
    · rw [if_pos h0] at h; exact absurd rfl h
    · rw [if_neg h0] at h
      by_cases h1 : p = rp (o / 7)
      · exact Or.inr ⟨h0, h1⟩
      · rw [if_neg h1] at h; exact absurd rfl h
theorem af_same {s o o2 : Nat} (ho : o < 63) (ho2 : o2 < 63) (hs : s < 2187) (h : af s o = af s o2) : mv o = mv o2 := by
  have one : ∀ a b, a < 63 → b < 63 → af s a = af s b → a % 7 ≠ 0 → b % 7 ≠ 0 := by
    intro a b ha hb2 hab h0 h1
    have hl := lp_lt (l := a % 7) (by omega)
    have e1 := af_posL (p := lp (a % 7)) ha hs hl
    have e2 := af_posL (p := lp (a % 7)) hb2 hs hl
    rw [if_neg h0, if_pos rfl, hab, e2, if_pos h1] at e1
    have hp := pos_lt s (lp (a % 7))
    rcases bk_12 (a % 7) with q | q <;> rw [q] at e1 <;> omega
  have two : ∀ a b, a < 63 → b < 63 → af s a = af s b → a / 7 ≠ 0 → b / 7 ≠ 0 := by
    intro a b ha hb2 hab h0 h1
    have hl := rp_lt (r := a / 7) (by omega)
    have e1 := af_posR (p := rp (a / 7)) ha hs (rp_ge _) hl
    have e2 := af_posR (p := rp (a / 7)) hb2 hs (rp_ge _) hl
    rw [if_neg h0, if_pos rfl, hab, e2, if_pos h1] at e1
    have hp := pos_lt s (rp (a / 7))
    rcases bk_12 (a / 7) with q | q <;> rw [q] at e1 <;> omega
  have a1 := one o o2 ho ho2 h
  have a2 := one o2 o ho2 ho h.symm
  have b1 := two o o2 ho ho2 h
  have b2 := two o2 o ho2 ho h.symm
  unfold mv m1
  by_cases c1 : o % 7 = 0 <;> by_cases c2 : o2 % 7 = 0 <;> by_cases d1 : o / 7 = 0 <;> by_cases d2 : o2 / 7 = 0 <;> simp [c1, c2, d1, d2] <;> first | exact absurd c2 (a1 c1) | exact absurd c1 (a2 c2) | exact absurd d2 (b1 d1) | exact absurd d1 (b2 d2) | skip
theorem s_moves {s t M : Nat} {hbf : Nat → Nat → Bool} {I : Nat → Int32} {F : Nat → Nat → Int32} {post : Int32 → Prop} (hs : s < 2187) (ht : t < 2187) (hM : I 17 = nI M) (hM2 : M ≤ 2) (hh : ∀ p d, p < 7 → d < 3 → hbI (I 18) p d = hbf p d) (hy : ∀ o, o < 63 → af s o = t → mv o ≤ M → canS hbf s o = true → post (nI (mv o))) (hn : (∀ o, o < 63 → af s o = t → ¬ (mv o ≤ M ∧ canS hbf s o = true)) → post (-1)) : w_X0_movesBetween_10 (nI s) (nI t) I F post := by
  unfold w_X0_movesBetween_10
  refine gL_inv (fun p v => v.2.2 = nI p ∧ ∃ o, o < 63 ∧ canS hbf s o = true ∧ v.1 = nI (m1 (o % 7)) ∧ v.2.1 = nI (m1 (o / 7)) ∧ (o % 7 ≠ 0 → lp (o % 7) < p) ∧ (o / 7 ≠ 0 → rp (o / 7) < p) ∧ ∀ p', p' < p → pos (af s o) p' = pos t p') 7 ?_ ?_ ⟨rfl, 0, by decide, rfl, rfl, rfl, fun q => absurd rfl q, fun q => absurd rfl q, fun p' hp => absurd hp (by omega)⟩
  · rintro p hp ⟨x3, x4, x5⟩ ⟨h5, o, ho, hc, h3, h4, hl, hr, hag0⟩ again hag
    dsimp only at h3 h4 h5 ⊢
    subst h3
    subst h4
    subst h5
    have hps := pos_lt s p
    have hpt := pos_lt t p
    unfold w_X0_movesBetween_10_B8
    refine ⟨fun q => absurd ((nI_leI (a := 7) (by omega) (by omega)).mp q) (by omega), fun _ => s_pos hs hp (s_pos ht hp ?_)⟩
    rw [nI_eq (by omega) (by omega)]
    refine ⟨fun e => hag _ ⟨nI_1 p, o, ho, hc, rfl, rfl, fun q => by have := hl q; omega, fun q => by have := hr q; omega, fun p' hp' => ?_⟩, fun e => s_holds (fun hh0 => ⟨fun _ => ?_, fun q => absurd rfl q⟩) (fun hh1 => ⟨fun q => absurd q (by decide), fun _ => hn (fun o' ho' he' hc' => ?_)⟩)⟩
    · by_cases e2 : p' = p
      · subst e2
        rw [← e]
        by_cases h3 : p' < 3
        · rw [af_posL ho hs h3]
          by_cases h0 : o % 7 = 0
          · rw [if_pos h0]
          · rw [if_neg h0, if_neg (by have := hl h0; omega)]
        · rw [af_posR ho hs (by omega) hp]
          by_cases h0 : o / 7 = 0
          · rw [if_pos h0]
          · rw [if_neg h0, if_neg (by have := hr h0; omega)]
      · exact hag0 p' (by omega)
    · rw [hh p _ hp hps] at hh0
      refine ⟨fun q => ?_, fun q => ?_⟩
      · have hp3 : 3 ≤ p := (nI_leI (a := 3) (by omega) (by omega)).mp q
        refine ⟨fun q2 => ?_, fun _ => ?_⟩
        · have hm : m1 (o % 7) ≤ 1 := by unfold m1; split <;> omega
          rw [show (1 : Int32) = nI 1 by decide, nI_ltI (by omega) (by omega)] at q2
          omega
        · have hm2 : m1 (o / 7) ≤ 1 := by unfold m1; split <;> omega
          rw [nI_1, show (1 : Int32) = nI 1 by decide, nI_leI (by omega) (by omega)]
          refine ⟨fun q2 => ?_, fun q2 => hn (fun o' ho' he' hc' => ?_)⟩
          · have h0 : o / 7 = 0 := by
              unfold m1 at q2
              by_cases z : o / 7 = 0
              · exact z
              · rw [if_neg z] at q2; omega
            obtain ⟨kk, hk1, hk2⟩ : ∃ kk, (kk = 1 ∨ kk = 2) ∧ (pos s p + kk) % 3 = pos t p := by
              rcases (show (pos s p + 1) % 3 = pos t p ∨ (pos s p + 2) % 3 = pos t p by omega) with z | z
              · exact ⟨1, Or.inl rfl, z⟩
              · exact ⟨2, Or.inr rfl, z⟩
            have er : (7 * (2 * (p - 3) + kk) + o % 7) / 7 = 2 * (p - 3) + kk := by omega
            have el : (7 * (2 * (p - 3) + kk) + o % 7) % 7 = o % 7 := by omega
            have erp : rp (2 * (p - 3) + kk) = p := by unfold rp; omega
            have ebk : bk (2 * (p - 3) + kk) = kk := by unfold bk; omega
            have ho2 : 7 * (2 * (p - 3) + kk) + o % 7 < 63 := by omega
            refine hag _ ⟨nI_1 p, 7 * (2 * (p - 3) + kk) + o % 7, ho2, ?_, ?_, ?_, ?_, ?_, fun p' hp' => ?_⟩
            · unfold canS at hc ⊢
              rw [Bool.and_eq_true] at hc ⊢
              rw [el, er, erp]
              refine ⟨hc.1, ?_⟩
              rw [hh0]
              simp
            · show nI _ = nI _
              rw [el]
            · show nI _ = nI _
              rw [er, h0]
              unfold m1
              rw [if_pos rfl, if_neg (by omega)]
            · rw [el]
              intro z
              have := hl z
              omega
            · rw [er, erp]
              intro _
              omega
            · by_cases h3 : p' < 3
              · rw [af_posL ho2 hs h3, el, ← af_posL ho hs h3]
                exact hag0 p' (by omega)
              · rw [af_posR ho2 hs (by omega) (by omega), er, if_neg (by omega), erp, ebk]
                by_cases e2 : p' = p
                · rw [if_pos e2, e2]
                  exact hk2
                · rw [if_neg e2]
                  have h9 := hag0 p' (by omega)
                  rw [af_posR ho hs (by omega) (by omega), if_pos h0] at h9
                  exact h9
          · have hz : o / 7 ≠ 0 := by
              intro z
              apply q2
              unfold m1
              rw [if_pos z]
              omega
            have hr1 := hr hz
            have hd1 : pos s (rp (o / 7)) ≠ pos (af s o') (rp (o / 7)) := by
              rw [he', ← hag0 _ hr1, af_posR ho hs (rp_ge _) (rp_lt (by omega)), if_neg hz, if_pos rfl]
              have := pos_lt s (rp (o / 7))
              rcases bk_12 (o / 7) with w | w <;> rw [w] <;> omega
            have hd2 : pos s p ≠ pos (af s o') p := by rw [he']; exact e
            have hl3 := lp_lt (l := o' % 7) (by omega)
            rcases af_diff ho' hs (by omega) hd1 with ⟨-, z1⟩ | ⟨-, z1⟩
            · have := rp_ge (o / 7); omega
            · rcases af_diff ho' hs hp hd2 with ⟨-, z2⟩ | ⟨-, z2⟩
              · omega
              · omega
      · have hp3 : p < 3 := by
          apply Classical.byContradiction
          intro z
          exact q ((nI_leI (a := 3) (by omega) (by omega)).mpr (by omega))
        have hm : m1 (o % 7) ≤ 1 := by unfold m1; split <;> omega
        have hm2 : m1 (o / 7) ≤ 1 := by unfold m1; split <;> omega
        rw [nI_1, show (1 : Int32) = nI 1 by decide, nI_ltI (by omega) (by omega), nI_leI (by omega) (by omega)]
        refine ⟨fun q2 => hn (fun o' ho' he' hc' => ?_), fun q2 => ⟨fun _ => ?_, fun q3 => absurd hm2 q3⟩⟩
        · have hz : o % 7 ≠ 0 := by
            intro z
            unfold m1 at q2
            rw [if_pos z] at q2
            omega
          have hl1 := hl hz
          have hl3 := lp_lt (l := o % 7) (by omega)
          have hd1 : pos s (lp (o % 7)) ≠ pos (af s o') (lp (o % 7)) := by
            rw [he', ← hag0 _ hl1, af_posL ho hs hl3, if_neg hz, if_pos rfl]
            have := pos_lt s (lp (o % 7))
            rcases bk_12 (o % 7) with w | w <;> rw [w] <;> omega
          have hd2 : pos s p ≠ pos (af s o') p := by rw [he']; exact e
          have hr3 := rp_ge (o' / 7)
          rcases af_diff ho' hs (by omega) hd1 with ⟨-, z1⟩ | ⟨-, z1⟩
          · rcases af_diff ho' hs hp hd2 with ⟨-, z2⟩ | ⟨-, z2⟩
            · omega
            · omega
          · omega
        · have h0 : o % 7 = 0 := by
            unfold m1 at q2
            by_cases z : o % 7 = 0
            · exact z
            · rw [if_neg z] at q2; omega
          have h07 : o / 7 = 0 := by
            by_cases z : o / 7 = 0
            · exact z
            · have := hr z
              have := rp_ge (o / 7)
              omega
          obtain ⟨kk, hk1, hk2⟩ : ∃ kk, (kk = 1 ∨ kk = 2) ∧ (pos s p + kk) % 3 = pos t p := by
            rcases (show (pos s p + 1) % 3 = pos t p ∨ (pos s p + 2) % 3 = pos t p by omega) with z | z
            · exact ⟨1, Or.inl rfl, z⟩
            · exact ⟨2, Or.inr rfl, z⟩
          have er : (2 * p + kk) / 7 = 0 := by omega
          have el : (2 * p + kk) % 7 = 2 * p + kk := by omega
          have elp : lp (2 * p + kk) = p := by unfold lp; omega
          have ebk : bk (2 * p + kk) = kk := by unfold bk; omega
          have ho2 : 2 * p + kk < 63 := by omega
          refine hag _ ⟨by rw [← show (1 : Int32) = nI 1 by decide]; exact nI_1 p, 2 * p + kk, ho2, ?_, ?_, ?_, ?_, ?_, fun p' hp' => ?_⟩
          · unfold canS
            rw [Bool.and_eq_true, el, er, elp, hh0]
            simp
          · show nI _ = nI _
            rw [el, h0]
            unfold m1
            rw [if_pos rfl, if_neg (by omega)]
          · show nI _ = nI _
            rw [er, h07]
          · rw [el, elp]
            intro _
            omega
          · rw [er]
            intro z
            exact absurd rfl z
          · rw [af_posL ho2 hs (by omega), el, if_neg (by omega), elp, ebk]
            by_cases e2 : p' = p
            · rw [if_pos e2, e2]
              exact hk2
            · rw [if_neg e2]
              have h9 := hag0 p' (by omega)
              rw [af_posL ho hs (by omega), if_pos h0] at h9
              exact h9
    · rw [hh p _ hp hps] at hh1
      have hd2 : pos s p ≠ pos (af s o') p := by rw [he']; exact e
      have hc2 := hc'.2
      unfold canS at hc2
      rw [Bool.and_eq_true] at hc2
      rcases af_diff ho' hs hp hd2 with ⟨z1, z2⟩ | ⟨z1, z2⟩
      · have h9 := hc2.1
        rw [decide_eq_false z1, ← z2, hh1] at h9
        cases h9
      · have h9 := hc2.2
        rw [decide_eq_false z1, ← z2, hh1] at h9
        cases h9
  · rintro ⟨x3, x4, x5⟩ ⟨h5, o, ho, hc, h3, h4, hl, hr, hag0⟩ again
    dsimp only at h3 h4 h5 ⊢
    subst h3
    subst h4
    subst h5
    have he : af s o = t := pos_ext (af_lt ho hs) ht hag0
    have hmo : mv o ≤ 2 := by unfold mv m1; split <;> split <;> omega
    unfold w_X0_movesBetween_10_B8
    refine ⟨fun _ => ?_, fun q => absurd (by decide) q⟩
    dsimp only
    rw [nI_add, show m1 (o % 7) + m1 (o / 7) = mv o from rfl, hM, nI_ltI (by omega) (by omega)]
    refine ⟨fun q => hn (fun o' ho' he' hc' => ?_), fun q => hy o ho he (by omega) hc⟩
    have := af_same ho ho' hs (he.trans he'.symm)
    omega
