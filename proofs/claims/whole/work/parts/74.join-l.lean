/-! what fits a chord; joint: chord -/
def ffN (P : Nat → Bool) : Nat → Nat × Nat
  | 0 => (0, 2187)
  | j + 1 => if P j = true then ((ffN P j).1 + 1, if (ffN P j).1 = 0 then j else (ffN P j).2) else ffN P j
theorem ff_succ (P : Nat → Bool) (j : Nat) : ffN P (j + 1) = if P j = true then ((ffN P j).1 + 1, if (ffN P j).1 = 0 then j else (ffN P j).2) else ffN P j := rfl
theorem ff_spec (P : Nat → Bool) : ∀ j, ((ffN P j).1 = 0 ∧ ∀ i, i < j → P i = false) ∨ (0 < (ffN P j).1 ∧ (ffN P j).1 ≤ j ∧ (ffN P j).2 < j ∧ P (ffN P j).2 = true ∧ ∀ i, i < (ffN P j).2 → P i = false)
  | 0 => Or.inl ⟨rfl, fun i hi => absurd hi (by omega)⟩
  | j + 1 => by
    have ih := ff_spec P j
    rw [ff_succ]
    generalize ffN P j = f at ih ⊢
    by_cases h : P j = true
    · rw [if_pos h]
      right
      dsimp only
      rcases ih with ⟨a1, a2⟩ | ⟨a1, a2, a3, a4, a5⟩
      · rw [if_pos a1]
        exact ⟨by omega, by omega, by omega, h, a2⟩
      · have n1 : ¬ f.1 = 0 := by omega
        rw [if_neg n1]
        exact ⟨by omega, by omega, by omega, a4, a5⟩
    · rw [if_neg h]
      rcases ih with ⟨a1, a2⟩ | ⟨a1, a2, a3, a4, a5⟩
      · refine Or.inl ⟨a1, fun i hi => ?_⟩
        by_cases e : i = j
        · rw [e]
          exact Bool.eq_false_iff.mpr h
        · exact a2 i (by omega)
      · exact Or.inr ⟨a1, by omega, by omega, a4, a5⟩
def fitP (k t : Int32) (s : Nat) : Bool := fitI (hasR s 7) k t
theorem s_many {k t : Int32} {I : Nat → Int32} {F : Nat → Nat → Int32} {post : Int32 → Prop} (hT : ∀ s, s < 2187 → F 25 s = hasR s 7) (h : post (nI (ffN (fitP k t) TOP).1)) : w_X7_howManyFit_8 k t I F post := by
  unfold w_X7_howManyFit_8
  refine gL_inv (fun j v => v.2 = nI j ∧ v.1 = nI (ffN (fitP k t) j).1) TOP ?_ ?_ ⟨rfl, rfl⟩
  · rintro j hj ⟨x1, x2⟩ ⟨g2, g1⟩ again hag
    rw [TOP_eq] at hj
    dsimp only at g1 g2 ⊢
    subst g1
    subst g2
    have e := ff_succ (fitP k t) j
    generalize ffN (fitP k t) j = f at e ⊢
    unfold w_X7_howManyFit_8_B5
    refine ⟨fun q => absurd ((nI_leI (a := 2187) (by omega) (by omega)).mp q) (by omega), fun _ => s_fits hj (hT j hj) (fun z => ⟨fun q => absurd q (by decide), fun _ => hag _ ⟨nI_1 j, ?_⟩⟩) (fun z => ⟨fun _ => hag _ ⟨nI_1 j, ?_⟩, fun q => absurd rfl q⟩)⟩
    · have z2 : fitP k t j = true := z
      rw [e, if_pos z2]
      exact nI_1 _
    · have z2 : ¬ fitP k t j = true := fun x => by
        have : fitP k t j = false := z
        rw [this] at x
        exact absurd x (by decide)
      rw [e, if_neg z2]
  · rintro ⟨x1, x2⟩ ⟨g2, g1⟩ again
    dsimp only at g1 g2 ⊢
    rw [TOP_eq] at g2
    subst g2
    unfold w_X7_howManyFit_8_B5
    exact ⟨fun _ => by rw [g1]; exact h, fun q => absurd (by decide) q⟩
theorem s_leastFit {k t : Int32} {I : Nat → Int32} {F : Nat → Nat → Int32} {post : Int32 → Prop} (hT : ∀ s, s < 2187 → F 25 s = hasR s 7) (h : ∀ f, f = ffN (fitP k t) TOP → post (if f.1 = 0 then -1 else nI (tellN f.2 7))) : w_X7_leastThatFits_8 k t I F post := by
  unfold w_X7_leastThatFits_8
  have hh := h _ rfl
  have sp := ff_spec (fitP k t) TOP
  generalize ffN (fitP k t) TOP = f at hh sp
  rw [TOP_eq] at sp
  refine gL_inv (fun j v => v = nI j ∧ ∀ i, i < j → fitP k t i = false) TOP ?_ ?_ ⟨rfl, fun i hi => absurd hi (by omega)⟩
  · rintro j hj x ⟨g1, g2⟩ again hag
    rw [TOP_eq] at hj
    subst g1
    unfold w_X7_leastThatFits_8_B2
    refine ⟨fun q => absurd ((nI_leI (a := 2187) (by omega) (by omega)).mp q) (by omega), fun _ => s_fits hj (hT j hj) (fun z => ⟨fun q => absurd q (by decide), fun _ => s_number hj ?_⟩) (fun z => ⟨fun _ => hag _ ⟨nI_1 j, fun i hi => ?_⟩, fun q => absurd rfl q⟩)⟩
    · have z2 : fitP k t j = true := z
      rcases sp with ⟨a1, a2⟩ | ⟨a1, a2, a3, a4, a5⟩
      · have := a2 j hj
        rw [z2] at this
        exact absurd this (by decide)
      · have n1 : ¬ f.1 = 0 := by omega
        have l1 : ¬ f.2 < j := fun x => by
          have := g2 _ x
          rw [a4] at this
          exact absurd this (by decide)
        have l2 : ¬ j < f.2 := fun x => by
          have := a5 _ x
          rw [z2] at this
          exact absurd this (by decide)
        rw [if_neg n1, show f.2 = j by omega] at hh
        exact hh
    · by_cases e : i = j
      · rw [e]
        exact z
      · exact g2 i (by omega)
  · rintro x ⟨g1, g2⟩ again
    rw [TOP_eq] at g1 g2
    subst g1
    unfold w_X7_leastThatFits_8_B2
    refine ⟨fun _ => ?_, fun q => absurd (by decide) q⟩
    rcases sp with ⟨a1, a2⟩ | ⟨a1, a2, a3, a4, a5⟩
    · rw [if_pos a1] at hh
      exact hh
    · have := g2 _ a3
      rw [a4] at this
      exact absurd this (by decide)
theorem m_fitting {n b k : Nat} {a2 : Int32} {I : Nat → Int32} {F : Nat → Nat → Int32} {hs : Int64} {post : Int32 → (Nat → Int32) → (Nat → Nat → Int32) → Int64 → Prop} (hM : mTab F) (hn : n ≤ 8) (hk : k < n) (h3 : I 3 = nI n) (h4 : I 4 = nI b) (hb : b < 2187) (hc : cacheM n b I F)
    (h : ∀ I2 F2 f, kI [6, 7, 8, 9] I I2 → kF [16, 17, 18, 19, 20, 21] F F2 → cacheM n b I2 F2 → f = ffN (fitP (F 14 k) (F 15 k)) TOP → (a2 = 2 → post (nI f.1) I2 F2 hs) ∧ (¬ a2 = 2 → post (if f.1 = 0 then -1 else nI (tellN f.2 7)) I2 F2 hs)) : w_X9_fitting (nI k) a2 I F hs post := by
  unfold w_X9_fitting
  refine m_freshen hM hn (by omega) h3 h4 hb hc (fun I2 F2 a1 a2 a3 a4 => ?_)
  have hh := h I2 F2 _ a1 a2 (cacheM_of a2 a3 a4) rfl
  have hM2 : mTab F2 := mTab_of (fun j hj => a2 j (by simp; omega)) hM
  have e14 : F2 14 = F 14 := a2 14 (by decide)
  have e15 : F2 15 = F 15 := a2 15 (by decide)
  have sp := ff_spec (fitP (F 14 k) (F 15 k)) TOP
  refine gL_inv (fun j v => v.2.2 = nI j ∧ v.1 = nI (ffN (fitP (F 14 k) (F 15 k)) j).1 ∧ v.2.1 = (if (ffN (fitP (F 14 k) (F 15 k)) j).1 = 0 then -1 else nI (ffN (fitP (F 14 k) (F 15 k)) j).2)) TOP ?_ ?_ ⟨rfl, rfl, rfl⟩
  · rintro j hj ⟨x1, x2, x3⟩ ⟨g3, g1, g2⟩ again hag
    rw [TOP_eq] at hj
    dsimp only at g1 g2 g3 ⊢
    subst g1
    subst g2
    subst g3
    have e := ff_succ (fitP (F 14 k) (F 15 k)) j
    have spj := ff_spec (fitP (F 14 k) (F 15 k)) j
    generalize ffN (fitP (F 14 k) (F 15 k)) j = f at e spj ⊢
    have hf1 : f.1 ≤ j := by rcases spj with ⟨q, -⟩ | ⟨-, q, -⟩ <;> omega
    unfold w_X9_fitting_B12
    have hv : vp_in (nI k) 8 := vp_in_nI (by omega) (by decide)
    refine ⟨fun q => absurd ((nI_leI (a := 2187) (by omega) (by omega)).mp q) (by omega), fun _ => ⟨hv, hv, ?_⟩⟩
    rw [nI_clamp (by omega), e14, e15, nI_is0 (by omega)]
    refine m_isFitting hM2 hj (fun z => ?_) (fun z => ?_)
    · have z2 : fitP (F 14 k) (F 15 k) j = true := z
      rw [if_pos z2] at e
      refine ⟨fun q => absurd q (by decide), fun _ => ⟨fun q => ⟨fun y => absurd y (by decide), fun _ v10 e10 => hag _ ⟨nI_1 j, ?_⟩⟩, fun q => ⟨fun y => absurd y (by decide), fun _ v13 e13 => hag _ ⟨nI_1 j, ?_⟩⟩⟩⟩
      · rw [e]
        have n1 : ¬ f.1 + 1 = 0 := by omega
        dsimp only
        rw [if_neg n1, if_neg q, if_neg q]
        exact ⟨e10.trans (nI_1 _), rfl⟩
      · rw [e]
        have n1 : ¬ f.1 + 1 = 0 := by omega
        dsimp only
        rw [if_neg n1, if_pos q]
        exact ⟨e13.trans (nI_1 _), rfl⟩
    · have z2 : ¬ fitP (F 14 k) (F 15 k) j = true := fun x => by
        have : fitP (F 14 k) (F 15 k) j = false := z
        rw [this] at x
        exact absurd x (by decide)
      rw [if_neg z2] at e
      refine ⟨fun _ => ⟨fun _ v5 e5 => hag _ ⟨nI_1 j, ?_⟩, fun q => absurd rfl q⟩, fun q => absurd rfl q⟩
      rw [e]
      exact ⟨e5.trans (Int32.add_zero _), rfl⟩
  · rintro ⟨x1, x2, x3⟩ ⟨g3, g1, g2⟩ again
    dsimp only at g1 g2 g3 ⊢
    generalize ffN (fitP (F 14 k) (F 15 k)) TOP = f at g1 g2 hh sp
    rw [TOP_eq] at g3 sp
    subst g1
    subst g2
    subst g3
    have hf1 : f.1 ≤ 2187 := by rcases sp with ⟨q, -⟩ | ⟨-, q, -⟩ <;> omega
    unfold w_X9_fitting_B12
    refine ⟨fun _ => ⟨fun q => ?_, fun q => hh.1 q⟩, fun q => absurd (by decide) q⟩
    have h2 := hh.2 q
    rw [nI_is0 (by omega)]
    refine ⟨fun z => ?_, fun z => by rw [if_pos z] at h2; exact h2⟩
    rw [if_neg z] at h2 ⊢
    rcases sp with ⟨q, -⟩ | ⟨-, -, q, -⟩
    · exact absurd q z
    · exact m_told hM2 q h2
