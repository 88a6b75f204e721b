/-! the reference: what the planner's methods answer -/
theorem am_eq {f g : Nat → Nat} {N : Nat} (hN : N = 2187) (hf : ∀ s, s < 2187 → f s = 99999 ∨ f s < 99999) (hg : ∀ s, s < 2187 → g s = 99999 ∨ g s < 99999) (ha : ∀ s, s < 2187 → f s ≠ 99999 → g s ≤ f s) (hb : ∀ s, s < 2187 → g s ≠ 99999 → ∃ u m, u < 2187 ∧ g s = m + f u ∧ f u ≠ 99999 ∧ (m = 0 → u = s)) : (am f N).1 = (am g N).1 := by
  have h1 := am_spec f N (by omega)
  have h2 := am_spec g N (by omega)
  generalize am f N = p at h1 ⊢
  generalize am g N = q at h2 ⊢
  subst hN
  rcases h1 with ⟨a1, a2, a3⟩ | ⟨a1, a2, a3, a4, a5⟩
  · rcases h2 with ⟨b1, b2, b3⟩ | ⟨b1, b2, b3, b4, b5⟩
    · omega
    · obtain ⟨u, m, c1, c2, c3, c4⟩ := hb q.1 b1 (by omega)
      have := a3 u c1
      have := hf u c1
      omega
  · have e1 := ha p.1 a1 (by omega)
    rcases h2 with ⟨b1, b2, b3⟩ | ⟨b1, b2, b3, b4, b5⟩
    · have := b3 p.1 a1
      omega
    · have e2 := b4 p.1 a1
      obtain ⟨u, m, c1, c2, c3, c4⟩ := hb q.1 b1 (by omega)
      have e3 := a4 u c1
      have hm : m = 0 := by omega
      have e4 := c4 hm
      subst e4
      have l1 : ¬ q.1 < p.1 := fun z => by have := a5 _ z; omega
      have l2 : ¬ p.1 < q.1 := fun z => by have := b5 _ z; omega
      omega
theorem af_0 (s : Nat) : af s 0 = s := rfl
theorem mv_0 {o : Nat} (ho : o < 63) (h : mv o = 0) : o = 0 := by
  unfold mv m1 at h
  have h1 : o % 7 = 0 := by
    apply Classical.byContradiction
    intro z
    rw [if_neg z] at h
    split at h <;> omega
  have h2 : o / 7 = 0 := by
    apply Classical.byContradiction
    intro z
    rw [if_neg z] at h
    split at h <;> omega
  omega
theorem bg_BR (K T : Nat → Int32) {n : Nat} (hn : n ≤ 8) (hn0 : 0 < n) : bgN K T n = (am (fun s => mc (BR K T 0 n n s)) TOP).1 := by
  unfold bgN
  refine am_eq TOP_eq (fun s hs => ?_) (fun s hs => ?_) (fun s hs h => ?_) (fun s hs h => ?_)
  · rcases mc_cases (by omega) (OW_bd K T 0 (n := n) (k := 0) hn hs) with ⟨h1, -⟩ | ⟨h1, -⟩
    · exact Or.inl h1
    · exact Or.inr (by omega)
  · rcases mc_cases (by omega) (BR_bd K T 0 (n := n) (d := n) hn hs) with ⟨h1, -⟩ | ⟨h1, -⟩
    · exact Or.inl h1
    · exact Or.inr (by omega)
  · have h2 := mc_step_le K T 0 (n := n) (k := 0) (s := s) (o := 0) hn hn0 hs (by omega) (Nat.zero_le _) (by rfl) (by rw [af_0]; exact h)
    rw [Nat.sub_zero, af_0, show mv 0 = 0 by decide, Nat.zero_add] at h2
    exact h2
  · obtain ⟨o, a1, a2, a3, a4, a5⟩ := mc_step_ex K T 0 (n := n) (k := 0) hn hn0 hs (by rw [Nat.sub_zero]; exact h)
    rw [Nat.sub_zero] at a4
    refine ⟨af s o, mv o, af_lt a1 hs, a4.symm, a5, fun z => ?_⟩
    rw [mv_0 a1 z, af_0]
theorem cacheM_of {n b : Nat} {I2 : Nat → Int32} {F F2 : Nat → Nat → Int32} (hF : kF [16, 17, 18, 19, 20, 21] F F2) (h6 : I2 6 = 0) (hv : validM n b (F 14) (F 15) I2 F2) : cacheM n b I2 F2 := by
  refine Or.inr ⟨h6, ?_⟩
  rw [hF 14 (by decide), hF 15 (by decide)]
  exact hv
theorem mc_mNo {K T : Nat → Int32} {y : Int32} {n b : Nat} (hn : n ≤ 8) (hb : b < 2187) : (99999 : Int32) ≤ nI (mc (BR K T y n n b)) ↔ mc (BR K T y n n b) = 99999 := by
  have h : mc (BR K T y n n b) ≤ 99999 := by
    rcases mc_cases (by omega) (BR_bd K T y (n := n) (d := n) hn hb) with ⟨h1, -⟩ | ⟨h1, -⟩ <;> omega
  rw [show (99999 : Int32) = nI 99999 by decide, nI_leI (by omega) (by omega)]
  omega
theorem m_plan0 {n b : Nat} {I : Nat → Int32} {F : Nat → Nat → Int32} {hs : Int64} {post : Int32 → (Nat → Int32) → (Nat → Nat → Int32) → Int64 → Prop} (hM : mTab F) (hn : n ≤ 8) (hn0 : 0 < n) (h3 : I 3 = nI n) (h4 : I 4 = nI b) (hb : b < 2187) (hc : cacheM n b I F)
    (h : ∀ I2 F2, kI [6, 7, 8, 9] I I2 → kF [16, 17, 18, 19, 20, 21] F F2 → cacheM n b I2 F2 → post (fewI (F 14) (F 15) 0 n b) I2 F2 hs) : w_X9_planOf 0 I F hs post := by
  unfold w_X9_planOf
  refine m_freshen hM hn hn0 h3 h4 hb hc (fun I2 F2 a1 a2 a3 a4 => ⟨fun q => absurd rfl q, fun _ => ?_⟩)
  have hh := h I2 F2 a1 a2 (cacheM_of a2 a3 a4)
  unfold fewI at hh
  rw [a4.1, mc_mNo hn hb]
  refine ⟨fun q => ?_, fun q => ?_⟩
  · rw [if_pos q] at hh
    exact hh
  · rw [if_neg q] at hh
    exact hh
theorem m_plan1 {n b : Nat} {I : Nat → Int32} {F : Nat → Nat → Int32} {hs : Int64} {post : Int32 → (Nat → Int32) → (Nat → Nat → Int32) → Int64 → Prop} (hM : mTab F) (hn : n ≤ 8) (hn0 : 0 < n) (h3 : I 3 = nI n) (h4 : I 4 = nI b) (hb : b < 2187) (hc : cacheM n b I F)
    (h : ∀ I2 F2, kI [6, 7, 8, 9] I I2 → kF [16, 17, 18, 19, 20, 21] F F2 → cacheM n b I2 F2 → post (nI (waysN (F 14) (F 15) n b)) I2 F2 hs) : w_X9_planOf 1 I F hs post := by
  unfold w_X9_planOf
  refine m_freshen hM hn hn0 h3 h4 hb hc (fun I2 F2 a1 a2 a3 a4 => ⟨fun _ => ⟨fun q => absurd rfl q, fun _ => ?_⟩, fun q => absurd q (by decide)⟩)
  rw [a4.2.1]
  exact h I2 F2 a1 a2 (cacheM_of a2 a3 a4)
theorem m_plan2 {n b : Nat} {I : Nat → Int32} {F : Nat → Nat → Int32} {hs : Int64} {post : Int32 → (Nat → Int32) → (Nat → Nat → Int32) → Int64 → Prop} (hM : mTab F) (hn : n ≤ 8) (hn0 : 0 < n) (h3 : I 3 = nI n) (h4 : I 4 = nI b) (hb : b < 2187) (hc : cacheM n b I F)
    (h : ∀ I2 F2, kI [6, 7, 8, 9] I I2 → kF [16, 17, 18, 19, 20, 21] F F2 → cacheM n b I2 F2 → post (stk (F 14) (F 15) b n) I2 F2 hs) {a : Int32} (h0 : ¬ a = 0) (h1 : ¬ a = 1) : w_X9_planOf a I F hs post := by
  unfold w_X9_planOf
  refine m_freshen hM hn hn0 h3 h4 hb hc (fun I2 F2 a1 a2 a3 a4 => ⟨fun _ => ⟨fun q => ?_, fun q => absurd q h1⟩, fun q => absurd q h0⟩)
  rw [a4.2.2.1]
  exact h I2 F2 a1 a2 (cacheM_of a2 a3 a4)
theorem m_settingOf {n b k : Nat} {I : Nat → Int32} {F : Nat → Nat → Int32} {hs : Int64} {post : Int32 → (Nat → Int32) → (Nat → Nat → Int32) → Int64 → Prop} (hM : mTab F) (hn : n ≤ 8) (hk : k < n) (h3 : I 3 = nI n) (h4 : I 4 = nI b) (hb : b < 2187) (hc : cacheM n b I F)
    (h : ∀ I2 F2, kI [6, 7, 8, 9] I I2 → kF [16, 17, 18, 19, 20, 21] F F2 → cacheM n b I2 F2 → post (setI (F 14) (F 15) n b k) I2 F2 hs) : w_X9_settingOf (nI k) I F hs post := by
  unfold w_X9_settingOf
  refine m_freshen hM hn (by omega) h3 h4 hb hc (fun I2 F2 a1 a2 a3 a4 => ⟨vp_in_nI (by omega) (by decide), ?_⟩)
  have hh := h I2 F2 a1 a2 (cacheM_of a2 a3 a4)
  rw [nI_clamp (by omega), (a4.2.2.2 k hk).1]
  rcases bestI_cases (F 14) (F 15) hn hb hk with ⟨c1, c2⟩ | ⟨s, c0, c1, c2⟩
  · rw [c1]
    rw [c2] at hh
    exact ⟨fun q => absurd rfl q, fun _ => hh⟩
  · rw [c1]
    rw [c2] at hh
    exact ⟨fun _ => ⟨vp_in_nI (by omega) (by decide), m_told (mTab_of (fun j hj => a2 j (by simp; omega)) hM) c0 hh⟩, fun q => absurd q (neg1_nI (by omega))⟩
theorem m_reachOf {n b k : Nat} {I : Nat → Int32} {F : Nat → Nat → Int32} {hs : Int64} {post : Int32 → (Nat → Int32) → (Nat → Nat → Int32) → Int64 → Prop} (hM : mTab F) (hn : n ≤ 8) (hk : k < n) (h3 : I 3 = nI n) (h4 : I 4 = nI b) (hb : b < 2187) (hc : cacheM n b I F)
    (h : ∀ I2 F2, kI [6, 7, 8, 9] I I2 → kF [16, 17, 18, 19, 20, 21] F F2 → cacheM n b I2 F2 → post (nI (rc (F 14) (F 15) 0 b k)) I2 F2 hs) : w_X9_reachOf (nI k) I F hs post := by
  unfold w_X9_reachOf
  refine m_freshen hM hn (by omega) h3 h4 hb hc (fun I2 F2 a1 a2 a3 a4 => ⟨vp_in_nI (by omega) (by decide), ?_⟩)
  rw [nI_clamp (by omega), (a4.2.2.2 k hk).2]
  exact h I2 F2 a1 a2 (cacheM_of a2 a3 a4)
theorem m_shiftedOf {n b : Nat} {y : Int32} {I : Nat → Int32} {F : Nat → Nat → Int32} {hs : Int64} {post : Int32 → (Nat → Int32) → (Nat → Nat → Int32) → Int64 → Prop} (hM : mTab F) (hn : n ≤ 8) (hn0 : 0 < n) (h3 : I 3 = nI n) (h4 : I 4 = nI b) (hb : b < 2187)
    (h : ∀ I2 F2, kI [6, 7, 8, 9] I I2 → kF [16, 17, 18, 19, 20, 21] F F2 → I2 6 = 1 → post (fewI (F 14) (F 15) y n b) I2 F2 hs) : w_X9_shiftedOf y I F hs post := by
  unfold w_X9_shiftedOf
  refine m_layRest hM hn h3 (fun F2 a1 a2 a3 => ?_)
  have e14 : F2 14 = F 14 := a1 14 (by decide)
  have e15 : F2 15 = F 15 := a1 15 (by decide)
  refine m_bestFromE (s := b) (k := 0) (n := n) h4 rfl (mTab_of (fun j hj => a1 j (by simp; omega)) hM) hb hn0 hn (by rw [e14, e15]; exact fun u hu => a2 0 u hn0 hu) (by rw [e14, e15]; exact fun u hu => a3 0 u hn0 hu) ?_
  intro I5 e5
  have hh := h I5 F2 (fun j hj => by rw [e5, pk_un (fun z => hj (by rw [z]; decide))]) (fun j hj => a1 j (fun z => hj (by simp at z ⊢; omega))) (by rw [e5, pk_us])
  unfold fewI at hh
  rw [Nat.sub_zero, e14, e15, mc_mNo hn hb]
  refine ⟨fun q => ?_, fun q => ?_⟩
  · rw [if_pos q] at hh
    exact hh
  · rw [if_neg q] at hh
    exact hh
theorem m_freeOf {n : Nat} {I : Nat → Int32} {F : Nat → Nat → Int32} {hs : Int64} {post : Int32 → (Nat → Int32) → (Nat → Nat → Int32) → Int64 → Prop} (hM : mTab F) (hn : n ≤ 8) (hn0 : 0 < n) (h3 : I 3 = nI n)
    (h : ∀ F2, kF [16, 17] F F2 → post (freI (F 14) (F 15) n) I F2 hs) : w_X9_freeOf I F hs post := by
  unfold w_X9_freeOf
  refine m_layRest hM hn h3 (fun F2 a1 a2 a3 => ?_)
  have e14 : F2 14 = F 14 := a1 14 (by decide)
  have e15 : F2 15 = F 15 := a1 15 (by decide)
  have hM2 : mTab F2 := mTab_of (fun j hj => a1 j (by simp; omega)) hM
  have hh := h F2 a1
  generalize F 14 = K at *
  generalize F 15 = T at *
  have hfin : ∀ p : Nat × Nat, p = am (fun s => mc (BR K T 0 n n s)) TOP → bgN K T n = p.1 := fun p hp => by
    rw [hp]
    exact bg_BR K T hn hn0
  have hcs := bgN_cases K T n
  unfold bgI at hcs
  refine gL_inv (fun j v => v.2.2 = nI j ∧ v.1 = (if (am (fun s => mc (BR K T 0 n n s)) j).1 = 2187 then -1 else nI (am (fun s => mc (BR K T 0 n n s)) j).1) ∧ v.2.1 = nI (am (fun s => mc (BR K T 0 n n s)) j).2) TOP ?_ ?_ ⟨rfl, rfl, rfl⟩
  · rintro j hj ⟨x1, x2, x3⟩ ⟨g3, g1, g2⟩ again hag
    rw [TOP_eq] at hj
    dsimp only at g1 g2 g3 ⊢
    subst g1
    subst g2
    subst g3
    have hle := am_spec (fun s => mc (BR K T 0 n n s)) j (by omega)
    have e : am (fun s => mc (BR K T 0 n n s)) (j + 1) = if mc (BR K T 0 n n j) < (am (fun s => mc (BR K T 0 n n s)) j).2 then (j, mc (BR K T 0 n n j)) else am (fun s => mc (BR K T 0 n n s)) j := rfl
    generalize am (fun s => mc (BR K T 0 n n s)) j = p at e hle ⊢
    have hp2 : p.2 ≤ 99999 := by rcases hle with ⟨-, q, -⟩ | ⟨-, -, q, -⟩ <;> omega
    have hm2 : mc (BR K T 0 n n j) ≤ 99999 := by
      rcases mc_cases (by omega) (BR_bd K T 0 (n := n) (d := n) hn hj) with ⟨h1, -⟩ | ⟨h1, -⟩ <;> omega
    unfold w_X9_freeOf_B12
    refine ⟨fun q => absurd ((nI_leI (a := 2187) (by omega) (by omega)).mp q) (by omega), fun _ => m_bestFromE (s := j) (k := 0) (n := n) rfl rfl hM2 hj hn0 hn (by rw [e14, e15]; exact fun u hu => a2 0 u hn0 hu) (by rw [e14, e15]; exact fun u hu => a3 0 u hn0 hu) ?_⟩
    rw [Nat.sub_zero, e14, e15]
    generalize mc (BR K T 0 n n j) = m at e hm2 ⊢
    rw [nI_leI (by omega) (by omega)]
    refine ⟨fun q => ⟨fun _ => hag _ ⟨nI_1 j, ?_⟩, fun q2 => absurd q q2⟩, fun q => ⟨fun q2 => absurd q2 q, fun _ => hag _ ⟨nI_1 j, ?_⟩⟩⟩
    · have n1 : ¬ m < p.2 := by omega
      rw [e, if_neg n1]
      exact ⟨rfl, rfl⟩
    · have n1 : m < p.2 := by omega
      have n2 : ¬ j = 2187 := by omega
      rw [e, if_pos n1]
      dsimp only
      rw [if_neg n2]
      exact ⟨rfl, rfl⟩
  · rintro ⟨x1, x2, x3⟩ ⟨g3, g1, g2⟩ again
    dsimp only at g1 g2 g3 ⊢
    rw [← hfin _ rfl] at g1
    rw [TOP_eq] at g3
    subst g3
    subst g1
    unfold w_X9_freeOf_B12
    refine ⟨fun _ => ?_, fun q => absurd (by decide) q⟩
    rcases hcs with ⟨c1, c2⟩ | ⟨s, c0, c1, c2⟩
    · rw [c1]
      rw [c2] at hh
      exact ⟨fun q => absurd rfl q, fun _ => hh⟩
    · rw [c1]
      rw [c2] at hh
      exact ⟨fun _ => m_told hM2 c0 hh, fun q => absurd q (neg1_nI (by omega))⟩
