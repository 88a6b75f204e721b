/-! the class: best plan, best begin, numbers told; what planner's methods answer -/
def am (f : Nat → Nat) : Nat → Nat × Nat
  | 0 => (2187, 99999)
  | j + 1 => if f j < (am f j).2 then (j, f j) else am f j
theorem am_spec (f : Nat → Nat) : ∀ j, j ≤ 2187 → ((am f j).1 = 2187 ∧ (am f j).2 = 99999 ∧ ∀ i, i < j → 99999 ≤ f i) ∨ ((am f j).1 < j ∧ f (am f j).1 = (am f j).2 ∧ (am f j).2 < 99999 ∧ (∀ i, i < j → (am f j).2 ≤ f i) ∧ ∀ i, i < (am f j).1 → (am f j).2 < f i)
  | 0, _ => Or.inl ⟨rfl, rfl, fun i hi => absurd hi (by omega)⟩
  | j + 1, h => by
    have ih := am_spec f j (by omega)
    have e : am f (j + 1) = if f j < (am f j).2 then (j, f j) else am f j := rfl
    rw [e]
    by_cases hlt : f j < (am f j).2
    · rw [if_pos hlt]
      right
      dsimp only
      rcases ih with ⟨a1, a2, a3⟩ | ⟨a1, a2, a3, a4, a5⟩
      · exact ⟨by omega, rfl, by omega, fun i hi => by
          by_cases e2 : i = j
          · rw [e2]; exact Nat.le_refl _
          · have := a3 i (by omega); omega, fun i hi => by have := a3 i hi; omega⟩
      · exact ⟨by omega, rfl, by omega, fun i hi => by
          by_cases e2 : i = j
          · rw [e2]; exact Nat.le_refl _
          · have := a4 i (by omega); omega, fun i hi => by have := a4 i hi; omega⟩
    · rw [if_neg hlt]
      rcases ih with ⟨a1, a2, a3⟩ | ⟨a1, a2, a3, a4, a5⟩
      · refine Or.inl ⟨a1, a2, fun i hi => ?_⟩
        by_cases e2 : i = j
        · rw [e2]; omega
        · exact a3 i (by omega)
      · refine Or.inr ⟨by omega, a2, a3, fun i hi => ?_, a5⟩
        by_cases e2 : i = j
        · rw [e2]; omega
        · exact a4 i (by omega)
theorem topE : ∃ N : Nat, N = 2187 := ⟨_, rfl⟩
noncomputable def TOP : Nat := Classical.choose topE
theorem TOP_eq : TOP = 2187 := Classical.choose_spec topE
noncomputable def bgN (K T : Nat → Int32) (n : Nat) : Nat := (am (fun s => mc (OW K T 0 n 0 s)) TOP).1
noncomputable def bgI (K T : Nat → Int32) (n : Nat) : Int32 := if bgN K T n = 2187 then -1 else nI (bgN K T n)
theorem bgI_am {K T : Nat → Int32} {n : Nat} {a : Nat × Nat} (ha : a = am (fun s => mc (OW K T 0 n 0 s)) TOP) : (if a.1 = 2187 then (-1 : Int32) else nI a.1) = bgI K T n := by
  subst ha
  rfl
theorem s_settingOf {r B : Nat} {G : Nat → Nat → Nat} {I : Nat → Int32} {F : Nat → Nat → Int32} {post : Int32 → Prop} (hB : B < 64) (hE : ∀ t, t < 2187 → LdB B (G t) (F r t)) (h : ∀ a : Nat × Nat, a = am (fun s => mc (G s)) TOP → post (if a.1 = 2187 then -1 else nI a.1)) : w_X3_settingOfBestScore_r r I F post := by
  unfold w_X3_settingOfBestScore_r
  refine gL_inv (fun j v => v.2.2 = nI j ∧ v.1 = (if (am (fun s => mc (G s)) j).1 = 2187 then -1 else nI (am (fun s => mc (G s)) j).1) ∧ v.2.1 = nI (if (am (fun s => mc (G s)) j).2 = 99999 then 1024 else (am (fun s => mc (G s)) j).2) ∧ ((am (fun s => mc (G s)) j).2 = 99999 ∨ (am (fun s => mc (G s)) j).2 ≤ B)) TOP ?_ ?_ ⟨rfl, rfl, rfl, Or.inl rfl⟩
  · rintro j hj ⟨x1, x2, x3⟩ ⟨h3, h1, h2, h4⟩ again hag
    dsimp only at h1 h2 h3 ⊢
    subst h1
    subst h2
    subst h3
    have hmc := LdB_mc hB (hE j (by rw [TOP_eq] at hj; exact hj))
    have e : am (fun s => mc (G s)) (j + 1) = if mc (G j) < (am (fun s => mc (G s)) j).2 then (j, mc (G j)) else am (fun s => mc (G s)) j := rfl
    rw [TOP_eq] at hj
    generalize am (fun s => mc (G s)) j = p at e h4 ⊢
    have hv : vp_in (nI j) 2187 := vp_in_nI hj (by decide)
    have hsh : ∃ z, z ≤ 1024 ∧ (F r j) >>> ((20 : Int32) &&& 31) = nI z ∧ ((mc (G j) = 99999 ∧ z = 1024) ∨ (mc (G j) = z ∧ z ≤ B)) := by
      rcases hmc with ⟨a1, a2⟩ | ⟨a1, a2, a3⟩
      · refine ⟨1024, by omega, ?_, Or.inl ⟨a2, rfl⟩⟩
        rw [a1, zc_NO, zc_shr (by omega) (by omega)]
      · exact ⟨mc (G j), by omega, a3, Or.inr ⟨rfl, a2⟩⟩
    obtain ⟨z, z1, z2, z3⟩ := hsh
    generalize mc (G j) = m at e z3 ⊢
    have hcl : (if p.2 = 99999 then 1024 else p.2) ≤ 1024 := by split <;> omega
    unfold w_X3_settingOfBestScore_r_B8
    rw [nI_clamp (by omega), z2, nI_leI (by omega) (by omega)]
    refine ⟨fun q => absurd ((nI_leI (a := 2187) (by omega) (by omega)).mp q) (by omega), fun _ => ⟨hv, fun q => hag _ ⟨nI_1 j, ?_⟩, fun q => ⟨hv, fun v3 e3 => hag _ ⟨nI_1 j, ?_⟩⟩⟩⟩
    · have hnl : ¬ m < p.2 := by
        by_cases h9 : p.2 = 99999
        · rw [if_pos h9] at q; omega
        · rw [if_neg h9] at q; omega
      rw [e, if_neg hnl]
      exact ⟨rfl, rfl, h4⟩
    · have hl : m < p.2 := by
        by_cases h9 : p.2 = 99999
        · rw [if_pos h9] at q; omega
        · rw [if_neg h9] at q; omega
      have hz : m = z ∧ z ≤ B := by
        rcases z3 with ⟨w1, w2⟩ | w
        · exfalso
          rcases h4 with h9 | h9 <;> omega
        · exact w
      rw [e, if_pos hl]
      dsimp only
      have n1 : ¬ j = 2187 := by omega
      have n2 : ¬ m = 99999 := by omega
      rw [if_neg n1, if_neg n2]
      exact ⟨rfl, e3.trans (congrArg nI hz.1.symm), Or.inr (by omega)⟩
  · rintro ⟨x1, x2, x3⟩ ⟨h3, h1, h2, h4⟩ again
    dsimp only at h1 h2 h3 ⊢
    rw [TOP_eq] at h3
    subst h3
    unfold w_X3_settingOfBestScore_r_B8
    exact ⟨fun _ => by rw [h1]; exact h _ rfl, fun q => absurd (by decide) q⟩
def cacheB (n b : Nat) (I : Nat → Int32) (F : Nat → Nat → Int32) : Prop := I 16 = 0 ∨ (I 16 = 1 ∧ I 13 = bgI (F 17) (F 18) n ∧ ∀ k, k < n → F 27 k = bestI (F 17) (F 18) n b k)
theorem s_followBest {n b : Nat} {I : Nat → Int32} {F : Nat → Nat → Int32} {post : (Nat → Int32) → (Nat → Nat → Int32) → Prop} (hn : n ≤ 8) (hb : b < 2187) (h8 : I 8 = nI n) (h7 : I 7 = nI b) (hO : OWrows (F 17) (F 18) n F)
    (hp : ∀ I2 F2, kI [17, 18] I I2 → (∀ r, r ≠ 27 → F2 r = F r) → (∀ k, k < n → F2 27 k = bestI (F 17) (F 18) n b k) → post I2 F2) : w_X3_followBest_9_4 I F post := by
  unfold w_X3_followBest_9_4
  intro v ev
  rw [h7] at ev
  subst ev
  generalize hKe : F 17 = K at *
  generalize hTe : F 18 = T at *
  refine gL_inv (fun k v => v.2.1 = nI k ∧ kI [17, 18] I v.2.2.1 ∧ (∀ r, r ≠ 27 → v.2.2.2 r = F r) ∧ (∀ i, i < k → v.2.2.2 27 i = bestI K T n b i) ∧ v.1 = (if mc (BR K T 0 n n b) = 99999 then (if k = 0 then nI b else -1) else nI (bsS K T n b k))) n ?_ ?_ ⟨rfl, fun _ _ => rfl, fun _ _ => rfl, fun i hi => absurd hi (by omega), ?_⟩
  · rintro k hk ⟨x2, x3, J, L⟩ ⟨h3, hJ, hL, hP, h2⟩ again hag
    dsimp only at h3 hJ hL hP h2 ⊢
    subst h3
    have e8 : J 8 = nI n := by rw [hJ 8 (by decide)]; exact h8
    have l17 : L 17 = K := by rw [hL 17 (by decide)]; exact hKe
    have l18 : L 18 = T := by rw [hL 18 (by decide)]; exact hTe
    have hvk : vp_in (nI k) 8 := vp_in_nI (by omega) (by decide)
    have put : ∀ (z : Int32) (J2 : Nat → Int32) (F3 : Nat → Nat → Int32), kI [17, 18] I J2 → z = bestI K T n b k → F3 = upF L 27 (upd (L 27) k z) → again (z, nI k + (1 : Int32), J2, F3) := by
      intro z J2 F3 hJ2 hz e3
      refine hag _ ⟨nI_1 k, hJ2, fun r hr => ?_, fun i hi => ?_, ?_⟩
      · show F3 r = F r
        rw [e3, upF_n _ _ hr]
        exact hL r hr
      · show F3 27 i = _
        rw [e3, upF_s]
        by_cases e : i = k
        · subst e
          rw [pk_us]
          exact hz
        · rw [pk_un e]
          exact hP i (by omega)
      · show z = _
        rw [hz]
        unfold bestI
        by_cases hno : mc (BR K T 0 n n b) = 99999
        · have n1 : ¬ k + 1 = 0 := by omega
          rw [if_pos hno, if_pos hno, if_neg n1]
        · rw [if_neg hno, if_neg hno]
    unfold w_X3_followBest_9_4_B7
    rw [nI_clamp (by omega)]
    refine ⟨fun q => absurd ((nI_leI (a := n) (b := k) (by omega) (by omega)).mp (by rw [e8] at q; exact q)) (by omega), fun _ => ⟨fun q => ⟨hvk, fun F3 e3 => ?_⟩, fun q => s_gapAhead (by omega) (fun J3 b1 b2 b3 => ⟨hvk, ?_⟩)⟩⟩
    · refine put _ J F3 hJ ?_ e3
      unfold bestI
      by_cases hno : mc (BR K T 0 n n b) = 99999
      · rw [if_pos hno]; exact q
      · rw [if_neg hno] at h2
        rw [h2] at q
        exact absurd q (neg1_nI (by have := (bsS_ok K T hn hb hno k (by omega)).1; omega))
    · have hJ3 : kI [17, 18] I J3 := fun j hj => by
        rw [b3 j (fun z => hj (by rw [z]; decide)) (fun z => hj (by rw [z]; decide))]
        exact hJ j hj
      rw [l17] at b1
      rw [l17, l18] at b2
      have hrow : ∀ t, t < 2187 → LdB 32 (OW K T 0 n k t) (L (31 + k) t) := fun t ht => by
        rw [hL (31 + k) (by omega)]
        exact hO k t hk ht
      by_cases hno : mc (BR K T 0 n n b) = 99999
      · rw [if_pos hno] at h2
        have hk0 : k = 0 := by
          apply Classical.byContradiction
          intro z
          rw [if_neg z] at h2
          exact q h2
        subst hk0
        rw [if_pos rfl] at h2
        subst h2
        refine s_bestNext (K := K) (T := T) (n := n) (k := 0) hn hk hb (by omega) b1 b2 hrow ⟨hvk, fun F8 e8' => put _ J3 F8 hJ3 ?_ e8'⟩
        unfold bestI
        rw [Nat.sub_zero, if_pos hno, if_pos hno]
      · rw [if_neg hno] at h2
        subst h2
        obtain ⟨hs, hs2⟩ := bsS_ok K T hn hb hno k (by omega)
        refine s_bestNext (K := K) (T := T) (n := n) (k := k) hn hk hs (by omega) b1 b2 hrow ⟨hvk, fun F8 e8' => put _ J3 F8 hJ3 ?_ e8'⟩
        unfold bestI
        rw [if_neg (hs2 hk), if_neg hno]
        rfl
  · rintro ⟨x2, x3, J, L⟩ ⟨h3, hJ, hL, hP, h2⟩ again
    dsimp only at h3 hJ hL hP h2 ⊢
    subst h3
    have e8 : J 8 = nI n := by rw [hJ 8 (by decide)]; exact h8
    unfold w_X3_followBest_9_4_B7
    exact ⟨fun _ => hp J L hJ hL hP, fun q => absurd (by rw [e8]; exact Int32.le_refl _) q⟩
  · show nI b = _
    split <;> rfl
theorem s_findBest {n b : Nat} {I : Nat → Int32} {F : Nat → Nat → Int32} {post : (Nat → Int32) → (Nat → Nat → Int32) → Prop} (hn : n ≤ 8) (hn0 : 0 < n) (hb : b < 2187) (h8 : I 8 = nI n) (h7 : I 7 = nI b) (hTb : ∀ s, s < 2187 → F 25 s = hasR s 7) (htn : ∀ k, k < n → ∃ t, t < 4096 ∧ F 18 k = nI t) (hc : cacheB n b I F)
    (hp : ∀ I2 F2, kI [13, 16, 17, 18] I I2 → (∀ r, r ≠ 27 → r ≠ 30 → r < 31 → F2 r = F r) → I2 16 = 1 → I2 13 = bgI (F 17) (F 18) n → (∀ k, k < n → F2 27 k = bestI (F 17) (F 18) n b k) → post I2 F2) : w_X3_findBest_9_4 I F post := by
  unfold w_X3_findBest_9_4
  refine ⟨fun hne => ?_, fun he => ?_⟩
  · rcases hc with h | ⟨h1, h2, h3⟩
    · exact absurd h hne
    · exact hp I F (fun _ _ => rfl) (fun _ _ _ _ => rfl) h1 h2 h3
  · refine s_goBackward hn hn0 h8 hTb htn (fun I6 F7 a1 a2 a3 => ?_)
    have e8 : I6 8 = nI n := by rw [a1 8 (by decide)]; exact h8
    have e17 : F7 17 = F 17 := a2 17 (by decide) (by decide)
    have e18 : F7 18 = F 18 := a2 18 (by decide) (by decide)
    rw [e8, show (0 : Int32) = nI 0 by decide, nI_eq (by omega) (by omega)]
    refine ⟨fun _ => ⟨vp_in_nI (by omega) (by decide), ?_⟩, fun q => absurd q (by omega)⟩
    rw [nI_clamp (by omega)]
    refine s_settingOf (G := fun t c => OW (F 17) (F 18) 0 n 0 t c) (B := 32) (by omega) (fun t ht => a3 0 t hn0 ht) (fun a ha => ?_)
    unfold w_X3_findBest_9_4_J33
    intro I1 e1
    refine s_followBest hn hb (by rw [e1, pk_un (by decide)]; exact e8) (by rw [e1, pk_un (by decide), a1 7 (by decide)]; exact h7) (by rw [e17, e18]; exact a3) (fun I2 F3 b1 b2 b3 I4 e4 => ?_)
    rw [e17, e18] at b3
    refine hp I4 F3 (fun j hj => ?_) (fun r h1 h2 h3 => ?_) (by rw [e4, pk_us]) ?_ b3
    · simp only [List.mem_cons, List.not_mem_nil, or_false, not_or] at hj
      rw [e4, pk_un hj.2.1, b1 j (by simp; omega), e1, pk_un hj.1, a1 j (by simp; omega)]
    · rw [b2 r h1, a2 r h2 h3]
    · rw [e4, pk_un (by decide), b1 13 (by decide), e1, pk_us]
      exact bgI_am ha
/-- a setting told as a number of seven digits -/
def tellN (s : Nat) : Nat → Nat
  | 0 => 0
  | j + 1 => 10 * tellN s j + pos s j
theorem s_number {s : Nat} {I : Nat → Int32} {F : Nat → Nat → Int32} {post : Int32 → Prop} (hs : s < 2187) (h : post (nI (tellN s 7))) : w_X7_numberOf (nI s) I F post := by
  unfold w_X7_numberOf
  refine gL_inv (fun j v => v.2 = nI j ∧ v.1 = nI (tellN s j)) 7 ?_ ?_ ⟨rfl, rfl⟩
  · rintro j hj ⟨x1, x2⟩ ⟨h2, h1⟩ again hag
    dsimp only at h1 h2 ⊢
    subst h1
    subst h2
    unfold w_X7_numberOf_B4
    refine ⟨fun q => absurd ((nI_leI (a := 7) (by omega) (by omega)).mp q) (by omega), fun _ => s_pos hs hj (fun v hv => hag _ ⟨nI_1 j, ?_⟩)⟩
    show v = nI (10 * tellN s j + pos s j)
    rw [hv, show (10 : Int32) = nI 10 by decide, pk_mul, nI_add, Nat.mul_comm]
  · rintro ⟨x1, x2⟩ ⟨h2, h1⟩ again
    dsimp only at h1 h2 ⊢
    subst h1
    subst h2
    unfold w_X7_numberOf_B4
    exact ⟨fun _ => h, fun q => absurd (by decide) q⟩
theorem m_pos {s p : Nat} {I : Nat → Int32} {F : Nat → Nat → Int32} {hs : Int64} {post : Int32 → Prop} (hM : mTab F) (h1 : s < 2187) (hp : p < 7) (h : post (nI (pos s p))) : w_X9_positionOf (nI s) (nI p) I F hs post := by
  unfold w_X9_positionOf
  have hw : 0 < wt p ∧ wt p < 1000 := by rcases seven hp with rfl | rfl | rfl | rfl | rfl | rfl | rfl <;> decide
  have hd : s / wt p < 2187 := Nat.lt_of_le_of_lt (Nat.div_le_self _ _) h1
  rw [nI_clamp (by omega), hM.1 p hp, pk_div (by omega) hw.1 (by omega), show (3 : Int32) = nI 3 by decide, pk_rem (by omega) (by omega) (by omega)]
  exact ⟨vp_in_nI hp (by decide), nI_ne0 hw.1 (by omega), h⟩
theorem m_told {s : Nat} {I : Nat → Int32} {F : Nat → Nat → Int32} {hs : Int64} {post : Int32 → Prop} (hM : mTab F) (h1 : s < 2187) (h : post (nI (tellN s 7))) : w_X9_told (nI s) I F hs post := by
  unfold w_X9_told
  refine gL_inv (fun j v => v.2 = nI j ∧ v.1 = nI (tellN s j)) 7 ?_ ?_ ⟨rfl, rfl⟩
  · rintro j hj ⟨x2, x3⟩ ⟨h3, h2⟩ again hag
    dsimp only at h2 h3 ⊢
    subst h2
    subst h3
    unfold w_X9_told_B4
    refine ⟨fun q => absurd ((nI_leI (a := 7) (by omega) (by omega)).mp q) (by omega), fun _ => m_pos hM h1 hj (fun v hv => hag _ ⟨nI_1 j, ?_⟩)⟩
    show v = nI (10 * tellN s j + pos s j)
    rw [hv, show (10 : Int32) = nI 10 by decide, pk_mul, nI_add]
  · rintro ⟨x2, x3⟩ ⟨h3, h2⟩ again
    dsimp only at h2 h3 ⊢
    subst h2
    subst h3
    unfold w_X9_told_B4
    exact ⟨fun _ => h, fun q => absurd (by decide) q⟩
