/-! the class: what the planner's methods answer -/
def fewI (K T : Nat → Int32) (y : Int32) (n b : Nat) : Int32 := if mc (BR K T y n n b) = 99999 then -1 else nI (mc (BR K T y n n b))
theorem mc_TP (K T : Nat → Int32) (y : Int32) {n b : Nat} (hb : b < 2187) : mc (TP K T y b n) = mc (BR K T y n n b) := mc_congr (fun c => TP_BR K T y hb c)
theorem LdB_ways {B : Nat} {G : Nat → Nat} {r : Int32} (hB : B < 64) (h : LdB B G r) : (r = (1073741824 : Int32) ∧ mc G = 99999) ∨ (¬ r = (1073741824 : Int32) ∧ mc G ≠ 99999 ∧ r &&& (1048575 : Int32) = nI (G (mc G) % 1000003)) := by
  rcases LdB_mc hB h with ⟨a1, a2⟩ | ⟨a1, a2, a3⟩
  · exact Or.inl ⟨a1, a2⟩
  · refine Or.inr ⟨a1, by omega, ?_⟩
    rcases h with ⟨b1, b2⟩ | ⟨c, b1, b2, b3, b4⟩
    · exact absurd (by rw [b2]; exact zc_NO.symm) a1
    · have hm : mc G = c := mc_is b2 b3 (by omega)
      have : G c % 1000003 < 1000003 := Nat.mod_lt _ (by decide)
      rw [hm, b4, zc_low (by omega) (by omega)]
theorem s_forward0 {n b : Nat} {I : Nat → Int32} {F : Nat → Nat → Int32} {post : (Nat → Int32) → (Nat → Nat → Int32) → Prop} (hn : n ≤ 8) (hb : b < 2187) (h8 : I 8 = nI n) (h7 : I 7 = nI b) (hTb : ∀ s, s < 2187 → F 25 s = hasR s 7) (hc : cacheF n b I F)
    (hp : ∀ I2 F2, kI [14, 15, 17, 18] I I2 → kF [26, 28, 29, 30] F F2 → cacheF n b I2 F2 → LdB 16 (TP (F 17) (F 18) 0 b n) (I2 14) → (∀ k, k < n → F2 26 k = nI (rc (F 17) (F 18) 0 b k)) → post I2 F2) : w_X3_goForward_9_4 (0 : Int32) I F post := by
  have e : nI 0 = (0 : Int32) := by decide
  have h := s_forward (y := 0) (post := post) hn hb (by omega) h8 h7 hTb hc (fun I2 F2 a1 a2 a3 a4 a5 => by
    refine hp I2 F2 a1 a2 (Or.inr ⟨0, by omega, a3, ?_, ?_⟩) ?_ ?_
    · rw [a2 17 (by decide), a2 18 (by decide)]
      exact a4
    · rw [a2 17 (by decide), a2 18 (by decide)]
      exact a5
    · rw [e] at a4
      exact a4
    · rw [e] at a5
      exact a5)
  rw [e] at h
  exact h
theorem s_fewest {n b y : Nat} {I : Nat → Int32} {F : Nat → Nat → Int32} {post : Int32 → (Nat → Int32) → (Nat → Nat → Int32) → Prop} (hn : n ≤ 8) (hb : b < 2187) (hy : y < 12) (h8 : I 8 = nI n) (h7 : I 7 = nI b) (hTb : ∀ s, s < 2187 → F 25 s = hasR s 7) (hc : cacheF n b I F)
    (hp : ∀ I2 F2, kI [14, 15, 17, 18] I I2 → kF [26, 28, 29, 30] F F2 → cacheF n b I2 F2 → post (fewI (F 17) (F 18) (nI y) n b) I2 F2) : w_X3_fewest_9_4 (nI y) I F post := by
  unfold w_X3_fewest_9_4
  refine s_forward hn hb hy h8 h7 hTb hc (fun I2 F2 a1 a2 a3 a4 a5 => ?_)
  have hcc : cacheF n b I2 F2 := by
    refine Or.inr ⟨y, hy, a3, ?_, ?_⟩
    · rw [a2 17 (by decide), a2 18 (by decide)]
      exact a4
    · rw [a2 17 (by decide), a2 18 (by decide)]
      exact a5
  have h := hp I2 F2 a1 a2 hcc
  unfold fewI at h
  have hm := LdB_mc (by omega) a4
  rw [mc_TP _ _ _ hb] at hm
  rcases hm with ⟨c1, c2⟩ | ⟨c1, c2, c3⟩
  · rw [if_pos c2] at h
    exact ⟨fun q => absurd c1 q, fun _ => h⟩
  · rw [if_neg (fun z => by rw [z] at c2; exact absurd c2 (by decide))] at h
    rw [c3]
    exact ⟨fun _ => h, fun q => absurd q c1⟩
theorem s_ways {n b : Nat} {I : Nat → Int32} {F : Nat → Nat → Int32} {post : Int32 → (Nat → Int32) → (Nat → Nat → Int32) → Prop} (hn : n ≤ 8) (hb : b < 2187) (h8 : I 8 = nI n) (h7 : I 7 = nI b) (hTb : ∀ s, s < 2187 → F 25 s = hasR s 7) (hc : cacheF n b I F)
    (hp : ∀ I2 F2, kI [14, 15, 17, 18] I I2 → kF [26, 28, 29, 30] F F2 → cacheF n b I2 F2 → post (nI (waysN (F 17) (F 18) n b)) I2 F2) : w_X3_ways_9_4 I F post := by
  unfold w_X3_ways_9_4
  refine s_forward0 hn hb h8 h7 hTb hc (fun I2 F2 a1 a2 a3 a4 a5 => ?_)
  have h := hp I2 F2 a1 a2 a3
  unfold waysN at h
  have hm := LdB_ways (by omega) a4
  rw [mc_TP _ _ _ hb] at hm
  rcases hm with ⟨c1, c2⟩ | ⟨c1, c2, c3⟩
  · rw [if_pos c2] at h
    exact ⟨fun q => absurd c1 q, fun _ => h⟩
  · rw [if_neg c2] at h
    rw [c3]
    exact ⟨fun _ => h, fun q => absurd q c1⟩
theorem rc_lt (K T : Nat → Int32) (y : Int32) (b k : Nat) : rc K T y b k ≤ 2187 := fb_ct_le _ _
theorem s_stuck {n b : Nat} {I : Nat → Int32} {F : Nat → Nat → Int32} {post : Int32 → (Nat → Int32) → (Nat → Nat → Int32) → Prop} (hn : n ≤ 8) (hb : b < 2187) (h8 : I 8 = nI n) (h7 : I 7 = nI b) (hTb : ∀ s, s < 2187 → F 25 s = hasR s 7) (hc : cacheF n b I F)
    (hp : ∀ I2 F2, kI [14, 15, 17, 18] I I2 → kF [26, 28, 29, 30] F F2 → cacheF n b I2 F2 → post (stk (F 17) (F 18) b n) I2 F2) : w_X3_stuckAt_9_4 I F post := by
  unfold w_X3_stuckAt_9_4
  refine s_forward0 hn hb h8 h7 hTb hc (fun I2 F2 a1 a2 a3 a4 a5 => ?_)
  have h := hp I2 F2 a1 a2 a3
  have e8 : I2 8 = nI n := by rw [a1 8 (by decide)]; exact h8
  unfold stk at h
  generalize F 17 = K at *
  generalize F 18 = T at *
  generalize hp2 : (fun i => decide (rc K T 0 b i = 0)) = p at *
  have hpp : ∀ i, p i = decide (rc K T 0 b i = 0) := fun i => by rw [← hp2]
  refine gL_inv (fun j v => v = nI j ∧ ∀ i, i < j → p i = false) n ?_ ?_ ⟨rfl, fun i hi => absurd hi (by omega)⟩
  · rintro j hj x ⟨h1, h2⟩ again hag
    subst h1
    unfold w_X3_stuckAt_9_4_B8
    rw [nI_clamp (by omega), e8, a5 j hj]
    have hr := rc_lt K T 0 b j
    refine ⟨fun q => absurd ((nI_leI (a := n) (b := j) (by omega) (by omega)).mp q) (by omega), fun _ => ⟨vp_in_nI (by omega) (by decide), fun q => hag _ ⟨nI_1 j, fun i hi => ?_⟩, fun q => ?_⟩⟩
    · by_cases e : i = j
      · rw [e, hpp]
        exact decide_eq_false (fun z => q (by rw [z]; decide))
      · exact h2 i (by omega)
    · have q2 : rc K T 0 b j = 0 := by
        have : nI (rc K T 0 b j) = nI 0 := q.trans (by decide)
        exact (nI_eq (by omega) (by omega)).mp this
      have q3 : p j = true := by rw [hpp]; exact decide_eq_true q2
      have q4 : fa_first p n = j := by
        have l1 : fa_first p n ≤ j := by
          apply Classical.byContradiction
          intro z
          have := fa_first_no p n j (by omega)
          rw [q3] at this
          exact absurd this (by decide)
        have l2 : ¬ fa_first p n < j := fun z => by
          have := fa_first_yes p n (by omega)
          rw [h2 _ z] at this
          exact absurd this (by decide)
        omega
      rw [q4, if_pos hj] at h
      exact h
  · rintro x ⟨h1, h2⟩ again
    subst h1
    unfold w_X3_stuckAt_9_4_B8
    rw [e8]
    refine ⟨fun _ => ?_, fun q => absurd (Int32.le_refl _) q⟩
    have hn2 : ¬ fa_first p n < n := fun z => by
      have := fa_first_yes p n z
      rw [h2 _ z] at this
      exact absurd this (by decide)
    rw [if_neg hn2] at h
    exact h
theorem nI_nn {n : Nat} (h : n < 2 ^ 31) : ¬ nI n < (0 : Int32) := by
  intro q
  have h2 := Int32.lt_iff_toInt_lt.mp q
  rw [nI_toInt h, show (0 : Int32).toInt = 0 by decide] at h2
  omega
theorem s_has {k n : Nat} {I : Nat → Int32} {F : Nat → Nat → Int32} {post : Int32 → Prop} (hn : n ≤ 8) (h8 : I 8 = nI n) (hk : k < n) (h : post 1) : w_X2_has_4 (nI k) I F post := by
  unfold w_X2_has_4
  rw [h8]
  exact ⟨fun q => absurd q (nI_nn (by omega)), fun _ => ⟨fun q => absurd ((nI_leI (by omega) (by omega)).mp q) (by omega), fun _ => h⟩⟩
theorem s_reached {n b k : Nat} {I : Nat → Int32} {F : Nat → Nat → Int32} {post : Int32 → (Nat → Int32) → (Nat → Nat → Int32) → Prop} (hn : n ≤ 8) (hb : b < 2187) (hk : k < n) (h8 : I 8 = nI n) (h7 : I 7 = nI b) (hTb : ∀ s, s < 2187 → F 25 s = hasR s 7) (hc : cacheF n b I F)
    (hp : ∀ I2 F2, kI [14, 15, 17, 18] I I2 → kF [26, 28, 29, 30] F F2 → cacheF n b I2 F2 → post (nI (rc (F 17) (F 18) 0 b k)) I2 F2) : w_X3_howManyReached_9_4 (nI k) I F post := by
  unfold w_X3_howManyReached_9_4
  refine s_forward0 hn hb h8 h7 hTb hc (fun I2 F2 a1 a2 a3 a4 a5 => ?_)
  have h := hp I2 F2 a1 a2 a3
  refine s_has hn (by rw [a1 8 (by decide)]; exact h8) hk ⟨fun q => absurd q (by decide), fun _ => ⟨vp_in_nI (by omega) (by decide), ?_⟩⟩
  rw [nI_clamp (by omega), a5 k hk]
  exact h
def setI (K T : Nat → Int32) (n b k : Nat) : Int32 := if mc (BR K T 0 n n b) = 99999 then -1 else nI (tellN (bsS K T n b (k + 1)) 7)
theorem bestI_cases (K T : Nat → Int32) {n b k : Nat} (hn : n ≤ 8) (hb : b < 2187) (hk : k < n) : (bestI K T n b k = -1 ∧ setI K T n b k = -1) ∨ (∃ s, s < 2187 ∧ bestI K T n b k = nI s ∧ setI K T n b k = nI (tellN s 7)) := by
  unfold bestI setI
  by_cases hno : mc (BR K T 0 n n b) = 99999
  · left
    rw [if_pos hno, if_pos hno]
    exact ⟨rfl, rfl⟩
  · right
    rw [if_neg hno, if_neg hno]
    exact ⟨_, (bsS_ok K T hn hb hno (k + 1) (by omega)).1, rfl, rfl⟩
theorem s_best {n b k : Nat} {I : Nat → Int32} {F : Nat → Nat → Int32} {post : Int32 → (Nat → Int32) → (Nat → Nat → Int32) → Prop} (hn : n ≤ 8) (hk : k < n) (hb : b < 2187) (h8 : I 8 = nI n) (h7 : I 7 = nI b) (hTb : ∀ s, s < 2187 → F 25 s = hasR s 7) (htn : ∀ k, k < n → ∃ t, t < 4096 ∧ F 18 k = nI t) (hc : cacheB n b I F)
    (hp : ∀ I2 F2, kI [13, 16, 17, 18] I I2 → (∀ r, r ≠ 27 → r ≠ 30 → r < 31 → F2 r = F r) → cacheB n b I2 F2 → post (setI (F 17) (F 18) n b k) I2 F2) : w_X3_bestSetting_9_4 (nI k) I F post := by
  unfold w_X3_bestSetting_9_4
  refine s_findBest hn (by omega) hb h8 h7 hTb htn hc (fun I2 F2 a1 a2 a3 a4 a5 => ?_)
  have e17 : F2 17 = F 17 := a2 17 (by decide) (by decide) (by decide)
  have e18 : F2 18 = F 18 := a2 18 (by decide) (by decide) (by decide)
  have h := hp I2 F2 a1 a2 (Or.inr ⟨a3, by rw [e17, e18]; exact a4, by rw [e17, e18]; exact a5⟩)
  refine s_has hn (by rw [a1 8 (by decide)]; exact h8) hk ⟨fun q => absurd q (by decide), fun _ => ⟨vp_in_nI (by omega) (by decide), ?_⟩⟩
  unfold w_X3_bestSetting_9_4_J27 w_X3_bestSetting_9_4_J28
  rw [nI_clamp (by omega), a5 k hk]
  rcases bestI_cases (F 17) (F 18) hn hb hk with ⟨c1, c2⟩ | ⟨s, c0, c1, c2⟩
  · rw [c1]
    rw [c2] at h
    exact ⟨fun _ => ⟨fun _ => h, fun q => absurd rfl q⟩, fun q => absurd rfl q⟩
  · rw [c1]
    rw [c2] at h
    exact ⟨fun q => absurd q (neg1_nI (by omega)), fun _ => ⟨fun q => absurd q (by decide), fun _ => ⟨vp_in_nI (by omega) (by decide), s_number c0 h⟩⟩⟩
noncomputable def freI (K T : Nat → Int32) (n : Nat) : Int32 := if bgN K T n = 2187 then -1 else nI (tellN (bgN K T n) 7)
theorem bgN_cases (K T : Nat → Int32) (n : Nat) : (bgI K T n = -1 ∧ freI K T n = -1) ∨ (∃ s, s < 2187 ∧ bgI K T n = nI s ∧ freI K T n = nI (tellN s 7)) := by
  have h := am_spec (fun s => mc (OW K T 0 n 0 s)) TOP (by rw [TOP_eq]; exact Nat.le_refl _)
  have e : (am (fun s => mc (OW K T 0 n 0 s)) TOP).1 = bgN K T n := rfl
  rw [e] at h
  unfold bgI freI
  rw [TOP_eq] at h
  rcases h with ⟨h1, -⟩ | ⟨h1, -⟩
  · left
    rw [if_pos h1, if_pos h1]
    exact ⟨rfl, rfl⟩
  · right
    have h2 : ¬ bgN K T n = 2187 := by omega
    rw [if_neg h2, if_neg h2]
    exact ⟨_, h1, rfl, rfl⟩
theorem s_begin {n b : Nat} {I : Nat → Int32} {F : Nat → Nat → Int32} {post : Int32 → (Nat → Int32) → (Nat → Nat → Int32) → Prop} (hn : n ≤ 8) (hn0 : 0 < n) (hb : b < 2187) (h8 : I 8 = nI n) (h7 : I 7 = nI b) (hTb : ∀ s, s < 2187 → F 25 s = hasR s 7) (htn : ∀ k, k < n → ∃ t, t < 4096 ∧ F 18 k = nI t) (hc : cacheB n b I F)
    (hp : ∀ I2 F2, kI [13, 16, 17, 18] I I2 → (∀ r, r ≠ 27 → r ≠ 30 → r < 31 → F2 r = F r) → cacheB n b I2 F2 → post (freI (F 17) (F 18) n) I2 F2) : w_X3_bestBegin_9_4 I F post := by
  unfold w_X3_bestBegin_9_4
  refine s_findBest hn hn0 hb h8 h7 hTb htn hc (fun I2 F2 a1 a2 a3 a4 a5 => ?_)
  have e17 : F2 17 = F 17 := a2 17 (by decide) (by decide) (by decide)
  have e18 : F2 18 = F 18 := a2 18 (by decide) (by decide) (by decide)
  have h := hp I2 F2 a1 a2 (Or.inr ⟨a3, by rw [e17, e18]; exact a4, by rw [e17, e18]; exact a5⟩)
  rw [a4]
  rcases bgN_cases (F 17) (F 18) n with ⟨c1, c2⟩ | ⟨s, c0, c1, c2⟩
  · rw [c1]
    rw [c2] at h
    exact ⟨fun q => absurd rfl q, fun _ => h⟩
  · rw [c1]
    rw [c2] at h
    exact ⟨fun _ => s_number c0 h, fun q => absurd q (neg1_nI (by omega))⟩
