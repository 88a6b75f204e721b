/-! the reference: its tables, what fits, what is held, the fewest from a setting -/
def bitsO (o : Nat) : Nat := (if o % 7 = 0 then 0 else 2 ^ lp (o % 7)) ||| (if o / 7 = 0 then 0 else 2 ^ rp (o / 7))
def mTab (F : Nat → Nat → Int32) : Prop := (∀ p, p < 7 → F 1 p = nI (wt p)) ∧ (∀ p, p < 7 → F 2 p = nI (nt p)) ∧ (∀ s p, s < 2187 → p < 7 → F 3 (7 * s + p) = nI (tn p (pos s p))) ∧ (∀ o, o < 63 → F 8 o = nI (mv o)) ∧ (∀ o, o < 63 → F 9 o = nI (bitsO o)) ∧ ∀ s o, s < 2187 → o < 63 → F 10 (63 * s + o) = nI (af s o)
theorem ix2 (a b c : Nat) : (nI a * nI b) + nI c = nI (a * b + c) := by rw [pk_mul, nI_add]
theorem m_toneIn {s p : Nat} {I : Nat → Int32} {F : Nat → Nat → Int32} {hs : Int64} {post : Int32 → Prop} (hM : mTab F) (h1 : s < 2187) (h2 : p < 7) (h : post (nI (tn p (pos s p)))) : w_X9_toneIn (nI s) (nI p) I F hs post := by
  unfold w_X9_toneIn
  rw [show (7 : Int32) = nI 7 by decide, ix2, nI_clamp (by omega), hM.2.2.1 s p h1 h2]
  exact ⟨vp_in_nI (by omega) (by decide), h⟩
theorem m_after {s o : Nat} {I : Nat → Int32} {F : Nat → Nat → Int32} {hs : Int64} {post : Int32 → Prop} (hM : mTab F) (h1 : s < 2187) (h2 : o < 63) (h : post (nI (af s o))) : w_X9_after (nI s) (nI o) I F hs post := by
  unfold w_X9_after
  rw [show (63 : Int32) = nI 63 by decide, ix2, nI_clamp (by omega), hM.2.2.2.2.2 s o h1 h2]
  exact ⟨vp_in_nI (by omega) (by decide), h⟩
theorem m_movedBy {o : Nat} {I : Nat → Int32} {F : Nat → Nat → Int32} {hs : Int64} {post : Int32 → Prop} (hM : mTab F) (h2 : o < 63) (h : post (nI (mv o))) : w_X9_movedBy (nI o) I F hs post := by
  unfold w_X9_movedBy
  rw [nI_clamp (by omega), hM.2.2.2.1 o h2]
  exact ⟨vp_in_nI (by omega) (by decide), h⟩
theorem m_mostOf {k : Int32} {I : Nat → Int32} {F : Nat → Nat → Int32} {hs : Int64} {post : Int32 → Prop} (h : post (nI (mostI k))) : w_X9_mostOf k I F hs post := by
  unfold w_X9_mostOf
  unfold mostI at h
  refine ⟨fun h4 => ⟨fun h3 => ?_, fun h3 => ?_⟩, fun h4 => ?_⟩
  · rw [if_neg h4, if_neg h3] at h; exact h
  · rw [if_neg h4, if_pos h3] at h; exact h
  · rw [if_pos h4] at h; exact h
theorem m_heldBy {k : Nat} {y : Int32} {I : Nat → Int32} {F : Nat → Nat → Int32} {hs : Int64} {post : Int32 → Prop} (hk : k < 8) (h : post (heldI (F 14) (F 15) k y)) : w_X9_heldBy (nI k) y I F hs post := by
  unfold w_X9_heldBy w_X9_heldBy_J28 w_X9_shiftedTones
  unfold heldI at h
  refine ⟨fun q => ?_, fun q => ?_⟩
  · rw [show (0 : Int32) = nI 0 by decide, nI_leI (by omega) (by omega)] at q
    rw [if_pos (by omega)] at h
    exact h
  · rw [show (0 : Int32) = nI 0 by decide, nI_leI (by omega) (by omega)] at q
    rw [if_neg (by omega)] at h
    rw [show nI k - (1 : Int32) = nI (k - 1) by rw [show (1 : Int32) = nI 1 by decide, pk_sub (by omega)], nI_clamp (by omega)]
    have hv : vp_in (nI (k - 1)) 8 := vp_in_nI (by omega) (by decide)
    refine ⟨hv, fun h2 => ⟨hv, ?_⟩, fun h2 => ⟨hv, fun h4 => ?_, fun h4 => ⟨hv, ?_⟩⟩⟩
    · rw [if_pos (Or.inl h2)] at h; exact h
    · rw [if_neg (fun z => z.elim h2 h4)] at h; exact h
    · rw [if_pos (Or.inr h4)] at h; exact h
theorem m_heldPedals {s : Nat} {hd : Int32} {I : Nat → Int32} {F : Nat → Nat → Int32} {hs : Int64} {post : Int32 → Prop} (hM : mTab F) (h1 : s < 2187) (h : ∀ st, (∀ i, i < 32 → bt st i = (decide (i < 7) && hT hd i (pos s i))) → post st) : w_X9_heldPedals (nI s) hd I F hs post := by
  unfold w_X9_heldPedals
  by_cases h0 : hd = 0
  · refine gL_inv (fun _ v => v.1 = 0) 0 (fun j hj => absurd hj (by omega)) ?_ rfl
    rintro ⟨x3, x4⟩ e3 again
    dsimp only at e3 ⊢
    subst e3
    unfold w_X9_heldPedals_B5
    have hz : post 0 := h 0 (fun i hi => by
      rw [b_0, h0]
      unfold hT
      rw [b_0, Bool.and_false])
    exact ⟨fun _ => hz, fun _ => ⟨fun _ => hz, fun q => absurd h0 q⟩⟩
  · refine gL_inv (fun j v => v.2 = nI j ∧ ∀ i, i < 32 → bt v.1 i = (decide (i < j) && hT hd i (pos s i))) 7 ?_ ?_ ⟨rfl, fun i _ => by rw [show ((0 : Int32), (0 : Int32)).1 = 0 from rfl, b_0, decide_eq_false (by omega)]; rfl⟩
    · rintro j hj ⟨x3, x4⟩ ⟨h4, hb⟩ again hag
      dsimp only at h4 hb ⊢
      subst h4
      unfold w_X9_heldPedals_B5
      refine ⟨fun q => absurd ((nI_leI (a := 7) (by omega) (by omega)).mp q) (by omega), fun _ => ⟨fun q => absurd q h0, fun _ => m_toneIn hM h1 hj (fun v hv => hag _ ⟨nI_1 j, fun i hi => ?_⟩)⟩⟩
      have ht := tn_lt j (pos s j)
      show bt v i = _
      rw [hv, bt_put _ _ (by omega) (by omega) hi, hb i hi]
      by_cases e : i = j
      · subst e
        rw [decide_eq_true rfl, decide_eq_false (show ¬ i < i by omega), decide_eq_true (show i < i + 1 by omega)]
        simp [hT]
      · rw [decide_eq_false e]
        by_cases e2 : i < j
        · rw [decide_eq_true e2, decide_eq_true (show i < j + 1 by omega)]
          simp
        · rw [decide_eq_false e2, decide_eq_false (show ¬ i < j + 1 by omega)]
          simp
    · rintro ⟨x3, x4⟩ ⟨h4, hb⟩ again
      dsimp only at h4 hb ⊢
      subst h4
      unfold w_X9_heldPedals_B5
      exact ⟨fun _ => h x3 hb, fun q => absurd (by decide) q⟩
theorem bt_nI (n : Nat) {i : Nat} (hi : i < 32) : bt (nI n) i = n.testBit i := by
  show (BitVec.ofNat 32 n).getLsbD i = n.testBit i
  rw [BitVec.getLsbD_ofNat, decide_eq_true hi, Bool.true_and]
theorem and_can {st hd : Int32} {s o : Nat} (ho : o < 63) (hb : ∀ i, i < 32 → bt st i = (decide (i < 7) && hT hd i (pos s i))) : (nI (bitsO o) &&& st) = 0 ↔ canS (hT hd) s o = true := by
  have hl : lp (o % 7) < 3 := lp_lt (by omega)
  have hr : rp (o / 7) < 7 := rp_lt (by omega)
  have hbit : ∀ i, (bitsO o).testBit i = ((decide (o % 7 ≠ 0) && decide (lp (o % 7) = i)) || (decide (o / 7 ≠ 0) && decide (rp (o / 7) = i))) := by
    intro i
    unfold bitsO
    rw [Nat.testBit_or]
    congr 1
    · by_cases h : o % 7 = 0
      · simp [h]
      · rw [if_neg h, Nat.testBit_two_pow]; simp [h]
    · by_cases h : o / 7 = 0
      · rw [if_pos h]; simp [h]
      · rw [if_neg h, Nat.testBit_two_pow]; simp [h]
  have key : (nI (bitsO o) &&& st) = 0 ↔ ∀ i, i < 7 → (bitsO o).testBit i = true → hT hd i (pos s i) = false := by
    constructor
    · intro h i hi hb2
      have h2 : bt (nI (bitsO o) &&& st) i = false := by rw [h]; exact b_0 i
      rw [b_and, bt_nI _ (by omega), hb2, hb i (by omega), decide_eq_true hi] at h2
      simpa using h2
    · intro h
      apply b_ext
      intro i hi
      rw [b_and, b_0, bt_nI _ hi, hb i hi]
      by_cases h7 : i < 7
      · by_cases hb2 : (bitsO o).testBit i = true
        · rw [h i h7 hb2]; simp
        · rw [show (bitsO o).testBit i = false by simpa using hb2]; rfl
      · rw [decide_eq_false h7]; simp
  rw [key]
  unfold canS
  constructor
  · intro h
    rw [Bool.and_eq_true]
    constructor
    · by_cases h0 : o % 7 = 0
      · simp [h0]
      · rw [h _ (by omega) (by rw [hbit]; simp [h0])]; simp
    · by_cases h0 : o / 7 = 0
      · rw [decide_eq_true h0]; rfl
      · rw [h _ (by omega) (by rw [hbit]; simp [h0])]; simp
  · intro h i hi hb2
    rw [Bool.and_eq_true] at h
    rw [hbit] at hb2
    rcases Bool.or_eq_true_iff.mp hb2 with q | q
    · rw [Bool.and_eq_true] at q
      have q1 := of_decide_eq_true q.1
      have q2 := of_decide_eq_true q.2
      have h1 := h.1
      rw [decide_eq_false q1, q2, Bool.false_or] at h1
      simpa using h1
    · rw [Bool.and_eq_true] at q
      have q1 := of_decide_eq_true q.1
      have q2 := of_decide_eq_true q.2
      have h1 := h.2
      rw [decide_eq_false q1, q2, Bool.false_or] at h1
      simpa using h1
theorem m_can {o M : Nat} {st hd : Int32} {s : Nat} {I : Nat → Int32} {F : Nat → Nat → Int32} {hs : Int64} {post : Int32 → Prop} (hM : mTab F) (ho : o < 63) (hM2 : M ≤ 2) (hb : ∀ i, i < 32 → bt st i = (decide (i < 7) && hT hd i (pos s i))) (h1 : mv o ≤ M ∧ canS (hT hd) s o = true → post 1) (h0 : ¬ (mv o ≤ M ∧ canS (hT hd) s o = true) → post 0) : w_X9_can (nI o) (nI M) st I F hs post := by
  have hm : mv o ≤ 2 := by unfold mv m1; split <;> split <;> omega
  unfold w_X9_can
  rw [nI_clamp (by omega), hM.2.2.2.1 o ho, hM.2.2.2.2.1 o ho]
  have hv : vp_in (nI o) 63 := vp_in_nI ho (by decide)
  refine ⟨hv, fun q => h0 ?_, fun q => ⟨hv, fun z => h0 ?_, fun z => h1 ?_⟩⟩
  · rw [nI_ltI (by omega) (by omega)] at q
    exact fun w => absurd w.1 (by omega)
  · exact fun w => z ((and_can ho hb).mpr w.2)
  · rw [nI_ltI (by omega) (by omega)] at q
    exact ⟨by omega, (and_can ho hb).mp z⟩
theorem fit_bits (h t : Int32) : (t &&& (h ^^^ (-1 : Int32))) = 0 ↔ h &&& t = t := by
  constructor
  · intro q
    apply b_ext
    intro i hi
    have h2 : bt (t &&& (h ^^^ (-1 : Int32))) i = false := by rw [q]; exact b_0 i
    rw [b_and, b_xor, b_m1 i hi] at h2
    rw [b_and]
    cases e1 : bt h i <;> cases e2 : bt t i <;> rw [e1, e2] at h2 <;> first | rfl | cases h2
  · intro q
    apply b_ext
    intro i hi
    have h2 : bt (h &&& t) i = bt t i := by rw [q]
    rw [b_and] at h2
    rw [b_and, b_xor, b_m1 i hi, b_0]
    cases e1 : bt h i <;> cases e2 : bt t i <;> rw [e1, e2] at h2 <;> first | rfl | cases h2
theorem m_isFitting {s : Nat} {k t : Int32} {I : Nat → Int32} {F : Nat → Nat → Int32} {hs : Int64} {post : Int32 → Prop} (hM : mTab F) (h1 : s < 2187) (hy : fitI (hasR s 7) k t = true → post 1) (hn : fitI (hasR s 7) k t = false → post 0) : w_X9_isFitting (nI s) k t I F hs post := by
  unfold w_X9_isFitting
  refine gL_inv (fun j v => v.2 = nI j ∧ v.1 = hasR s j) 7 ?_ ?_ ⟨rfl, rfl⟩
  · rintro j hj ⟨x4, x5⟩ ⟨h5, h4⟩ again hag
    dsimp only at h4 h5 ⊢
    subst h4
    subst h5
    unfold w_X9_isFitting_B6
    exact ⟨fun q => absurd ((nI_leI (a := 7) (by omega) (by omega)).mp q) (by omega), fun _ => m_toneIn hM h1 hj (fun v hv => hag _ ⟨nI_1 j, hv⟩)⟩
  · rintro ⟨x4, x5⟩ ⟨h5, h4⟩ again
    dsimp only at h4 h5 ⊢
    subst h4
    subst h5
    unfold w_X9_isFitting_B6
    unfold fitI at hy hn
    refine ⟨fun _ => ⟨fun q => hn ?_, fun q => ⟨fun hk => hy ?_, fun hk => ⟨fun e => hn ?_, fun e => hy ?_⟩⟩⟩, fun q => absurd (by decide) q⟩
    · rw [fit_bits] at q
      by_cases hk : k = 1
      · rw [if_pos hk]
        exact decide_eq_false (fun z => q (by rw [z]; apply b_ext; intro i _; rw [b_and, Bool.and_self]))
      · rw [if_neg hk]
        exact decide_eq_false q
    · rw [fit_bits] at q
      rw [if_neg hk]
      exact decide_eq_true q
    · rw [if_pos hk]
      exact decide_eq_false e
    · rw [if_pos hk]
      exact decide_eq_true e
theorem mc_le {B : Nat} {G : Nat → Nat} (hB : B < 64) (h : Bd B G) : mc G ≤ 99999 := by
  rcases mc_cases hB h with h1 | h1 <;> omega
theorem mc_add {a b : Nat → Nat} (ha : Bd 60 a) (hb : Bd 60 b) : mc (fun c => a c + b c) = if mc b < mc a then mc b else mc a := by
  rcases mc_cases (by omega) ha with ⟨a1, a2⟩ | ⟨a1, a2, a3⟩ <;> rcases mc_cases (by omega) hb with ⟨b1, b2⟩ | ⟨b1, b2, b3⟩
  · rw [a1, b1, if_neg (by omega)]
    exact mc_no (fun c => by rw [a2, b2])
  · rw [if_pos (by omega)]
    exact mc_is (by rw [a2]; omega) (fun c' hc' => by rw [a2, b3 c' hc']) (by omega)
  · rw [if_neg (by omega)]
    exact mc_is (by rw [b2]; omega) (fun c' hc' => by rw [b2, a3 c' hc']) (by omega)
  · split
    · exact mc_is (by omega) (fun c' hc' => by rw [a3 c' (by omega), b3 c' hc']) (by omega)
    · exact mc_is (by omega) (fun c' hc' => by rw [a3 c' hc', b3 c' (by omega)]) (by omega)
theorem Bd_sh {B m : Nat} {G : Nat → Nat} (h : Bd B G) : Bd (B + m) (sh m G) := by
  intro c hc
  unfold sh
  split
  · exact h _ (by omega)
  · rfl
theorem mc_sh {B m : Nat} {G : Nat → Nat} (hB : B + m < 64) (h : Bd B G) : mc (sh m G) = if mc G = 99999 then 99999 else mc G + m := by
  rcases mc_cases (by omega) h with ⟨a1, a2⟩ | ⟨a1, a2, a3⟩
  · rw [if_pos a1]
    exact mc_no (fun c => sh_none a2 c)
  · rw [if_neg (by omega)]
    apply mc_is
    · unfold sh
      rw [if_pos (by omega), show mc G + m - m = mc G by omega]
      exact a2
    · intro c' hc'
      unfold sh
      split
      · exact a3 _ (by omega)
      · rfl
    · omega
theorem m_bestFrom {s k n : Nat} {y : Int32} {I : Nat → Int32} {F : Nat → Nat → Int32} {hs : Int64} {post : Int32 → Prop} (hM : mTab F) (h1 : s < 2187) (hk : k < n) (hn : n ≤ 8) (hf : ∀ u, u < 2187 → F 16 (2187 * k + u) = if fitK (F 14) (F 15) y k u = true then 1 else 0) (hr : ∀ u, u < 2187 → F 17 (2187 * k + u) = nI (mc (OW (F 14) (F 15) y n k u))) (h : post (nI (mc (BR (F 14) (F 15) y n (n - k) s)))) : w_X9_bestFrom (nI s) (nI k) y I F hs post := by
  unfold w_X9_bestFrom
  refine m_heldBy (by omega) (m_heldPedals hM h1 (fun st hst => ⟨vp_in_nI (by omega) (by decide), ?_⟩))
  rw [nI_clamp (by omega)]
  refine m_mostOf ?_
  have hM2 := mostI_le (F 14 k)
  generalize hKe : F 14 = K at *
  generalize hTe : F 15 = T at *
  generalize hMe : mostI (K k) = M at *
  have hBd : ∀ u, u < 2187 → Bd 16 (OW K T y n k u) := fun u hu c hc => Bd_OW K T y n k u hu c (by omega)
  have tb : ∀ o, o < 63 → Bd 20 (fun c => if mv o ≤ M ∧ okO (fun p _ b => !hT (heldI K T k y) p b) s o = true then sh (mv o) (OW K T y n k (af s o)) c else 0) := by
    intro o ho c hc
    have hm : mv o ≤ 2 := by unfold mv m1; split <;> split <;> omega
    dsimp only
    split
    · exact Bd_sh (hBd _ (af_lt ho h1)) c (by omega)
    · rfl
  have pb : ∀ j, j ≤ 63 → Bd 20 (fun c => fb_sm (fun o => if mv o ≤ M ∧ okO (fun p _ b => !hT (heldI K T k y) p b) s o = true then sh (mv o) (OW K T y n k (af s o)) c else 0) j) := by
    intro j hj c hc
    exact (fb_sm_cong (g := fun _ => 0) (fun o ho => tb o (by omega) c hc)).trans (by simp [fb_sm_const])
  refine gL_inv (fun j v => v.2 = nI j ∧ v.1 = nI (mc (fun c => fb_sm (fun o => if mv o ≤ M ∧ okO (fun p _ b => !hT (heldI K T k y) p b) s o = true then sh (mv o) (OW K T y n k (af s o)) c else 0) j))) 63 ?_ ?_ ⟨rfl, ?_⟩
  · rintro j hj ⟨x6, x7⟩ ⟨h7, h6⟩ again hag
    dsimp only at h6 h7 ⊢
    subst h6
    subst h7
    have hm : mv j ≤ 2 := by unfold mv m1; split <;> split <;> omega
    have hlt := af_lt hj h1
    have hle := mc_le (by omega) (pb j (by omega))
    have eadd : mc (fun c => fb_sm (fun o => if mv o ≤ M ∧ okO (fun p _ b => !hT (heldI K T k y) p b) s o = true then sh (mv o) (OW K T y n k (af s o)) c else 0) (j + 1)) = if mc (fun c => if mv j ≤ M ∧ okO (fun p _ b => !hT (heldI K T k y) p b) s j = true then sh (mv j) (OW K T y n k (af s j)) c else 0) < mc (fun c => fb_sm (fun o => if mv o ≤ M ∧ okO (fun p _ b => !hT (heldI K T k y) p b) s o = true then sh (mv o) (OW K T y n k (af s o)) c else 0) j) then mc (fun c => if mv j ≤ M ∧ okO (fun p _ b => !hT (heldI K T k y) p b) s j = true then sh (mv j) (OW K T y n k (af s j)) c else 0) else mc (fun c => fb_sm (fun o => if mv o ≤ M ∧ okO (fun p _ b => !hT (heldI K T k y) p b) s o = true then sh (mv o) (OW K T y n k (af s o)) c else 0) j) := by
      rw [← mc_add (fun c hc => pb j (by omega) c (by omega)) (fun c hc => tb j hj c (by omega))]
      rfl
    unfold w_X9_bestFrom_B31
    refine ⟨fun q => absurd ((nI_leI (a := 63) (by omega) (by omega)).mp q) (by omega), fun _ => m_can hM hj hM2 hst (fun hc => ⟨fun q => absurd q (by decide), fun _ => m_after hM h1 hj (m_movedBy hM hj ?_)⟩) (fun hc => ⟨fun _ => hag _ ⟨nI_1 j, ?_⟩, fun q => absurd rfl q⟩)⟩
    · have ec : mc (fun c => if mv j ≤ M ∧ okO (fun p _ b => !hT (heldI K T k y) p b) s j = true then sh (mv j) (OW K T y n k (af s j)) c else 0) = if mc (OW K T y n k (af s j)) = 99999 then 99999 else mc (OW K T y n k (af s j)) + mv j := by
        have ef : (fun c => if mv j ≤ M ∧ okO (fun p _ b => !hT (heldI K T k y) p b) s j = true then sh (mv j) (OW K T y n k (af s j)) c else 0) = sh (mv j) (OW K T y n k (af s j)) := funext (fun c => if_pos ⟨hc.1, by rw [can_back]; exact hc.2⟩)
        rw [ef]
        exact mc_sh (B := 16) (by omega) (hBd _ hlt)
      have hb2 := mc_le (by omega) (hBd _ hlt)
      rw [show (2187 : Int32) = nI 2187 by decide, ix2, nI_clamp (by omega), hr _ hlt, hf _ hlt, nI_add]
      have hv : vp_in (nI (2187 * k + af s j)) 17496 := vp_in_nI (by omega) (by decide)
      refine ⟨hv, fun v hv2 => ⟨hv, fun q => ?_, fun q => ?_⟩⟩
      · refine hag _ ⟨nI_1 j, ?_⟩
        have hnf : ¬ fitK K T y k (af s j) = true := fun z => q (by rw [if_pos z])
        have e0 : mc (OW K T y n k (af s j)) = 99999 := mc_no (fun c => by unfold OW; rw [if_neg hnf])
        show nI _ = nI _
        rw [eadd, ec, e0, if_pos rfl, if_neg (by omega)]
      · subst hv2
        rw [nI_leI (by omega) (by omega)]
        refine ⟨fun z => hag _ ⟨nI_1 j, ?_⟩, fun z => hag _ ⟨nI_1 j, ?_⟩⟩
        · show nI _ = nI _
          rw [eadd, ec]
          by_cases e9 : mc (OW K T y n k (af s j)) = 99999
          · rw [if_pos e9, if_neg (by omega)]
          · rw [if_neg e9, if_neg (by omega)]
        · show nI _ = nI _
          have e9 : ¬ mc (OW K T y n k (af s j)) = 99999 := by omega
          rw [eadd, ec, if_neg e9, if_pos (by omega), Nat.add_comm]
    · show nI _ = nI _
      rw [eadd, mc_no (G := fun c => if mv j ≤ M ∧ okO (fun p _ b => !hT (heldI K T k y) p b) s j = true then sh (mv j) (OW K T y n k (af s j)) c else 0) (fun c => if_neg (fun z => hc ⟨z.1, by rw [← can_back]; exact z.2⟩)), if_neg (by omega)]
  · rintro ⟨x6, x7⟩ ⟨h7, h6⟩ again
    dsimp only at h6 h7 ⊢
    subst h6
    subst h7
    unfold w_X9_bestFrom_B31
    refine ⟨fun _ => ?_, fun q => absurd (by decide) q⟩
    have e : BR K T y n (n - k) s = fun c => fb_sm (fun o => if mv o ≤ M ∧ okO (fun p _ b => !hT (heldI K T k y) p b) s o = true then sh (mv o) (OW K T y n k (af s o)) c else 0) 63 := by
      funext c
      rw [BR_OW K T y hk s c, hMe]
      rfl
    rw [← e]
    exact h
  · exact (show (99999 : Int32) = nI 99999 by decide).trans (congrArg nI (mc_no (fun c => rfl)).symm)
