/-! forward over all chords -/
theorem okL_congr {ok ok2 : Nat → Nat → Nat → Bool} {t l : Nat} (h : ∀ p a b, p < 7 → a < 3 → b < 3 → ok p a b = ok2 p a b) (hl : l < 7) : okL ok t l = okL ok2 t l := by
  unfold okL
  rw [h _ _ _ (by have := lp_lt hl; omega) (Nat.mod_lt _ (by decide)) (pos_lt _ _)]
theorem okR_congr {ok ok2 : Nat → Nat → Nat → Bool} {t r : Nat} (h : ∀ p a b, p < 7 → a < 3 → b < 3 → ok p a b = ok2 p a b) (hr : r < 9) : okR ok t r = okR ok2 t r := by
  unfold okR
  rw [h _ _ _ (rp_lt hr) (Nat.mod_lt _ (by decide)) (pos_lt _ _)]
theorem Zs_congr {ok ok2 : Nat → Nat → Nat → Bool} {M : Nat} {G : Nat → Nat → Nat} {t c : Nat} (h : ∀ p a b, p < 7 → a < 3 → b < 3 → ok p a b = ok2 p a b) : Zs M ok G t c = Zs M ok2 G t c := by
  unfold Zs
  refine fb_sm_cong (fun o ho => ?_)
  have e : okO ok t o = okO ok2 t o := by
    unfold okO
    rw [okL_congr h (by omega), okR_congr h (by omega)]
  rw [e]
def fitK (K T : Nat → Int32) (y : Int32) (k t : Nat) : Bool := fitI (hasR t 7) (K k) (rs (T k) y)
/-- how many plans up to a chord there are, by the setting and by the moves -/
def GP (K T : Nat → Int32) (y : Int32) (b : Nat) : Nat → Nat → Nat → Nat
  | 0, s, c => if s = b ∧ c = 0 then 1 else 0
  | k + 1, t, c => if fitK K T y k t = true then Zs (mostI (K k)) (fun p a _ => !hT (heldI K T k y) p a) (fun s c => GP K T y b k s c) t c else 0
def TP (K T : Nat → Int32) (y : Int32) (b n c : Nat) : Nat := fb_sm (fun t => GP K T y b n t c) 2187
def nzP (G : Nat → Nat) : Bool := decide (fb_sm G 64 ≠ 0)
def rc (K T : Nat → Int32) (y : Int32) (b k : Nat) : Nat := fb_ct (fun t => nzP (GP K T y b (k + 1) t)) 2187
theorem nzP_no {B : Nat} {G : Nat → Nat} {r : Int32} (hB : B < 64) (h : LdB B G r) : r = (1073741824 : Int32) ↔ nzP G = false := by
  rw [LdB_none (by omega) h]
  constructor
  · intro h2
    apply decide_eq_false
    rw [fb_sm_cong (g := fun _ => 0) (fun k _ => h2 k), fb_sm_const]
    simp
  · intro h2
    have h3 : fb_sm G 64 = 0 := by
      have h4 := of_decide_eq_false h2
      omega
    rcases h with ⟨h5, -⟩ | ⟨c, h5, h6, -, -⟩
    · exact h5
    · exact absurd (fb_sm_zero h3 c (by omega)) h6
theorem s_fill {r : Nat} {v : Int32} {I : Nat → Int32} {F : Nat → Nat → Int32} {post : (Nat → Int32) → (Nat → Nat → Int32) → Prop} (h : ∀ F2 : Nat → Nat → Int32, (∀ k, k ≠ r → F2 k = F k) → (∀ s, s < 2187 → F2 r s = v) → post I F2) : w_J7_fill_53178_r r v I F post := by
  unfold w_J7_fill_53178_r
  refine gL_inv (fun j w => w.1 = nI j ∧ w.2.1 = I ∧ (∀ k, k ≠ r → w.2.2 k = F k) ∧ ∀ s, s < j → w.2.2 r s = v) 2187 ?_ ?_ ⟨rfl, rfl, fun _ _ => rfl, fun s hs => absurd hs (by omega)⟩
  · rintro j hj ⟨x2, J, K⟩ ⟨h2, hJ, hK, hL⟩ again hag
    dsimp only at h2 hJ hK hL ⊢
    subst h2
    subst hJ
    unfold w_J7_fill_53178_r_B5
    refine ⟨fun q => absurd ((nI_leI (a := 2187) (by omega) (by omega)).mp q) (by omega), fun _ => ⟨vp_in_nI hj (by decide), fun F2 e2 => ?_⟩⟩
    rw [nI_clamp (by omega)] at e2
    refine hag _ ⟨nI_1 j, rfl, fun k hk => ?_, fun s hs => ?_⟩
    · show F2 k = F k
      rw [e2, upF_n _ _ hk]
      exact hK k hk
    · show F2 r s = v
      rw [e2, upF_s]
      by_cases e : s = j
      · subst e
        rw [pk_us]
      · rw [pk_un e]
        exact hL s (by omega)
  · rintro ⟨x2, J, K⟩ ⟨h2, hJ, hK, hL⟩ again
    dsimp only at h2 hJ hK hL ⊢
    subst h2
    subst hJ
    unfold w_J7_fill_53178_r_B5
    exact ⟨fun _ => h K hK hL, fun q => absurd (by decide) q⟩
theorem s_scored {r B : Nat} {I : Nat → Int32} {F : Nat → Nat → Int32} {post : Int32 → Prop} {G : Nat → Nat → Nat} (hB : B < 64) (hE : ∀ s, s < 2187 → LdB B (G s) (F r s)) (h : post (nI (fb_ct (fun s => nzP (G s)) 2187))) : w_X3_howManyScored_r r I F post := by
  unfold w_X3_howManyScored_r
  refine gL_inv (fun j v => v.2 = nI j ∧ v.1 = nI (fb_ct (fun s => nzP (G s)) j)) 2187 ?_ ?_ ⟨rfl, rfl⟩
  · rintro j hj ⟨x1, x2⟩ ⟨h2, h1⟩ again hag
    dsimp only at h1 h2 ⊢
    subst h2
    subst h1
    unfold w_X3_howManyScored_r_B4
    refine ⟨fun q => absurd ((nI_leI (a := 2187) (by omega) (by omega)).mp q) (by omega), fun _ => ⟨vp_in_nI hj (by decide), ?_⟩⟩
    rw [nI_clamp (by omega)]
    have hz := nzP_no hB (hE j hj)
    refine ⟨fun q => hag _ ⟨nI_1 j, ?_⟩, fun q => hag _ ⟨nI_1 j, ?_⟩⟩
    · show _ = nI (fb_ct (fun s => nzP (G s)) (j + 1))
      rw [fb_ct_succ, hz.mp q]
      rfl
    · show _ = nI (fb_ct (fun s => nzP (G s)) (j + 1))
      have h3 : nzP (G j) = true := by
        cases e : nzP (G j)
        · exact absurd (hz.mpr e) q
        · rfl
      rw [fb_ct_succ, h3, nI_1]
      rfl
  · rintro ⟨x1, x2⟩ ⟨h2, h1⟩ again
    dsimp only at h1 h2 ⊢
    subst h2
    subst h1
    unfold w_X3_howManyScored_r_B4
    exact ⟨fun _ => h, fun q => absurd (by decide) q⟩
theorem s_bestScore {r B : Nat} {I : Nat → Int32} {F : Nat → Nat → Int32} {post : Int32 → Prop} {G : Nat → Nat → Nat} (hB : B ≤ 1000) (hE : ∀ s, s < 2187 → LdB B (G s) (F r s)) (h : ∀ z, LdB B (fun c => fb_sm (fun s => G s c) 2187) z → post z) : w_X3_bestScore_r r I F post := by
  unfold w_X3_bestScore_r
  refine gL_inv (fun j v => v.2 = nI j ∧ LdB B (fun c => fb_sm (fun s => G s c) j) v.1) 2187 ?_ ?_ ⟨rfl, Or.inl ⟨fun _ => rfl, zc_NO⟩⟩
  · rintro j hj ⟨x1, x2⟩ ⟨h2, h1⟩ again hag
    dsimp only at h1 h2 ⊢
    subst h2
    unfold w_X3_bestScore_r_B5
    refine ⟨fun q => absurd ((nI_leI (a := 2187) (by omega) (by omega)).mp q) (by omega), fun _ => ⟨vp_in_nI hj (by decide), ?_⟩⟩
    rw [nI_clamp (by omega)]
    refine ⟨fun q => hag _ ⟨nI_1 j, LdB_congr (fun c => ?_) h1⟩, fun q => ⟨vp_in_nI hj (by decide), s_joined hB h1 (hE j hj) (fun z hz => hag _ ⟨nI_1 j, hz⟩)⟩⟩
    rw [fb_sm_succ, (LdB_none hB (hE j hj)).mp q c]
    rfl
  · rintro ⟨x1, x2⟩ ⟨h2, h1⟩ again
    dsimp only at h1 h2 ⊢
    subst h2
    unfold w_X3_bestScore_r_B5
    exact ⟨fun _ => h _ h1, fun q => absurd (by decide) q⟩
/-- what the class has found forward: stale, or right for a shift -/
def cacheF (n b : Nat) (I : Nat → Int32) (F : Nat → Nat → Int32) : Prop := I 15 = (-1 : Int32) ∨ ∃ y : Nat, y < 12 ∧ I 15 = nI y ∧ LdB 16 (TP (F 17) (F 18) (nI y) b n) (I 14) ∧ ∀ k, k < n → F 26 k = nI (rc (F 17) (F 18) (nI y) b k)
def kI (s : List Nat) (I I2 : Nat → Int32) : Prop := ∀ j, j ∉ s → I2 j = I j
def kF (s : List Nat) (F F2 : Nat → Nat → Int32) : Prop := ∀ j, j ∉ s → F2 j = F j
theorem GP_congr {K T K2 T2 : Nat → Int32} {y : Int32} {b : Nat} : ∀ {k : Nat}, (∀ i, i < k → K i = K2 i ∧ T i = T2 i) → ∀ s c, GP K T y b k s c = GP K2 T2 y b k s c
  | 0, _, _, _ => rfl
  | k + 1, h, t, c => by
    have ih := GP_congr (y := y) (b := b) (k := k) (fun i hi => h i (by omega))
    have e1 := h k (by omega)
    have e2 : heldI K T k y = heldI K2 T2 k y := by
      unfold heldI
      by_cases h0 : k = 0
      · rw [if_pos h0, if_pos h0]
      · rw [if_neg h0, if_neg h0, (h (k - 1) (by omega)).1, (h (k - 1) (by omega)).2]
    have e3 : (fun s c => GP K T y b k s c) = fun s c => GP K2 T2 y b k s c := funext (fun s => funext (fun c => ih s c))
    show (if fitK K T y k t = true then Zs (mostI (K k)) (fun p a _ => !hT (heldI K T k y) p a) (fun s c => GP K T y b k s c) t c else 0) = if fitK K2 T2 y k t = true then Zs (mostI (K2 k)) (fun p a _ => !hT (heldI K2 T2 k y) p a) (fun s c => GP K2 T2 y b k s c) t c else 0
    rw [e2, e3]
    unfold fitK
    rw [e1.1, e1.2]
theorem s_forward {n b y : Nat} {I : Nat → Int32} {F : Nat → Nat → Int32} {post : (Nat → Int32) → (Nat → Nat → Int32) → Prop} (hn : n ≤ 8) (hb : b < 2187) (hy : y < 12) (h8 : I 8 = nI n) (h7 : I 7 = nI b) (hTb : ∀ s, s < 2187 → F 25 s = hasR s 7) (hc : cacheF n b I F)
    (hp : ∀ I2 F2, kI [14, 15, 17, 18] I I2 → kF [26, 28, 29, 30] F F2 → I2 15 = nI y → LdB 16 (TP (F 17) (F 18) (nI y) b n) (I2 14) → (∀ k, k < n → F2 26 k = nI (rc (F 17) (F 18) (nI y) b k)) → post I2 F2) : w_X3_goForward_9_4 (nI y) I F post := by
  unfold w_X3_goForward_9_4
  refine ⟨fun hne => s_fill (fun F1 a1 a2 => ?_), fun he => ?_⟩
  · have go : ∀ F3, (∀ k, k ≠ 28 → F3 k = F k) → (∀ s, s < 2187 → LdB 0 (GP (F 17) (F 18) (nI y) b 0 s) (F3 28 s)) → w_X3_goForward_9_4_J43 (nI y) I F3 post := by
      intro F3 c1 c2
      unfold w_X3_goForward_9_4_J43
      refine gL_inv (fun k v => v.1 = 28 + k % 2 ∧ v.2.1 = 29 - k % 2 ∧ v.2.2.1 = nI k ∧ kI [17, 18] I v.2.2.2.1 ∧ kF [26, 28, 29, 30] F v.2.2.2.2 ∧ (∀ s, s < 2187 → LdB (2 * k) (GP (F 17) (F 18) (nI y) b k s) (v.2.2.2.2 (28 + k % 2) s)) ∧ ∀ i, i < k → v.2.2.2.2 26 i = nI (rc (F 17) (F 18) (nI y) b i)) n ?_ ?_ ⟨rfl, rfl, rfl, fun _ _ => rfl, fun j hj => c1 j (fun q => hj (by rw [q]; decide)), c2, fun i hi => absurd hi (by omega)⟩
      · rintro k hk ⟨x3, x4, x5, J, L⟩ ⟨h3, h4, h5, hJ, hL, hG, hR⟩ again hag
        dsimp only at h3 h4 h5 hJ hL hG hR ⊢
        subst h3
        subst h4
        subst h5
        have e17 : L 17 = F 17 := hL 17 (by decide)
        have e18 : L 18 = F 18 := hL 18 (by decide)
        have e25 : L 25 = F 25 := hL 25 (by decide)
        have e8 : J 8 = nI n := by rw [hJ 8 (by decide)]; exact h8
        unfold w_X3_goForward_9_4_B46
        refine ⟨fun q => absurd ((nI_leI (a := n) (b := k) (by omega) (by omega)).mp (by rw [e8] at q; exact q)) (by omega), fun _ => s_gapAhead (by omega) (fun J2 b1 b2 b3 => ?_)⟩
        rw [nI_clamp (by omega), e17, e18]
        rw [e17] at b1
        rw [e17, e18] at b2
        refine ⟨vp_in_nI (by omega) (by decide), vp_in_nI (by omega) (by decide), ?_⟩
        unfold w_X8_raised
        refine s_cross (G := fun s c => GP (F 17) (F 18) (nI y) b k s c) (B := 2 * k) (M := mostI (F 17 k)) (by omega) (by omega) (by omega) (by omega) b1 (mostI_le _) (by omega) (fun s hs => by rw [e25]; exact hTb s hs) hG (fun F4 d1 d2 => ?_)
        have d3 : ∀ t, t < 2187 → LdB (2 * (k + 1)) (GP (F 17) (F 18) (nI y) b (k + 1) t) (F4 (29 - k % 2) t) := by
          intro t ht
          refine LdB_mono (B := 2 * k + 2) (by omega) (LdB_congr (fun c => ?_) (d2 t ht))
          show (if fitI (hasR t 7) (F 17 k) (rs (F 18 k) (nI y)) = true then Zs (mostI (F 17 k)) (okA (J2 18) 1) (fun s c => GP (F 17) (F 18) (nI y) b k s c) t c else 0) = if fitK (F 17) (F 18) (nI y) k t = true then Zs (mostI (F 17 k)) (fun p a _ => !hT (heldI (F 17) (F 18) k (nI y)) p a) (fun s c => GP (F 17) (F 18) (nI y) b k s c) t c else 0
          unfold fitK
          rw [Zs_congr (ok2 := fun p a _ => !hT (heldI (F 17) (F 18) k (nI y)) p a)]
          intro p a b' hp7 ha3 _
          unfold okA
          rw [if_neg (by decide), b2 p a hp7 ha3]
        refine s_scored (B := 2 * (k + 1)) (by omega) d3 ⟨vp_in_nI (by omega) (by decide), fun F8 e8' => ?_⟩
        refine hag _ ⟨?_, ?_, nI_1 k, ?_, ?_, ?_, ?_⟩
        · show 29 - k % 2 = 28 + (k + 1) % 2
          omega
        · show 28 + k % 2 = 29 - (k + 1) % 2
          omega
        · intro j hj
          show J2 j = I j
          rw [b3 j (fun q => hj (by rw [q]; decide)) (fun q => hj (by rw [q]; decide))]
          exact hJ j hj
        · intro j hj
          show F8 j = F j
          rw [e8', upF_n _ _ (fun q => hj (by rw [q]; decide)), d1 j (fun q => hj (by rw [q]; decide)) (fun q => hj (by rw [q]; rcases (show k % 2 = 0 ∨ k % 2 = 1 by omega) with e | e <;> rw [e] <;> decide))]
          exact hL j hj
        · intro s hs
          show LdB _ _ (F8 (28 + (k + 1) % 2) s)
          rw [e8', show 28 + (k + 1) % 2 = 29 - k % 2 by omega, upF_n _ _ (by omega)]
          exact d3 s hs
        · intro i hi
          show F8 26 i = _
          rw [e8', upF_s]
          by_cases e : i = k
          · subst e
            rw [pk_us]
            rfl
          · rw [pk_un e, d1 26 (by decide) (by omega)]
            exact hR i (by omega)
      · rintro ⟨x3, x4, x5, J, L⟩ ⟨h3, h4, h5, hJ, hL, hG, hR⟩ again
        dsimp only at h3 h4 h5 hJ hL hG hR ⊢
        subst h3
        subst h4
        subst h5
        have e8 : J 8 = nI n := by rw [hJ 8 (by decide)]; exact h8
        unfold w_X3_goForward_9_4_B46
        refine ⟨fun _ => s_bestScore (B := 16) (by omega) (fun s hs => LdB_mono (by omega) (hG s hs)) (fun z hz I15 e15 I16 e16 => ?_), fun q => absurd (by rw [e8]; exact Int32.le_refl _) q⟩
        refine hp I16 L (fun j hj => ?_) hL (by rw [e16, pk_us]) ?_ hR
        · rw [e16, pk_un (fun q => hj (by rw [q]; decide)), e15, pk_un (fun q => hj (by rw [q]; decide))]
          exact hJ j (fun q => hj (by simp at q ⊢; omega))
        · rw [e16, pk_un (by decide), e15, pk_us]
          exact hz
    unfold w_X7_isSetting
    rw [h7]
    refine ⟨fun q => absurd q (nI_pos (by omega)), fun _ => ⟨fun q => absurd ((nI_leI (a := 2187) (by omega) (by omega)).mp q) (by omega), fun _ => ⟨fun q => absurd q (by decide), fun _ => ⟨vp_in_nI hb (by decide), fun F22 e22 => ?_⟩⟩⟩⟩
    rw [nI_clamp (by omega)] at e22
    refine go F22 (fun k hk => by rw [e22, upF_n _ _ hk]; exact a1 k hk) (fun s hs => ?_)
    rw [e22, upF_s]
    by_cases e : s = b
    · subst e
      rw [pk_us]
      refine Or.inr ⟨0, Nat.le_refl _, ?_, fun c' hc' => absurd hc' (by omega), ?_⟩
      · show (if s = s ∧ 0 = 0 then 1 else 0) ≠ 0
        rw [if_pos ⟨rfl, rfl⟩]
        decide
      · show _ = zc 0 ((if s = s ∧ 0 = 0 then 1 else 0) % 1000003)
        rw [if_pos ⟨rfl, rfl⟩]
        decide
    · rw [pk_un e, a2 s hs]
      refine Or.inl ⟨fun c => ?_, zc_NO⟩
      show (if s = b ∧ c = 0 then 1 else 0) = 0
      rw [if_neg (fun q => e q.1)]
  · rcases hc with h | ⟨y', hy', h15, h14, h26⟩
    · rw [he] at h
      exact absurd h (by
        intro q
        have := congrArg Int32.toInt q
        rw [nI_toInt (by omega), show (-1 : Int32).toInt = -1 by decide] at this
        omega)
    · have ey : y = y' := (nI_eq (by omega) (by omega)).mp (by rw [← he, h15])
      subst ey
      exact hp I F (fun _ _ => rfl) (fun _ _ => rfl) he h14 h26
