/-! tones, what fits, what is held, one gap crossed -/
def nt (p : Nat) : Nat := if p = 0 then 2 else if p = 1 then 0 else if p = 2 then 11 else if p = 3 then 4 else if p = 4 then 5 else if p = 5 then 7 else 9
def tn (p d : Nat) : Nat := (nt p + d + 11) % 12
theorem tn_lt (p d : Nat) : tn p d < 12 := Nat.mod_lt _ (by decide)
theorem nt_lt (p : Nat) : nt p < 12 := by unfold nt; split <;> (try split) <;> (try split) <;> (try split) <;> (try split) <;> (try split) <;> omega
theorem tabN_at {p : Nat} (hp : p < 7) : tabN (nI p).toNatClampNeg = nI (nt p) := by
  rw [nI_clamp (by omega)]
  rcases seven hp with rfl | rfl | rfl | rfl | rfl | rfl | rfl <;> rfl
theorem s_tone {p d : Nat} {I : Nat → Int32} {F : Nat → Nat → Int32} {post : Int32 → Prop} (hp : p < 7) (hd : d < 3) (h : post (nI (tn p d))) : w_X7_toneAt (nI p) (nI d) I F post := by
  have h1 := nt_lt p
  unfold w_X7_toneAt
  refine ⟨vp_in_nI hp (by decide), ?_⟩
  rw [tabN_at hp, nI_add, show (12 : Int32) = nI 12 by decide, nI_add, show (1 : Int32) = nI 1 by decide, pk_sub (by omega), pk_rem (by omega) (by omega) (by omega)]
  exact h
theorem bit_eq (x : Int32) {n : Nat} (hn : n < 32) : ((x >>> (nI n &&& 31)) &&& (1 : Int32)) = 0 ↔ bt x n = false := by
  have e1 : ∀ i, i < 32 → bt (1 : Int32) i = decide (i = 0) := by decide +kernel
  constructor
  · intro h
    have h2 : bt ((x >>> (nI n &&& 31)) &&& (1 : Int32)) 0 = false := by rw [h]; exact b_0 0
    rw [b_and, b_sshr n hn x (by omega), if_pos (by omega), e1 0 (by omega), Nat.add_zero] at h2
    simpa using h2
  · intro h
    apply b_ext
    intro i hi
    rw [b_and, b_0, e1 i hi]
    by_cases h0 : i = 0
    · subst h0
      rw [b_sshr n hn x (by omega), if_pos (by omega), Nat.add_zero, h]
      rfl
    · simp [h0]
def hT (h : Int32) (p d : Nat) : Bool := bt h (tn p d)
theorem hbI_bt (x : Int32) {p d : Nat} (hp : p < 7) (hd : d < 3) : hbI x p d = bt x (3 * p + d) := by
  unfold hbI
  rw [show (3 : Int32) = nI 3 by decide, pk_mul, nI_add, show p * 3 + d = 3 * p + d by omega]
  have h := bit_eq x (n := 3 * p + d) (by omega)
  by_cases hb : bt x (3 * p + d) = false
  · rw [hb]
    exact decide_eq_false (fun q => q (h.mpr hb))
  · have hb2 : bt x (3 * p + d) = true := by simpa using hb
    rw [hb2]
    exact decide_eq_true (fun q => hb (h.mp q))
/-- one bit put in -/
theorem bt_put (y w : Int32) {n t : Nat} (hn : n < 31) (ht : t < 32) {i : Nat} (hi : i < 32) : bt (y ||| (((w >>> (nI t &&& 31)) &&& (1 : Int32)) <<< (nI n &&& 31))) i = (bt y i || (decide (i = n) && bt w t)) := by
  have e1 : ∀ i, i < 32 → bt (1 : Int32) i = decide (i = 0) := by decide +kernel
  rw [b_or, b_shl n (by omega) _ hi]
  congr 1
  by_cases h : i < n
  · rw [decide_eq_false (show ¬ n ≤ i by omega), decide_eq_false (show ¬ i = n by omega)]
    rfl
  · rw [decide_eq_true (show n ≤ i by omega), Bool.true_and, b_and, e1 _ (by omega)]
    by_cases h2 : i = n
    · subst h2
      rw [Nat.sub_self, b_sshr t ht w (by omega), if_pos (by omega), Nat.add_zero]
      simp
    · rw [decide_eq_false (show ¬ i - n = 0 by omega), decide_eq_false h2]
      simp
def mostI (k : Int32) : Nat := if k = 4 then 0 else if k = 3 then 1 else 2
theorem mostI_le (k : Int32) : mostI k ≤ 2 := by unfold mostI; split <;> (try split) <;> omega
/-- what stands of an object but for two numbers -/
theorem s_gapset {kd hd : Int32} {I : Nat → Int32} {F : Nat → Nat → Int32} {post : (Nat → Int32) → (Nat → Nat → Int32) → Prop} (h : ∀ I2 : Nat → Int32, I2 17 = nI (mostI kd) → (∀ p d, p < 7 → d < 3 → hbI (I2 18) p d = hT hd p d) → (∀ j, j ≠ 17 → j ≠ 18 → I2 j = I j) → post I2 F) : w_X0_set_10 kd hd I F post := by
  have key : ∀ m, mostI kd = m → w_X0_set_10_J20 hd (nI m) I F post := by
    intro m hm
    unfold w_X0_set_10_J20
    intro I9 e9 I10 e10
    have h17 : I10 17 = nI m := by rw [e10, pk_un (by decide), e9, pk_us]
    have h18 : I10 18 = 0 := by rw [e10, pk_us]
    have hj : ∀ j, j ≠ 17 → j ≠ 18 → I10 j = I j := fun j h1 h2 => by rw [e10, pk_un h2, e9, pk_un h1]
    refine gL_inv (fun p v => v.1 = nI p ∧ v.2.2 = F ∧ v.2.1 17 = nI m ∧ (∀ j, j ≠ 17 → j ≠ 18 → v.2.1 j = I j) ∧ ∀ i, i < 21 → bt (v.2.1 18) i = (decide (i < 3 * p) && hT hd (i / 3) (i % 3))) 7 ?_ ?_ ⟨rfl, rfl, h17, hj, fun i hi => ?_⟩
    · rintro p hp ⟨x3, J, K⟩ ⟨h3, hK, a1, a2, a3⟩ again hag
      dsimp only at h3 hK a1 a2 a3 ⊢
      subst h3
      subst hK
      unfold w_X0_set_10_B30
      refine ⟨fun q => absurd ((nI_leI (a := 7) (by omega) (by omega)).mp q) (by omega), fun _ => ?_⟩
      refine gL_inv (fun d v => v.1 = nI d ∧ v.2.2 = K ∧ v.2.1 17 = nI m ∧ (∀ j, j ≠ 17 → j ≠ 18 → v.2.1 j = I j) ∧ ∀ i, i < 21 → bt (v.2.1 18) i = (decide (i < 3 * p + d) && hT hd (i / 3) (i % 3))) 3 ?_ ?_ ⟨rfl, rfl, a1, a2, a3⟩
      · rintro d hd3 ⟨x4, J2, K2⟩ ⟨h4, hK2, b1, b2, b3⟩ again2 hag2
        dsimp only at h4 hK2 b1 b2 b3 ⊢
        subst h4
        subst hK2
        unfold w_X0_set_10_B39
        refine ⟨fun q => absurd ((nI_leI (a := 3) (by omega) (by omega)).mp q) (by omega), fun _ => s_tone hp hd3 ?_⟩
        intro v hv J3 eJ3
        have ht := tn_lt p d
        refine hag2 _ ⟨nI_1 d, rfl, ?_, ?_, ?_⟩
        · show J3 17 = nI m
          rw [eJ3, pk_un (by decide)]
          exact b1
        · intro j h1 h2
          show J3 j = I j
          rw [eJ3, pk_un h2]
          exact b2 j h1 h2
        · intro i hi
          show bt (J3 18) i = _
          rw [eJ3, pk_us, hv, show (3 : Int32) = nI 3 by decide, pk_mul, nI_add, bt_put _ _ (by omega) (by omega) (by omega), b3 i hi]
          by_cases e : i = p * 3 + d
          · rw [decide_eq_true e, decide_eq_false (show ¬ i < 3 * p + d by omega), decide_eq_true (show i < 3 * p + (d + 1) by omega), show i / 3 = p by omega, show i % 3 = d by omega]
            simp [hT]
          · rw [decide_eq_false e]
            by_cases e2 : i < 3 * p + d
            · rw [decide_eq_true e2, decide_eq_true (show i < 3 * p + (d + 1) by omega)]
              simp
            · rw [decide_eq_false e2, decide_eq_false (show ¬ i < 3 * p + (d + 1) by omega)]
              simp
      · rintro ⟨x4, J2, K2⟩ ⟨h4, hK2, b1, b2, b3⟩ again2
        dsimp only at h4 hK2 b1 b2 b3 ⊢
        subst h4
        subst hK2
        unfold w_X0_set_10_B39
        exact ⟨fun _ => hag _ ⟨nI_1 p, rfl, b1, b2, fun i hi => by rw [b3 i hi, show 3 * p + 3 = 3 * (p + 1) by omega]⟩, fun q => absurd (by decide) q⟩
    · rintro ⟨x3, J, K⟩ ⟨h3, hK, a1, a2, a3⟩ again
      dsimp only at h3 hK a1 a2 a3 ⊢
      subst h3
      subst hK
      unfold w_X0_set_10_B30
      refine ⟨fun _ => h J (by rw [hm]; exact a1) (fun p d hp hd3 => ?_) a2, fun q => absurd (by decide) q⟩
      rw [hbI_bt _ hp hd3, a3 _ (by omega), decide_eq_true (show 3 * p + d < 3 * 7 by omega), show (3 * p + d) / 3 = p by omega, show (3 * p + d) % 3 = d by omega]
      rfl
    · show bt (I10 18) i = _
      rw [h18, b_0, decide_eq_false (by omega)]
      rfl
  unfold w_X0_set_10
  refine ⟨fun h1 => ⟨fun h2 => ?_, fun h2 => ?_⟩, fun h1 => ?_⟩
  · exact key 2 (by unfold mostI; rw [if_neg h1, if_neg h2])
  · exact key 1 (by unfold mostI; rw [if_neg h1, if_pos h2])
  · exact key 0 (by unfold mostI; rw [if_pos h1])
def hasR (s : Nat) : Nat → Int32
  | 0 => 0
  | p + 1 => hasR s p ||| ((1 : Int32) <<< (nI (tn p (pos s p)) &&& 31))
def fitI (h k t : Int32) : Bool := if k = 1 then decide (h = t) else decide (h &&& t = t)
theorem s_fits {s : Nat} {k t : Int32} {I : Nat → Int32} {F : Nat → Nat → Int32} {post : Int32 → Prop} (hs : s < 2187) (hT : F 25 s = hasR s 7) (h1 : fitI (hasR s 7) k t = true → post 1) (h0 : fitI (hasR s 7) k t = false → post 0) : w_X7_fits_8 (nI s) k t I F post := by
  unfold w_X7_fits_8
  refine ⟨vp_in_nI hs (by decide), fun v hv => ?_⟩
  rw [nI_clamp (by omega), hT] at hv
  subst hv
  refine ⟨fun hk => ⟨fun q => h0 ?_, fun q => h1 ?_⟩, fun hk => ⟨fun q => h0 ?_, fun q => h1 ?_⟩⟩
  · unfold fitI; rw [if_neg hk]; exact decide_eq_false q
  · unfold fitI; rw [if_neg hk]; exact decide_eq_true q
  · unfold fitI; rw [if_pos hk]; exact decide_eq_false q
  · unfold fitI; rw [if_pos hk]; exact decide_eq_true q
theorem s_J65 {r3 src n B : Nat} {kd tt ah : Int32} {I : Nat → Int32} {F : Nat → Nat → Int32} {post : (Nat → Int32) → (Nat → Nat → Int32) → Prop} {G : Nat → Nat → Nat} (hs : src ≠ r3) (h25 : r3 ≠ 25) (hn : n ≤ 7) (hB : B + 1 ≤ 1000) (hT : ∀ s, s < 2187 → F 25 s = hasR s 7) (hE : ∀ s, s < 2187 → LdB B (G s) (F src s)) (hp : ∀ F2, (∀ k, k ≠ r3 → F2 k = F k) → (∀ t, t < 2187 → LdB (B + 1) (fun c => if fitI (hasR t 7) kd tt = true then Rg 0 n (okA (I 18) ah) G t c else 0) (F2 r3 t)) → post I F2) : w_X3_cross_9_r_r_J65 r3 kd tt ah src (nI n) I F post := by
  unfold w_X3_cross_9_r_r_J65
  refine gL_inv (fun j v => v.1 = nI j ∧ v.2.1 = I ∧ (∀ k, k ≠ r3 → v.2.2 k = F k) ∧ ∀ t, t < j → LdB (B + 1) (fun c => if fitI (hasR t 7) kd tt = true then Rg 0 n (okA (I 18) ah) G t c else 0) (v.2.2 r3 t)) 2187 ?_ ?_ ⟨rfl, rfl, fun _ _ => rfl, fun t ht => absurd ht (by omega)⟩
  · rintro t ht ⟨x9, J, K⟩ ⟨h9, hJ, hK, hL⟩ again hag
    dsimp only at h9 hJ hK hL ⊢
    subst h9
    subst hJ
    unfold w_X3_cross_9_r_r_B70
    have step : ∀ z, LdB (B + 1) (fun c => if fitI (hasR t 7) kd tt = true then Rg 0 n (okA (J 18) ah) G t c else 0) z → ∀ F4, F4 = upF K r3 (upd (K r3) (nI t).toNatClampNeg z) → again (nI t + (1 : Int32), J, F4) := by
      intro z hz F4 e4
      rw [nI_clamp (by omega)] at e4
      refine hag _ ⟨nI_1 t, rfl, fun k hk => ?_, fun u hu => ?_⟩
      · show F4 k = F k
        rw [e4, upF_n _ _ hk]
        exact hK k hk
      · show LdB _ _ (F4 r3 u)
        rw [e4, upF_s]
        by_cases e : u = t
        · subst e
          rw [pk_us]
          exact hz
        · rw [pk_un e]
          exact hL u (by omega)
    refine ⟨fun q => absurd ((nI_leI (a := 2187) (by omega) (by omega)).mp q) (by omega), fun _ => s_fits ht (by rw [hK 25 (fun q => h25 q.symm)]; exact hT t ht) (fun hf => ?_) (fun hf => ?_)⟩
    · refine ⟨fun q => absurd q (by decide), fun _ => s_gathered (G := G) (B := B) ht hn hB (fun s hs2 => by rw [hK src hs]; exact hE s hs2) (fun z hz => ⟨vp_in_nI ht (by decide), step z (LdB_congr (fun c => ?_) hz)⟩)⟩
      rw [if_pos hf]
    · refine ⟨fun _ => ⟨vp_in_nI ht (by decide), step _ (Or.inl ⟨fun c => ?_, zc_NO⟩)⟩, fun q => absurd rfl q⟩
      show (if fitI (hasR t 7) kd tt = true then _ else 0) = 0
      rw [if_neg (by rw [hf]; decide)]
  · rintro ⟨x9, J, K⟩ ⟨h9, hJ, hK, hL⟩ again
    dsimp only at h9 hJ hK hL ⊢
    subst h9
    subst hJ
    unfold w_X3_cross_9_r_r_B70
    exact ⟨fun _ => hp K hK hL, fun q => absurd (by decide) q⟩
theorem s_cross {r2 r3 B M : Nat} {kd tt ah : Int32} {I : Nat → Int32} {F : Nat → Nat → Int32} {post : (Nat → Int32) → (Nat → Nat → Int32) → Prop} {G : Nat → Nat → Nat} (hr2 : r2 ≠ 30) (hr3 : r3 ≠ 30) (h23 : r2 ≠ r3) (h25 : r3 ≠ 25) (hM : I 17 = nI M) (hM2 : M ≤ 2) (hB : B + 2 ≤ 1000) (hT : ∀ s, s < 2187 → F 25 s = hasR s 7) (hE : ∀ s, s < 2187 → LdB B (G s) (F r2 s)) (hp : ∀ F2, (∀ k, k ≠ 30 → k ≠ r3 → F2 k = F k) → (∀ t, t < 2187 → LdB (B + 2) (fun c => if fitI (hasR t 7) kd tt = true then Zs M (okA (I 18) ah) G t c else 0) (F2 r3 t)) → post I F2) : w_X3_cross_9_r_r r2 r3 kd tt ah I F post := by
  unfold w_X3_cross_9_r_r
  intro v hv
  rw [hM] at hv
  subst hv
  refine ⟨fun h2 => ?_, fun h2 => ?_⟩
  · rw [show (2 : Int32) = nI 2 by decide, nI_eq (by omega) (by omega)] at h2
    unfold w_X3_cross_9_r_r_J44
    refine ⟨fun h0 => ⟨fun h1 => ?_, fun h1 => ?_⟩, fun h0 => ?_⟩
    · rw [show (0 : Int32) = nI 0 by decide, nI_eq (by omega) (by omega)] at h0
      rw [show (1 : Int32) = nI 1 by decide, nI_eq (by omega) (by omega)] at h1
      omega
    · rw [show (1 : Int32) = nI 1 by decide, nI_eq (by omega) (by omega)] at h1
      subst h1
      refine s_J65 (n := 7) (B := B) (G := G) h23 h25 (by omega) (by omega) hT hE (fun F2 a1 a2 => hp F2 (fun k _ hk => a1 k hk) (fun t ht => LdB_mono (by omega) (LdB_congr (fun c => ?_) (a2 t ht))))
      rw [Z_1 _ _ ht]
    · rw [show (0 : Int32) = nI 0 by decide, nI_eq (by omega) (by omega)] at h0
      subst h0
      refine s_J65 (n := 0) (B := B) (G := G) h23 h25 (by omega) (by omega) hT hE (fun F2 a1 a2 => hp F2 (fun k _ hk => a1 k hk) (fun t ht => LdB_mono (by omega) (LdB_congr (fun c => ?_) (a2 t ht))))
      rw [Z_0]
      rfl
  · rw [show (2 : Int32) = nI 2 by decide, nI_eq (by omega) (by omega)] at h2
    subst h2
    intro F14 e14
    have c0 : ((0 : Int32)).toNatClampNeg = 0 := by decide
    have c1 : ((2187 : Int32)).toNatClampNeg = 2187 := by decide
    rw [c0, c1] at e14
    have hr : F14 r2 = F r2 := by rw [e14, upF_n _ _ hr2]
    have ho : ∀ k, k ≠ 30 → F14 k = F k := fun k hk => by rw [e14, upF_n _ _ hk]
    refine s_spread (G := G) (B := B) hr2 (by omega) (fun s hs => by rw [hr]; exact hE s hs) (fun s hs => ?_) (fun F2 a1 a2 => ?_)
    · rw [e14, upF_s, pk_cpy_in (by omega) (by omega)]
      rw [show 0 + (s - 0) = s by omega]
      exact hE s hs
    · unfold w_X3_cross_9_r_r_J44
      refine ⟨fun _ => ⟨fun _ => ?_, fun q => absurd q (by decide)⟩, fun q => absurd q (by decide)⟩
      refine s_J65 (n := 3) (B := B + 1) (G := Rg 3 4 (okA (I 18) ah) G) (fun q => hr3 q.symm) h25 (by omega) (by omega) (fun s hs => by rw [a1 25 (by decide), ho 25 (by decide)]; exact hT s hs) a2 (fun F3 b1 b2 => hp F3 (fun k h1 h2 => by rw [b1 k h2, a1 k h1, ho k h1]) (fun t ht => LdB_congr (fun c => ?_) (b2 t ht)))
      rw [Z_2 _ _ ht]
/-- tones so much more, of 12 round -/
def rs (t b : Int32) : Int32 := ((t <<< (b &&& 31)) ||| (t >>> (((12 : Int32) - b) &&& 31))) &&& (4095 : Int32)
def heldI (K T : Nat → Int32) (k : Nat) (b : Int32) : Int32 := if k = 0 then 0 else if K (k - 1) = 2 ∨ K (k - 1) = 4 then rs (T (k - 1)) b else 0
theorem s_gapAhead {k : Nat} {b : Int32} {I : Nat → Int32} {F : Nat → Nat → Int32} {post : (Nat → Int32) → (Nat → Nat → Int32) → Prop} (hk : k < 8) (h : ∀ I2 : Nat → Int32, I2 17 = nI (mostI (F 17 k)) → (∀ p d, p < 7 → d < 3 → hbI (I2 18) p d = hT (heldI (F 17) (F 18) k b) p d) → (∀ j, j ≠ 17 → j ≠ 18 → I2 j = I j) → post I2 F) : w_X3_setGapAheadOf_9_4 (nI k) b I F post := by
  have nohold : heldI (F 17) (F 18) k b = 0 → w_X3_setGapAheadOf_9_4_J22 (nI k) b I F post := by
    intro e
    unfold w_X3_setGapAheadOf_9_4_J22 w_X3_setGapAheadOf_9_4_J23
    refine ⟨vp_in_nI hk (by decide), fun _ => ?_, fun q => absurd rfl q⟩
    rw [nI_clamp (by omega)]
    exact s_gapset (fun I2 a1 a2 a3 => h I2 a1 (by rw [e]; exact a2) a3)
  unfold w_X3_setGapAheadOf_9_4
  refine ⟨fun q => ?_, fun q => ?_⟩
  · rw [show (0 : Int32) = nI 0 by decide, nI_leI (by omega) (by omega)] at q
    exact nohold (by unfold heldI; rw [if_pos (by omega)])
  · rw [show (0 : Int32) = nI 0 by decide, nI_leI (by omega) (by omega)] at q
    have e1 : nI k - (1 : Int32) = nI (k - 1) := by rw [show (1 : Int32) = nI 1 by decide, pk_sub (by omega)]
    rw [e1, nI_clamp (by omega)]
    refine ⟨vp_in_nI (by omega) (by decide), ?_⟩
    unfold w_X8_isHeld
    have yes : (F 17 (k - 1) = 2 ∨ F 17 (k - 1) = 4) → w_X3_setGapAheadOf_9_4_J23 (nI k) b (1 : Int32) I F post := by
      intro hh
      unfold w_X3_setGapAheadOf_9_4_J23
      refine ⟨vp_in_nI hk (by decide), fun q => absurd q (by decide), fun _ => ?_⟩
      rw [e1, nI_clamp (by omega), nI_clamp (by omega)]
      refine ⟨vp_in_nI (by omega) (by decide), ?_⟩
      unfold w_X8_raised
      refine s_gapset (fun I2 a1 a2 a3 => h I2 a1 ?_ a3)
      unfold heldI
      rw [if_neg (by omega), if_pos hh]
      exact a2
    have no : ¬ (F 17 (k - 1) = 2 ∨ F 17 (k - 1) = 4) → w_X3_setGapAheadOf_9_4_J22 (nI k) b I F post := fun hh => nohold (by unfold heldI; rw [if_neg (by omega), if_neg hh])
    exact ⟨fun h2 => ⟨fun q => absurd q (by decide), fun _ => yes (Or.inl h2)⟩, fun h2 => ⟨fun h4 => ⟨fun _ => no (fun z => z.elim h2 h4), fun q => absurd rfl q⟩, fun h4 => ⟨fun q => absurd q (by decide), fun _ => yes (Or.inr h4)⟩⟩⟩
