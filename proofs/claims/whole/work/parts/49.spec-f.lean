/-! the reference: what fits all chords, the rest from each setting -/
theorem mTab_of {F F2 : Nat → Nat → Int32} (h : ∀ k, k < 11 → F2 k = F k) (hM : mTab F) : mTab F2 := by
  unfold mTab
  rw [h 1 (by decide), h 2 (by decide), h 3 (by decide), h 8 (by decide), h 9 (by decide), h 10 (by decide)]
  exact hM
theorem m_layFits {n : Nat} {y : Int32} {I : Nat → Int32} {F : Nat → Nat → Int32} {hs : Int64} {post : (Nat → Int32) → (Nat → Nat → Int32) → Int64 → Prop} (hM : mTab F) (hn : n ≤ 8) (h3 : I 3 = nI n) (h : ∀ F2, (∀ r, r ≠ 16 → F2 r = F r) → (∀ k u, k < n → u < 2187 → F2 16 (2187 * k + u) = if fitK (F 14) (F 15) y k u = true then 1 else 0) → post I F2 hs) : w_X9_layFits y I F hs post := by
  unfold w_X9_layFits
  refine gL_inv (fun k v => v.1 = nI k ∧ v.2.1 = I ∧ v.2.2.2 = hs ∧ (∀ r, r ≠ 16 → v.2.2.1 r = F r) ∧ ∀ k' u, k' < k → u < 2187 → v.2.2.1 16 (2187 * k' + u) = if fitK (F 14) (F 15) y k' u = true then 1 else 0) n ?_ ?_ ⟨rfl, rfl, rfl, fun _ _ => rfl, fun k' u hk => absurd hk (by omega)⟩
  · rintro k hk ⟨x2, J, L, g⟩ ⟨h2, hJ, hg, hL, hP⟩ again hag
    dsimp only at h2 hJ hg hL hP ⊢
    subst h2
    subst hJ
    subst hg
    have e14 : L 14 = F 14 := hL 14 (by decide)
    have e15 : L 15 = F 15 := hL 15 (by decide)
    unfold w_X9_layFits_B2 w_X9_shiftedTones
    refine ⟨fun q => absurd ((nI_leI (a := n) (b := k) (by omega) (by omega)).mp (by rw [h3] at q; exact q)) (by omega), fun _ => ⟨vp_in_nI (by omega) (by decide), ?_⟩⟩
    rw [nI_clamp (by omega), e15]
    refine gL_inv (fun u v => v.1 = nI u ∧ v.2.1 = J ∧ v.2.2.2 = g ∧ (∀ r, r ≠ 16 → v.2.2.1 r = F r) ∧ (∀ k' u, k' < k → u < 2187 → v.2.2.1 16 (2187 * k' + u) = if fitK (F 14) (F 15) y k' u = true then 1 else 0) ∧ ∀ u', u' < u → v.2.2.1 16 (2187 * k + u') = if fitK (F 14) (F 15) y k u' = true then 1 else 0) 2187 ?_ ?_ ⟨rfl, rfl, rfl, hL, hP, fun u' hu => absurd hu (by omega)⟩
    · rintro u hu ⟨x4, J2, L2, g2⟩ ⟨h4, hJ2, hg2, hL2, hP2, hQ2⟩ again2 hag2
      dsimp only at h4 hJ2 hg2 hL2 hP2 hQ2 ⊢
      subst h4
      subst hJ2
      subst hg2
      have hM2 : mTab L2 := mTab_of (fun k hk => hL2 k (by omega)) hM
      unfold w_X9_layFits_B25
      have step : ∀ z : Int32, (z = if fitK (F 14) (F 15) y k u = true then 1 else 0) → (vp_in (((2187 : Int32) * nI k) + nI u) 17496 ∧ ∀ F4 : Nat → Nat → Int32, F4 = upF L2 16 (upd (L2 16) ((((2187 : Int32) * nI k) + nI u)).toNatClampNeg z) → again2 (nI u + (1 : Int32), J2, F4, g2)) := by
        intro z hz
        rw [show (2187 : Int32) = nI 2187 by decide, ix2, nI_clamp (by omega)]
        refine ⟨vp_in_nI (by omega) (by decide), fun F4 e4 => hag2 _ ⟨nI_1 u, rfl, rfl, fun r hr => ?_, fun k' u' hk' hu' => ?_, fun u' hu' => ?_⟩⟩
        · show F4 r = F r
          rw [e4, upF_n _ _ hr]
          exact hL2 r hr
        · show F4 16 _ = _
          rw [e4, upF_s, pk_un (by omega)]
          exact hP2 k' u' hk' hu'
        · show F4 16 _ = _
          rw [e4, upF_s]
          by_cases e : u' = u
          · subst e
            rw [pk_us]
            exact hz
          · rw [pk_un (by omega)]
            exact hQ2 u' (by omega)
      refine ⟨fun q => absurd ((nI_leI (a := 2187) (by omega) (by omega)).mp q) (by omega), fun _ => ⟨vp_in_nI (by omega) (by decide), ?_⟩⟩
      rw [nI_clamp (by omega), hL2 14 (by decide)]
      refine m_isFitting hM2 hu (fun hf => ⟨fun q => absurd q (by decide), fun _ => step 1 ?_⟩) (fun hf => ⟨fun _ => step 0 ?_, fun q => absurd rfl q⟩)
      · rw [if_pos (show fitK (F 14) (F 15) y k u = true from hf)]
      · rw [if_neg]
        intro q
        have q2 : fitI (hasR u 7) (F 14 k) (rs (F 15 k) y) = true := q
        unfold rs at q2
        rw [hf] at q2
        cases q2
    · rintro ⟨x4, J2, L2, g2⟩ ⟨h4, hJ2, hg2, hL2, hP2, hQ2⟩ again2
      dsimp only at h4 hJ2 hg2 hL2 hP2 hQ2 ⊢
      subst h4
      subst hJ2
      subst hg2
      unfold w_X9_layFits_B25
      refine ⟨fun _ => hag _ ⟨nI_1 k, rfl, rfl, hL2, fun k' u' hk' hu' => ?_⟩, fun q => absurd (by decide) q⟩
      by_cases e : k' = k
      · subst e
        exact hQ2 u' hu'
      · exact hP2 k' u' (by omega) hu'
  · rintro ⟨x2, J, L, g⟩ ⟨h2, hJ, hg, hL, hP⟩ again
    dsimp only at h2 hJ hg hL hP ⊢
    subst h2
    subst hJ
    subst hg
    unfold w_X9_layFits_B2
    exact ⟨fun _ => h L hL hP, fun q => absurd (by rw [h3]; exact Int32.le_refl _) q⟩
theorem OW_last (K T : Nat → Int32) (y : Int32) {n k : Nat} (hk : k + 1 = n) (u : Nat) (hf : fitK K T y k u = true) : mc (OW K T y n k u) = 0 := by
  apply mc_is
  · unfold OW
    rw [if_pos hf, show n - 1 - k = 0 by omega]
    show (if 0 = 0 then 1 else 0) ≠ 0
    decide
  · intro c' hc'
    omega
  · omega
theorem OW_next (K T : Nat → Int32) (y : Int32) {n k : Nat} (hk : k + 1 < n) (u : Nat) (hf : fitK K T y k u = true) : OW K T y n k u = BR K T y n (n - (k + 1)) u := by
  funext c
  unfold OW
  rw [if_pos hf, show n - 1 - k = n - (k + 1) by omega]
theorem m_layRest {n : Nat} {y : Int32} {I : Nat → Int32} {F : Nat → Nat → Int32} {hs : Int64} {post : (Nat → Int32) → (Nat → Nat → Int32) → Int64 → Prop} (hM : mTab F) (hn : n ≤ 8) (h3 : I 3 = nI n) (h : ∀ F2, kF [16, 17] F F2 → (∀ k u, k < n → u < 2187 → F2 16 (2187 * k + u) = if fitK (F 14) (F 15) y k u = true then 1 else 0) → (∀ k u, k < n → u < 2187 → F2 17 (2187 * k + u) = nI (mc (OW (F 14) (F 15) y n k u))) → post I F2 hs) : w_X9_layRest y I F hs post := by
  unfold w_X9_layRest
  refine m_layFits hM hn h3 (fun F1 hF1 hft v hv => ?_)
  rw [h3] at hv
  have one : (1 : Int32) = nI 1 := by decide
  refine gL_inv (fun j w => w.1 = nI (n - j) - 1 ∧ w.2.1 = I ∧ w.2.2.2 = hs ∧ (∀ r, r ≠ 17 → w.2.2.1 r = F1 r) ∧ ∀ k u, n - j ≤ k → k < n → u < 2187 → w.2.2.1 17 (2187 * k + u) = nI (mc (OW (F 14) (F 15) y n k u))) n ?_ ?_ ⟨hv, rfl, rfl, fun _ _ => rfl, fun k u h1 h2 => absurd h2 (by omega)⟩
  · rintro j hj ⟨x2, J, L, g⟩ ⟨h2, hJ, hg, hL, hP⟩ again hag
    dsimp only at h2 hJ hg hL hP ⊢
    subst hJ
    subst hg
    obtain ⟨k, hk⟩ : ∃ k, k + 1 + j = n := ⟨n - 1 - j, by omega⟩
    have ek : n - j = k + 1 := by omega
    rw [ek, nI_pred] at h2
    subst h2
    unfold w_X9_layRest_B12
    refine ⟨fun q => absurd q (nI_pos (by omega)), fun _ => ?_⟩
    refine gL_inv (fun u w => w.1 = nI u ∧ w.2.1 = J ∧ w.2.2.2 = g ∧ (∀ r, r ≠ 17 → w.2.2.1 r = F1 r) ∧ (∀ k' u, n - j ≤ k' → k' < n → u < 2187 → w.2.2.1 17 (2187 * k' + u) = nI (mc (OW (F 14) (F 15) y n k' u))) ∧ ∀ u', u' < u → w.2.2.1 17 (2187 * k + u') = nI (mc (OW (F 14) (F 15) y n k u'))) 2187 ?_ ?_ ⟨rfl, rfl, rfl, hL, hP, fun u' hu => absurd hu (by omega)⟩
    · rintro u hu ⟨x3, J2, L2, g2⟩ ⟨h4, hJ2, hg2, hL2, hP2, hQ2⟩ again2 hag2
      dsimp only at h4 hJ2 hg2 hL2 hP2 hQ2 ⊢
      subst h4
      subst hJ2
      subst hg2
      have e14 : L2 14 = F 14 := by rw [hL2 14 (by decide), hF1 14 (by decide)]
      have e15 : L2 15 = F 15 := by rw [hL2 15 (by decide), hF1 15 (by decide)]
      have e16 : L2 16 = F1 16 := hL2 16 (by decide)
      have hM2 : mTab L2 := mTab_of (fun k hk => by rw [hL2 k (by omega), hF1 k (by omega)]) hM
      have step : ∀ z : Int32, z = nI (mc (OW (F 14) (F 15) y n k u)) → (vp_in (nI (2187 * k + u)) 17496 ∧ ∀ F4 : Nat → Nat → Int32, F4 = upF L2 17 (upd (L2 17) (2187 * k + u) z) → again2 (nI u + (1 : Int32), J2, F4, g2)) := by
        intro z hz
        refine ⟨vp_in_nI (by omega) (by decide), fun F4 e4 => hag2 _ ⟨nI_1 u, rfl, rfl, fun r hr => ?_, fun k' u' h1 h2 hu' => ?_, fun u' hu' => ?_⟩⟩
        · show F4 r = F1 r
          rw [e4, upF_n _ _ hr]
          exact hL2 r hr
        · show F4 17 _ = _
          rw [e4, upF_s, pk_un (by omega)]
          exact hP2 k' u' h1 h2 hu'
        · show F4 17 _ = _
          rw [e4, upF_s]
          by_cases e : u' = u
          · subst e
            rw [pk_us]
            exact hz
          · rw [pk_un (by omega)]
            exact hQ2 u' (by omega)
      unfold w_X9_layRest_B18
      refine ⟨fun q => absurd ((nI_leI (a := 2187) (by omega) (by omega)).mp q) (by omega), fun _ => ?_⟩
      rw [show (2187 : Int32) = nI 2187 by decide, ix2, nI_clamp (by omega), e16, hft k u (by omega) hu, h3]
      refine ⟨vp_in_nI (by omega) (by decide), fun q => ?_, fun q => ?_⟩
      · have hf : fitK (F 14) (F 15) y k u = true := Classical.byContradiction (fun z => q (if_neg z))
        have en : nI n - (1 : Int32) = nI (n - 1) := by rw [one, pk_sub (by omega)]
        rw [en, nI_eq (by omega) (by omega)]
        refine ⟨fun hne => ?_, fun he => step 0 ?_⟩
        · rw [nI_1]
          refine m_bestFrom (n := n) (k := k + 1) hM2 hu (by omega) hn (fun u' hu' => ?_) (fun u' hu' => ?_) (step _ ?_)
          · rw [e16, e14, e15]
            exact hft (k + 1) u' (by omega) hu'
          · rw [e14, e15]
            exact hP2 (k + 1) u' (by omega) (by omega) hu'
          · rw [e14, e15, OW_next _ _ _ (by omega) u hf]
        · rw [OW_last _ _ _ (by omega) u hf]
          rfl
      · have hf : ¬ fitK (F 14) (F 15) y k u = true := fun z => absurd q (by rw [if_pos z]; decide)
        refine step _ ?_
        rw [mc_no (fun c => by unfold OW; rw [if_neg hf])]
        decide
    · rintro ⟨x3, J2, L2, g2⟩ ⟨h4, hJ2, hg2, hL2, hP2, hQ2⟩ again2
      dsimp only at h4 hJ2 hg2 hL2 hP2 hQ2 ⊢
      subst h4
      subst hJ2
      subst hg2
      unfold w_X9_layRest_B18
      refine ⟨fun _ => hag _ ⟨?_, rfl, rfl, hL2, fun k' u' h1 h2 hu' => ?_⟩, fun q => absurd (by decide) q⟩
      · show nI k + (-1 : Int32) = nI (n - (j + 1)) - 1
        rw [show n - (j + 1) = k by omega]
        grind
      · by_cases e : k' = k
        · subst e
          exact hQ2 u' hu'
        · exact hP2 k' u' (by omega) h2 hu'
  · rintro ⟨x2, J, L, g⟩ ⟨h2, hJ, hg, hL, hP⟩ again
    dsimp only at h2 hJ hg hL hP ⊢
    subst hJ
    subst hg
    rw [Nat.sub_self] at h2
    subst h2
    unfold w_X9_layRest_B12
    refine ⟨fun _ => h L (fun r hr => ?_) (fun k u hk hu => ?_) (fun k u hk hu => hP k u (by omega) hk hu), fun q => absurd (by decide) q⟩
    · rw [hL r (fun q => hr (by rw [q]; decide)), hF1 r (fun q => hr (by rw [q]; decide))]
    · rw [hL 16 (by decide)]
      exact hft k u hk hu
