/-! the reference: layCost -/
theorem m_layFromE {s k cs B : Nat} {x1 x2 x3 x4 : Int32} {Gs : Nat → Nat} {Q : Nat → Nat → Nat} {I : Nat → Int32} {F : Nat → Nat → Int32} {hs : Int64} {post : (Nat → Int32) → (Nat → Nat → Int32) → Int64 → Prop} (e1 : x1 = nI s) (e2 : x2 = nI k) (e3 : x3 = nI cs) (e4 : x4 = nI (Gs cs % 1000003)) (hM : mTab F) (h1 : s < 2187) (hk : k < 8) (hB : B ≤ 900) (hcs : cs + 2 ≤ B) (hG1 : Gs cs ≠ 0) (hG2 : ∀ c', c' < cs → Gs c' = 0)
    (hf : ∀ u, u < 2187 → F 16 (2187 * k + u) = if fitK (F 14) (F 15) 0 k u = true then 1 else 0) (hQ : ∀ t, t < 2187 → LdM B (Q t) (F 18 (2187 * k + t)) (F 19 (2187 * k + t)))
    (h : ∀ F2, kF [18, 19] F F2 → (∀ i, (i < 2187 * k ∨ 2187 * k + 2187 ≤ i) → F2 18 i = F 18 i ∧ F2 19 i = F 19 i) → (∀ t, t < 2187 → LdM B (fun c => Q t c + fb_sm (fun o => ctr (F 14) (F 15) k s Gs t c o) 63) (F2 18 (2187 * k + t)) (F2 19 (2187 * k + t))) → post I F2 hs) : w_X9_layFrom x1 x2 x3 x4 I F hs post := by
  subst e1
  subst e2
  subst e3
  subst e4
  exact m_layFrom hM h1 hk hB hcs hG1 hG2 hf hQ h
theorem GP_lead_le {K T : Nat → Int32} {y : Int32} {b k s c : Nat} (hs : s < 2187) (h : GP K T y b k s c ≠ 0) : c ≤ 2 * k := Classical.byContradiction (fun q => h (Bd_GP K T y b k s hs c (by omega)))
theorem m_layCost {n b : Nat} {I : Nat → Int32} {F : Nat → Nat → Int32} {hs : Int64} {post : (Nat → Int32) → (Nat → Nat → Int32) → Int64 → Prop} (hM : mTab F) (hn : n ≤ 8) (hn0 : 0 < n) (h3 : I 3 = nI n) (h4 : I 4 = nI b) (hb : b < 2187) (hf : ∀ k u, k < n → u < 2187 → F 16 (2187 * k + u) = if fitK (F 14) (F 15) 0 k u = true then 1 else 0)
    (h : ∀ F2, kF [18, 19] F F2 → (∀ k t, k < n → t < 2187 → LdM 40 (GP (F 14) (F 15) 0 b (k + 1) t) (F2 18 (2187 * k + t)) (F2 19 (2187 * k + t))) → post I F2 hs) : w_X9_layCost I F hs post := by
  unfold w_X9_layCost
  generalize hKe : F 14 = K at *
  generalize hTe : F 15 = T at *
  refine gL_inv (fun i v => v.1 = nI i ∧ v.2.1 = I ∧ v.2.2.2 = hs ∧ kF [18, 19] F v.2.2.1 ∧ ∀ i', i' < i → v.2.2.1 18 i' = nI 99999 ∧ v.2.2.1 19 i' = nI 0) (2187 * n) ?_ ?_ ⟨rfl, rfl, rfl, fun _ _ => rfl, fun i' hi => absurd hi (by omega)⟩
  · rintro i hi ⟨x1, J, L, g⟩ ⟨h1, hJ, hg, hL, hP⟩ again hag
    dsimp only at h1 hJ hg hL hP ⊢
    subst h1
    subst hJ
    subst hg
    unfold w_X9_layCost_B2
    rw [h3, show (2187 : Int32) = nI 2187 by decide, pk_mul, nI_leI (by omega) (by omega), nI_clamp (by omega)]
    have hv : vp_in (nI i) 17496 := vp_in_nI (by omega) (by decide)
    refine ⟨fun q => absurd q (by omega), fun _ => ⟨hv, fun F13 e13 => ⟨hv, fun F14 e14 => hag _ ⟨nI_1 i, rfl, rfl, fun r hr => ?_, fun i' hi' => ?_⟩⟩⟩⟩
    · show F14 r = F r
      rw [e14, upF_n _ _ (fun q => hr (by rw [q]; decide)), e13, upF_n _ _ (fun q => hr (by rw [q]; decide))]
      exact hL r hr
    · show F14 18 i' = _ ∧ F14 19 i' = _
      rw [e14, upF_s, upF_n _ _ (by decide), e13, upF_s, upF_n _ _ (by decide)]
      by_cases e : i' = i
      · subst e
        rw [pk_us, pk_us]
        exact ⟨by decide, by decide⟩
      · rw [pk_un e, pk_un e]
        exact hP i' (by omega)
  · rintro ⟨x1, J, L, g⟩ ⟨h1, hJ, hg, hL, hP⟩ again
    dsimp only at h1 hJ hg hL hP ⊢
    subst h1
    subst hJ
    subst hg
    have e14 : L 14 = K := by rw [hL 14 (by decide)]; exact hKe
    have e15 : L 15 = T := by rw [hL 15 (by decide)]; exact hTe
    have e16 : L 16 = F 16 := hL 16 (by decide)
    unfold w_X9_layCost_B2
    refine ⟨fun _ => ?_, fun q => absurd (by rw [h3, show (2187 : Int32) = nI 2187 by decide, pk_mul]; exact Int32.le_refl _) q⟩
    have hG0 : GP K T 0 b 0 b 0 = 1 := if_pos ⟨rfl, rfl⟩
    refine m_layFromE (s := b) (k := 0) (cs := 0) (B := 40) (Gs := GP K T 0 b 0 b) (Q := fun _ _ => 0) h4 rfl rfl (by rw [hG0]; rfl) (mTab_of (fun k hk => hL k (by simp; omega)) hM) hb (by omega) (by omega) (by omega) (by rw [hG0]; decide) (fun c' hc' => absurd hc' (by omega)) (fun u hu => by rw [e16, e14, e15]; exact hf 0 u hn0 hu) (fun t ht => Or.inl ⟨fun _ => rfl, (hP _ (by omega)).1, (hP _ (by omega)).2⟩) (fun F2 a1 a2 a3 => ?_)
    rw [e14, e15] at a3
    have row0 : ∀ t, t < 2187 → LdM 40 (GP K T 0 b (0 + 1) t) (F2 18 (2187 * 0 + t)) (F2 19 (2187 * 0 + t)) := by
      intro t ht
      refine LdM_congr (fun c => ?_) (a3 t ht)
      have eS : fb_sm (fun s => fb_sm (fun o => ctr K T 0 s (GP K T 0 b 0 s) t c o) 63) 2187 = fb_sm (fun o => ctr K T 0 b (GP K T 0 b 0 b) t c o) 63 := by
        rw [fb_sm_cong (n := 2187) (g := fun s => if s = b then fb_sm (fun o => ctr K T 0 s (GP K T 0 b 0 s) t c o) 63 else 0), sm_delta (fun s => fb_sm (fun o => ctr K T 0 s (GP K T 0 b 0 s) t c o) 63), if_pos hb]
        intro s hs
        by_cases e : s = b
        · rw [if_pos e]
        · rw [if_neg e]
          exact ctr_0 K T 0 s (fun c => if_neg (fun q => e q.1)) t c
      rw [← ctr_GP K T b 0 ht c, Nat.zero_add, eS]
    refine gL_inv (fun j v => v.1 = nI (1 + j) ∧ v.2.1 = J ∧ v.2.2.2 = g ∧ kF [18, 19] F v.2.2.1 ∧ (∀ k t, k < 1 + j → t < 2187 → LdM 40 (GP K T 0 b (k + 1) t) (v.2.2.1 18 (2187 * k + t)) (v.2.2.1 19 (2187 * k + t))) ∧ ∀ i, 2187 * (1 + j) ≤ i → i < 2187 * n → v.2.2.1 18 i = nI 99999 ∧ v.2.2.1 19 i = nI 0) (n - 1) ?_ ?_ ⟨rfl, rfl, rfl, fun r hr => (a1 r hr).trans (hL r hr), fun k t hk ht => by rw [show k = 0 by omega]; exact row0 t ht, fun i hi hi2 => ⟨(a2 i (by omega)).1.trans (hP i hi2).1, (a2 i (by omega)).2.trans (hP i hi2).2⟩⟩
    · rintro j hj ⟨x1, J2, L2, g2⟩ ⟨h12, hJ2, hg2, hL2, hR2, hZ2⟩ again2 hag2
      dsimp only at h12 hJ2 hg2 hL2 hR2 hZ2 ⊢
      subst h12
      subst hJ2
      subst hg2
      unfold w_X9_layCost_B48
      refine ⟨fun q => absurd ((nI_leI (a := n) (b := 1 + j) (by omega) (by omega)).mp (by rw [h3] at q; exact q)) (by omega), fun _ => ?_⟩
      refine gL_inv (fun u v => v.1 = nI u ∧ v.2.1 = J2 ∧ v.2.2.2 = g2 ∧ kF [18, 19] F v.2.2.1 ∧ (∀ k t, k < 1 + j → t < 2187 → LdM 40 (GP K T 0 b (k + 1) t) (v.2.2.1 18 (2187 * k + t)) (v.2.2.1 19 (2187 * k + t))) ∧ (∀ i, 2187 * (1 + (j + 1)) ≤ i → i < 2187 * n → v.2.2.1 18 i = nI 99999 ∧ v.2.2.1 19 i = nI 0) ∧ ∀ t, t < 2187 → LdM 40 (fun c => fb_sm (fun s => fb_sm (fun o => ctr K T (1 + j) s (GP K T 0 b (1 + j) s) t c o) 63) u) (v.2.2.1 18 (2187 * (1 + j) + t)) (v.2.2.1 19 (2187 * (1 + j) + t))) 2187 ?_ ?_ ⟨rfl, rfl, rfl, hL2, hR2, fun i h1 h2 => hZ2 i (by omega) h2, fun t ht => Or.inl ⟨fun _ => rfl, (hZ2 _ (by omega) (by omega)).1, (hZ2 _ (by omega) (by omega)).2⟩⟩
      · rintro u hu ⟨x2, J3, L3, g3⟩ ⟨h23, hJ3, hg3, hL3, hR3, hZ3, hS3⟩ again3 hag3
        dsimp only at h23 hJ3 hg3 hL3 hR3 hZ3 hS3 ⊢
        subst h23
        subst hJ3
        subst hg3
        have f14 : L3 14 = K := by rw [hL3 14 (by decide)]; exact hKe
        have f15 : L3 15 = T := by rw [hL3 15 (by decide)]; exact hTe
        have f16 : L3 16 = F 16 := hL3 16 (by decide)
        unfold w_X9_layCost_B58
        refine ⟨fun q => absurd ((nI_leI (a := 2187) (by omega) (by omega)).mp q) (by omega), fun _ v2 ev2 => ?_⟩
        rw [show (1 : Int32) = nI 1 by decide, pk_sub (by omega), show (2187 : Int32) = nI 2187 by decide, ix2, show 1 + j - 1 = j by omega] at ev2
        subst ev2
        rw [nI_clamp (by omega)]
        have hv : vp_in (nI (2187 * j + u)) 17496 := vp_in_nI (by omega) (by decide)
        have hprev := hR3 j u (by omega) hu
        refine ⟨hv, fun q => ?_, fun q => ?_⟩
        · have hz := (LdM_far (by omega) hprev).mp q
          refine hag3 _ ⟨nI_1 u, rfl, rfl, hL3, hR3, hZ3, fun t ht => LdM_congr (fun c => ?_) (hS3 t ht)⟩
          rw [fb_sm_succ, ctr_0 K T (1 + j) u (by rw [show 1 + j = j + 1 by omega]; exact hz) t c]
          rfl
        · rcases hprev with ⟨-, p2, -⟩ | ⟨c, p1, p2, p3, p4, p5⟩
          · exact absurd (by rw [p2]; exact Int32.le_refl _) q
          · have hcb := GP_lead_le hu p2
            refine ⟨hv, hv, m_layFromE (s := u) (k := 1 + j) (cs := c) (B := 40) (Gs := GP K T 0 b (j + 1) u) (Q := fun t c => fb_sm (fun s => fb_sm (fun o => ctr K T (1 + j) s (GP K T 0 b (1 + j) s) t c o) 63) u) rfl rfl p4 p5 (mTab_of (fun k hk => hL3 k (by simp; omega)) hM) hu (by omega) (by omega) (by omega) p2 p3 (fun w hw => by rw [f16, f14, f15]; exact hf (1 + j) w (by omega) hw) hS3 (fun F4 b1 b2 b3 => ?_)⟩
            rw [f14, f15] at b3
            refine hag3 _ ⟨nI_1 u, rfl, rfl, fun r hr => ?_, fun k t hk ht => ?_, fun i h1 h2 => ?_, fun t ht => LdM_congr (fun c => ?_) (b3 t ht)⟩
            · show F4 r = F r
              rw [b1 r hr]
              exact hL3 r hr
            · show LdM 40 _ (F4 18 _) (F4 19 _)
              rw [(b2 (2187 * k + t) (by omega)).1, (b2 (2187 * k + t) (by omega)).2]
              exact hR3 k t hk ht
            · show F4 18 i = _ ∧ F4 19 i = _
              rw [(b2 i (by omega)).1, (b2 i (by omega)).2]
              exact hZ3 i h1 h2
            · rw [show j + 1 = 1 + j by omega]
              rfl
      · rintro ⟨x2, J3, L3, g3⟩ ⟨h23, hJ3, hg3, hL3, hR3, hZ3, hS3⟩ again3
        dsimp only at h23 hJ3 hg3 hL3 hR3 hZ3 hS3 ⊢
        subst h23
        subst hJ3
        subst hg3
        unfold w_X9_layCost_B58
        refine ⟨fun _ => hag2 _ ⟨nI_1 _, rfl, rfl, hL3, fun k t hk ht => ?_, hZ3⟩, fun q => absurd (by decide) q⟩
        by_cases e : k = 1 + j
        · subst e
          refine LdM_congr (fun c => ?_) (hS3 t ht)
          exact ctr_GP K T b (1 + j) ht c
        · exact hR3 k t (by omega) ht
    · rintro ⟨x1, J2, L2, g2⟩ ⟨h12, hJ2, hg2, hL2, hR2, hZ2⟩ again2
      dsimp only at h12 hJ2 hg2 hL2 hR2 hZ2 ⊢
      subst h12
      subst hJ2
      subst hg2
      unfold w_X9_layCost_B48
      refine ⟨fun _ => h L2 hL2 (fun k t hk ht => hR2 k t (by omega) ht), fun q => absurd (by rw [h3, show 1 + (n - 1) = n by omega]; exact Int32.le_refl _) q⟩
