/-! joint: image, restore, shift -/
theorem m_copy_14_23 {I : Nat → Int32} {F : Nat → Nat → Int32} {hs : Int64} {post : (Nat → Int32) → (Nat → Nat → Int32) → Int64 → Prop} (hp : ∀ F2, (∀ r, r ≠ 23 → F2 r = F r) → (∀ x, x < 8 → F2 23 x = F 14 x) → post I F2 hs) : w_X9_copy_14_23 I F hs post := by
  unfold w_X9_copy_14_23
  refine gL_inv (fun j v => v.1 = nI j ∧ v.2.1 = I ∧ v.2.2.2 = hs ∧ (∀ r, r ≠ 23 → v.2.2.1 r = F r) ∧ ∀ x, x < j → v.2.2.1 23 x = F 14 x) 8 ?_ ?_ ⟨rfl, rfl, rfl, fun _ _ => rfl, fun x hx => absurd hx (by omega)⟩
  · rintro j hj ⟨x1, J, L, hz⟩ ⟨g1, g2, gz, g3, g4⟩ again hag
    dsimp only at g1 g2 gz g3 g4 ⊢
    subst g1
    subst g2
    subst gz
    unfold w_X9_copy_14_23_B2
    have hv : vp_in (nI j) 8 := vp_in_nI (by omega) (by decide)
    refine ⟨fun q => absurd ((nI_leI (a := 8) (by omega) (by omega)).mp q) (by omega), fun _ => ⟨hv, hv, fun F2 e2 => hag _ ⟨nI_1 j, rfl, rfl, fun r hr => ?_, fun x hx => ?_⟩⟩⟩
    · show F2 r = F r
      rw [e2, upF_n _ _ hr]
      exact g3 r hr
    · show F2 23 x = F 14 x
      rw [e2, upF_s, nI_clamp (by omega)]
      by_cases e : x = j
      · subst e
        rw [pk_us, g3 14 (by decide)]
      · rw [pk_un e]
        exact g4 x (by omega)
  · rintro ⟨x1, J, L, hz⟩ ⟨g1, g2, gz, g3, g4⟩ again
    dsimp only at g1 g2 gz g3 g4 ⊢
    subst g1
    subst g2
    subst gz
    unfold w_X9_copy_14_23_B2
    exact ⟨fun _ => hp L g3 g4, fun q => absurd (by decide) q⟩
theorem m_copy_15_24 {I : Nat → Int32} {F : Nat → Nat → Int32} {hs : Int64} {post : (Nat → Int32) → (Nat → Nat → Int32) → Int64 → Prop} (hp : ∀ F2, (∀ r, r ≠ 24 → F2 r = F r) → (∀ x, x < 8 → F2 24 x = F 15 x) → post I F2 hs) : w_X9_copy_15_24 I F hs post := by
  unfold w_X9_copy_15_24
  refine gL_inv (fun j v => v.1 = nI j ∧ v.2.1 = I ∧ v.2.2.2 = hs ∧ (∀ r, r ≠ 24 → v.2.2.1 r = F r) ∧ ∀ x, x < j → v.2.2.1 24 x = F 15 x) 8 ?_ ?_ ⟨rfl, rfl, rfl, fun _ _ => rfl, fun x hx => absurd hx (by omega)⟩
  · rintro j hj ⟨x1, J, L, hz⟩ ⟨g1, g2, gz, g3, g4⟩ again hag
    dsimp only at g1 g2 gz g3 g4 ⊢
    subst g1
    subst g2
    subst gz
    unfold w_X9_copy_15_24_B2
    have hv : vp_in (nI j) 8 := vp_in_nI (by omega) (by decide)
    refine ⟨fun q => absurd ((nI_leI (a := 8) (by omega) (by omega)).mp q) (by omega), fun _ => ⟨hv, hv, fun F2 e2 => hag _ ⟨nI_1 j, rfl, rfl, fun r hr => ?_, fun x hx => ?_⟩⟩⟩
    · show F2 r = F r
      rw [e2, upF_n _ _ hr]
      exact g3 r hr
    · show F2 24 x = F 15 x
      rw [e2, upF_s, nI_clamp (by omega)]
      by_cases e : x = j
      · subst e
        rw [pk_us, g3 15 (by decide)]
      · rw [pk_un e]
        exact g4 x (by omega)
  · rintro ⟨x1, J, L, hz⟩ ⟨g1, g2, gz, g3, g4⟩ again
    dsimp only at g1 g2 gz g3 g4 ⊢
    subst g1
    subst g2
    subst gz
    unfold w_X9_copy_15_24_B2
    exact ⟨fun _ => hp L g3 g4, fun q => absurd (by decide) q⟩
theorem m_copy_22_25 {I : Nat → Int32} {F : Nat → Nat → Int32} {hs : Int64} {post : (Nat → Int32) → (Nat → Nat → Int32) → Int64 → Prop} (hp : ∀ F2, (∀ r, r ≠ 25 → F2 r = F r) → (∀ x, x < 18 → F2 25 x = F 22 x) → post I F2 hs) : w_X9_copy_22_25 I F hs post := by
  unfold w_X9_copy_22_25
  refine gL_inv (fun j v => v.1 = nI j ∧ v.2.1 = I ∧ v.2.2.2 = hs ∧ (∀ r, r ≠ 25 → v.2.2.1 r = F r) ∧ ∀ x, x < j → v.2.2.1 25 x = F 22 x) 18 ?_ ?_ ⟨rfl, rfl, rfl, fun _ _ => rfl, fun x hx => absurd hx (by omega)⟩
  · rintro j hj ⟨x1, J, L, hz⟩ ⟨g1, g2, gz, g3, g4⟩ again hag
    dsimp only at g1 g2 gz g3 g4 ⊢
    subst g1
    subst g2
    subst gz
    unfold w_X9_copy_22_25_B2
    have hv : vp_in (nI j) 18 := vp_in_nI (by omega) (by decide)
    refine ⟨fun q => absurd ((nI_leI (a := 18) (by omega) (by omega)).mp q) (by omega), fun _ => ⟨hv, hv, fun F2 e2 => hag _ ⟨nI_1 j, rfl, rfl, fun r hr => ?_, fun x hx => ?_⟩⟩⟩
    · show F2 r = F r
      rw [e2, upF_n _ _ hr]
      exact g3 r hr
    · show F2 25 x = F 22 x
      rw [e2, upF_s, nI_clamp (by omega)]
      by_cases e : x = j
      · subst e
        rw [pk_us, g3 22 (by decide)]
      · rw [pk_un e]
        exact g4 x (by omega)
  · rintro ⟨x1, J, L, hz⟩ ⟨g1, g2, gz, g3, g4⟩ again
    dsimp only at g1 g2 gz g3 g4 ⊢
    subst g1
    subst g2
    subst gz
    unfold w_X9_copy_22_25_B2
    exact ⟨fun _ => hp L g3 g4, fun q => absurd (by decide) q⟩
theorem m_copy_23_14 {I : Nat → Int32} {F : Nat → Nat → Int32} {hs : Int64} {post : (Nat → Int32) → (Nat → Nat → Int32) → Int64 → Prop} (hp : ∀ F2, (∀ r, r ≠ 14 → F2 r = F r) → (∀ x, x < 8 → F2 14 x = F 23 x) → post I F2 hs) : w_X9_copy_23_14 I F hs post := by
  unfold w_X9_copy_23_14
  refine gL_inv (fun j v => v.1 = nI j ∧ v.2.1 = I ∧ v.2.2.2 = hs ∧ (∀ r, r ≠ 14 → v.2.2.1 r = F r) ∧ ∀ x, x < j → v.2.2.1 14 x = F 23 x) 8 ?_ ?_ ⟨rfl, rfl, rfl, fun _ _ => rfl, fun x hx => absurd hx (by omega)⟩
  · rintro j hj ⟨x1, J, L, hz⟩ ⟨g1, g2, gz, g3, g4⟩ again hag
    dsimp only at g1 g2 gz g3 g4 ⊢
    subst g1
    subst g2
    subst gz
    unfold w_X9_copy_23_14_B2
    have hv : vp_in (nI j) 8 := vp_in_nI (by omega) (by decide)
    refine ⟨fun q => absurd ((nI_leI (a := 8) (by omega) (by omega)).mp q) (by omega), fun _ => ⟨hv, hv, fun F2 e2 => hag _ ⟨nI_1 j, rfl, rfl, fun r hr => ?_, fun x hx => ?_⟩⟩⟩
    · show F2 r = F r
      rw [e2, upF_n _ _ hr]
      exact g3 r hr
    · show F2 14 x = F 23 x
      rw [e2, upF_s, nI_clamp (by omega)]
      by_cases e : x = j
      · subst e
        rw [pk_us, g3 23 (by decide)]
      · rw [pk_un e]
        exact g4 x (by omega)
  · rintro ⟨x1, J, L, hz⟩ ⟨g1, g2, gz, g3, g4⟩ again
    dsimp only at g1 g2 gz g3 g4 ⊢
    subst g1
    subst g2
    subst gz
    unfold w_X9_copy_23_14_B2
    exact ⟨fun _ => hp L g3 g4, fun q => absurd (by decide) q⟩
theorem m_copy_24_15 {I : Nat → Int32} {F : Nat → Nat → Int32} {hs : Int64} {post : (Nat → Int32) → (Nat → Nat → Int32) → Int64 → Prop} (hp : ∀ F2, (∀ r, r ≠ 15 → F2 r = F r) → (∀ x, x < 8 → F2 15 x = F 24 x) → post I F2 hs) : w_X9_copy_24_15 I F hs post := by
  unfold w_X9_copy_24_15
  refine gL_inv (fun j v => v.1 = nI j ∧ v.2.1 = I ∧ v.2.2.2 = hs ∧ (∀ r, r ≠ 15 → v.2.2.1 r = F r) ∧ ∀ x, x < j → v.2.2.1 15 x = F 24 x) 8 ?_ ?_ ⟨rfl, rfl, rfl, fun _ _ => rfl, fun x hx => absurd hx (by omega)⟩
  · rintro j hj ⟨x1, J, L, hz⟩ ⟨g1, g2, gz, g3, g4⟩ again hag
    dsimp only at g1 g2 gz g3 g4 ⊢
    subst g1
    subst g2
    subst gz
    unfold w_X9_copy_24_15_B2
    have hv : vp_in (nI j) 8 := vp_in_nI (by omega) (by decide)
    refine ⟨fun q => absurd ((nI_leI (a := 8) (by omega) (by omega)).mp q) (by omega), fun _ => ⟨hv, hv, fun F2 e2 => hag _ ⟨nI_1 j, rfl, rfl, fun r hr => ?_, fun x hx => ?_⟩⟩⟩
    · show F2 r = F r
      rw [e2, upF_n _ _ hr]
      exact g3 r hr
    · show F2 15 x = F 24 x
      rw [e2, upF_s, nI_clamp (by omega)]
      by_cases e : x = j
      · subst e
        rw [pk_us, g3 24 (by decide)]
      · rw [pk_un e]
        exact g4 x (by omega)
  · rintro ⟨x1, J, L, hz⟩ ⟨g1, g2, gz, g3, g4⟩ again
    dsimp only at g1 g2 gz g3 g4 ⊢
    subst g1
    subst g2
    subst gz
    unfold w_X9_copy_24_15_B2
    exact ⟨fun _ => hp L g3 g4, fun q => absurd (by decide) q⟩
theorem m_copy_25_22 {I : Nat → Int32} {F : Nat → Nat → Int32} {hs : Int64} {post : (Nat → Int32) → (Nat → Nat → Int32) → Int64 → Prop} (hp : ∀ F2, (∀ r, r ≠ 22 → F2 r = F r) → (∀ x, x < 18 → F2 22 x = F 25 x) → post I F2 hs) : w_X9_copy_25_22 I F hs post := by
  unfold w_X9_copy_25_22
  refine gL_inv (fun j v => v.1 = nI j ∧ v.2.1 = I ∧ v.2.2.2 = hs ∧ (∀ r, r ≠ 22 → v.2.2.1 r = F r) ∧ ∀ x, x < j → v.2.2.1 22 x = F 25 x) 18 ?_ ?_ ⟨rfl, rfl, rfl, fun _ _ => rfl, fun x hx => absurd hx (by omega)⟩
  · rintro j hj ⟨x1, J, L, hz⟩ ⟨g1, g2, gz, g3, g4⟩ again hag
    dsimp only at g1 g2 gz g3 g4 ⊢
    subst g1
    subst g2
    subst gz
    unfold w_X9_copy_25_22_B2
    have hv : vp_in (nI j) 18 := vp_in_nI (by omega) (by decide)
    refine ⟨fun q => absurd ((nI_leI (a := 18) (by omega) (by omega)).mp q) (by omega), fun _ => ⟨hv, hv, fun F2 e2 => hag _ ⟨nI_1 j, rfl, rfl, fun r hr => ?_, fun x hx => ?_⟩⟩⟩
    · show F2 r = F r
      rw [e2, upF_n _ _ hr]
      exact g3 r hr
    · show F2 22 x = F 25 x
      rw [e2, upF_s, nI_clamp (by omega)]
      by_cases e : x = j
      · subst e
        rw [pk_us, g3 25 (by decide)]
      · rw [pk_un e]
        exact g4 x (by omega)
  · rintro ⟨x1, J, L, hz⟩ ⟨g1, g2, gz, g3, g4⟩ again
    dsimp only at g1 g2 gz g3 g4 ⊢
    subst g1
    subst g2
    subst gz
    unfold w_X9_copy_25_22_B2
    exact ⟨fun _ => hp L g3 g4, fun q => absurd (by decide) q⟩
theorem m_copy_12_14 {I : Nat → Int32} {F : Nat → Nat → Int32} {hs : Int64} {post : (Nat → Int32) → (Nat → Nat → Int32) → Int64 → Prop} (hp : ∀ F2, (∀ r, r ≠ 14 → F2 r = F r) → (∀ x, x < 8 → F2 14 x = F 12 x) → post I F2 hs) : w_X9_copy_12_14 I F hs post := by
  unfold w_X9_copy_12_14
  refine gL_inv (fun j v => v.1 = nI j ∧ v.2.1 = I ∧ v.2.2.2 = hs ∧ (∀ r, r ≠ 14 → v.2.2.1 r = F r) ∧ ∀ x, x < j → v.2.2.1 14 x = F 12 x) 8 ?_ ?_ ⟨rfl, rfl, rfl, fun _ _ => rfl, fun x hx => absurd hx (by omega)⟩
  · rintro j hj ⟨x1, J, L, hz⟩ ⟨g1, g2, gz, g3, g4⟩ again hag
    dsimp only at g1 g2 gz g3 g4 ⊢
    subst g1
    subst g2
    subst gz
    unfold w_X9_copy_12_14_B2
    have hv : vp_in (nI j) 8 := vp_in_nI (by omega) (by decide)
    refine ⟨fun q => absurd ((nI_leI (a := 8) (by omega) (by omega)).mp q) (by omega), fun _ => ⟨hv, hv, fun F2 e2 => hag _ ⟨nI_1 j, rfl, rfl, fun r hr => ?_, fun x hx => ?_⟩⟩⟩
    · show F2 r = F r
      rw [e2, upF_n _ _ hr]
      exact g3 r hr
    · show F2 14 x = F 12 x
      rw [e2, upF_s, nI_clamp (by omega)]
      by_cases e : x = j
      · subst e
        rw [pk_us, g3 12 (by decide)]
      · rw [pk_un e]
        exact g4 x (by omega)
  · rintro ⟨x1, J, L, hz⟩ ⟨g1, g2, gz, g3, g4⟩ again
    dsimp only at g1 g2 gz g3 g4 ⊢
    subst g1
    subst g2
    subst gz
    unfold w_X9_copy_12_14_B2
    exact ⟨fun _ => hp L g3 g4, fun q => absurd (by decide) q⟩
theorem m_copy_13_15 {I : Nat → Int32} {F : Nat → Nat → Int32} {hs : Int64} {post : (Nat → Int32) → (Nat → Nat → Int32) → Int64 → Prop} (hp : ∀ F2, (∀ r, r ≠ 15 → F2 r = F r) → (∀ x, x < 8 → F2 15 x = F 13 x) → post I F2 hs) : w_X9_copy_13_15 I F hs post := by
  unfold w_X9_copy_13_15
  refine gL_inv (fun j v => v.1 = nI j ∧ v.2.1 = I ∧ v.2.2.2 = hs ∧ (∀ r, r ≠ 15 → v.2.2.1 r = F r) ∧ ∀ x, x < j → v.2.2.1 15 x = F 13 x) 8 ?_ ?_ ⟨rfl, rfl, rfl, fun _ _ => rfl, fun x hx => absurd hx (by omega)⟩
  · rintro j hj ⟨x1, J, L, hz⟩ ⟨g1, g2, gz, g3, g4⟩ again hag
    dsimp only at g1 g2 gz g3 g4 ⊢
    subst g1
    subst g2
    subst gz
    unfold w_X9_copy_13_15_B2
    have hv : vp_in (nI j) 8 := vp_in_nI (by omega) (by decide)
    refine ⟨fun q => absurd ((nI_leI (a := 8) (by omega) (by omega)).mp q) (by omega), fun _ => ⟨hv, hv, fun F2 e2 => hag _ ⟨nI_1 j, rfl, rfl, fun r hr => ?_, fun x hx => ?_⟩⟩⟩
    · show F2 r = F r
      rw [e2, upF_n _ _ hr]
      exact g3 r hr
    · show F2 15 x = F 13 x
      rw [e2, upF_s, nI_clamp (by omega)]
      by_cases e : x = j
      · subst e
        rw [pk_us, g3 13 (by decide)]
      · rw [pk_un e]
        exact g4 x (by omega)
  · rintro ⟨x1, J, L, hz⟩ ⟨g1, g2, gz, g3, g4⟩ again
    dsimp only at g1 g2 gz g3 g4 ⊢
    subst g1
    subst g2
    subst gz
    unfold w_X9_copy_13_15_B2
    exact ⟨fun _ => hp L g3 g4, fun q => absurd (by decide) q⟩
theorem PR_of {n : Nat} {A B C D A2 B2 C2 D2 : Nat → Int32} (hA : ∀ k, k < n → A2 k = A k) (hB : ∀ k, k < n → B2 k = B k) (hC : ∀ k, k < n → C2 k = C k) (hD : ∀ k, k < n → D2 k = D k) (h : PR n A B C D) : PR n A2 B2 C2 D2 := by
  intro k hk
  rw [hA k hk, hB k hk, hC k hk, hD k hk]
  exact h k hk
theorem SR_of {w : Nat} {A B C A2 B2 C2 : Nat → Int32} (hw : w ≤ 6) (hA : ∀ k, k < 6 → A2 k = A k) (hB : ∀ k, k < 6 → B2 k = B k) (hC : ∀ k, k < 18 → C2 k = C k) (h : SR w A B C) : SR w A2 B2 C2 := by
  intro j hj
  rw [hA j (by omega), hB j (by omega), hC (3 * j) (by omega), hC (3 * j + 1) (by omega), hC (3 * j + 2) (by omega)]
  exact h j hj
theorem cpy0 {f g : Nat → Int32} {n k : Nat} (h : k < n) : va_cpy f g 0 0 n k = f k := by
  unfold va_cpy
  rw [if_pos ⟨Nat.zero_le _, by omega⟩]
  exact congrArg f (by omega)
theorem j_image {i : Nat} {Ic Im : Nat → Int32} {Fc Fm : Nat → Nat → Int32} {hm : Int64} (h : RR i Ic Fc Im Fm) : w_X8_image Ic Fc (fun r Ic2 Fc2 => w_X9_image Im Fm hm (fun r2 Im2 Fm2 hm2 => r = r2 ∧ hm2 = hm ∧ RR i Ic2 Fc2 Im2 Fm2)) := by
  have h0 := h
  obtain ⟨n, b, g, w, p, s, hB, hC⟩ := h
  obtain ⟨hn, hb, hg, hw, hp, hs, ⟨c8, m3, c7, m4, hPR⟩, hPg, ⟨c11, m11, hSR⟩, ⟨c0, m5, c1, m10⟩, hKp, hT⟩ := id hB
  unfold w_X8_image w_X9_image
  rw [c8, nI_is0 (by omega)]
  refine ⟨fun hn0 => ?_, fun hn0 => m_lacks0 m3 hn (fun z => absurd hn0 (by omega)) (fun _ => ⟨fun q => absurd q (by decide), fun _ => ⟨rfl, rfl, h0⟩⟩)⟩
  have hn1 : 0 < n := by omega
  unfold w_X2_become_5_4 w_X6_become_7_6
  intro I1 e1 I2 e2 F3 e3 F4 e4 I5 e5 F6 e6 F7 e7
  refine m_lacks0 m3 hn (fun _ => ⟨fun _ => ?_, fun q => absurd rfl q⟩) (fun z => absurd hn1 (by omega))
  refine m_copy_14_23 (fun G1 a1 a2 => m_copy_15_24 (fun G2 b1 b2 => m_copy_22_25 (fun G3 d1 d2 J12 t12 J13 t13 J14 t14 J15 t15 => ?_)))
  have k1 : ∀ j, j ≠ 9 → j ≠ 10 → j ≠ 12 → I5 j = Ic j := fun j h1 h2 h3 => by rw [e5, pk_un h3, e2, pk_un h2, e1, pk_un h1]
  have k2 : ∀ j, j ≠ 14 → j ≠ 15 → j ≠ 16 → j ≠ 17 → J15 j = Im j := fun j h1 h2 h3 h4 => by rw [t15, pk_un h1, t14, pk_un h4, t13, pk_un h3, t12, pk_un h2]
  have f1 : ∀ r, r ≠ 19 → r ≠ 20 → r ≠ 23 → r ≠ 24 → F7 r = Fc r := fun r h1 h2 h3 h4 => by rw [e7, upF_n _ _ h4, e6, upF_n _ _ h3, e4, upF_n _ _ h2, e3, upF_n _ _ h1]
  have f2 : ∀ r, r ≠ 23 → r ≠ 24 → r ≠ 25 → G3 r = Fm r := fun r h1 h2 h3 => by rw [d1 r h3, b1 r h2, a1 r h1]
  refine ⟨by rw [k1 8 (by decide) (by decide) (by decide), k2 3 (by decide) (by decide) (by decide) (by decide), c8, m3], rfl, n, b, g, w, p, s, ⟨hn, hb, hg, hw, hp, hs, ?_, ?_, ?_, ?_, ?_, ?_⟩, ?_⟩
  · unfold RPart
    rw [k1 8 (by decide) (by decide) (by decide), k1 7 (by decide) (by decide) (by decide), k2 3 (by decide) (by decide) (by decide) (by decide), k2 4 (by decide) (by decide) (by decide) (by decide), f1 17 (by decide) (by decide) (by decide) (by decide), f1 18 (by decide) (by decide) (by decide) (by decide), f2 14 (by decide) (by decide) (by decide), f2 15 (by decide) (by decide) (by decide)]
    exact ⟨c8, m3, c7, m4, hPR⟩
  · unfold RPage
    rw [k1 2 (by decide) (by decide) (by decide), k2 0 (by decide) (by decide) (by decide) (by decide), f1 14 (by decide) (by decide) (by decide) (by decide), f2 11 (by decide) (by decide) (by decide)]
    exact hPg
  · unfold RSeen
    rw [k1 11 (by decide) (by decide) (by decide), k2 11 (by decide) (by decide) (by decide) (by decide), f1 21 (by decide) (by decide) (by decide) (by decide), f1 22 (by decide) (by decide) (by decide) (by decide), f2 22 (by decide) (by decide) (by decide)]
    exact ⟨c11, m11, hSR⟩
  · unfold RCnt
    rw [k1 0 (by decide) (by decide) (by decide), k1 1 (by decide) (by decide) (by decide), k2 5 (by decide) (by decide) (by decide) (by decide), k2 10 (by decide) (by decide) (by decide) (by decide)]
    exact ⟨c0, m5, c1, m10⟩
  · have v14 : J15 14 = nI p := by rw [t15, pk_us, t14, pk_un (by decide), t13, pk_un (by decide), t12, pk_un (by decide)]; exact m5
    refine ⟨Or.inr ⟨p, Nat.le_refl _, v14⟩, Or.inr ⟨by rw [v14, k2 5 (by decide) (by decide) (by decide) (by decide)]; exact m5.symm, n, b, w, hn1, hn, hb, hw, ?_, ?_, ?_, ?_, ?_, ?_, ?_, ?_⟩⟩
    · rw [e5, pk_un (by decide), e2, pk_us, e1, pk_un (by decide)]; exact c8
    · rw [t15, pk_un (by decide), t14, pk_un (by decide), t13, pk_un (by decide), t12, pk_us]; exact m3
    · rw [e5, pk_un (by decide), e2, pk_un (by decide), e1, pk_us]; exact c7
    · rw [t15, pk_un (by decide), t14, pk_un (by decide), t13, pk_us, t12, pk_un (by decide)]; exact m4
    · rw [e5, pk_us, e2, pk_un (by decide), e1, pk_un (by decide)]; exact c11
    · rw [t15, pk_un (by decide), t14, pk_us, t13, pk_un (by decide), t12, pk_un (by decide)]; exact m11
    · refine PR_of (fun k hk => ?_) (fun k hk => ?_) (fun k hk => ?_) (fun k hk => ?_) hPR
      · rw [e7, upF_n _ _ (by decide), e6, upF_n _ _ (by decide), e4, upF_n _ _ (by decide), e3, upF_s]
        exact cpy0 (by show k < 8; omega)
      · rw [e7, upF_n _ _ (by decide), e6, upF_n _ _ (by decide), e4, upF_s, e3, upF_n _ _ (by decide)]
        exact cpy0 (by show k < 8; omega)
      · rw [d1 23 (by decide), b1 23 (by decide)]
        exact a2 k (by omega)
      · rw [d1 24 (by decide), b2 k (by omega), a1 15 (by decide)]
    · refine SR_of hw (fun k hk => ?_) (fun k hk => ?_) (fun k hk => ?_) hSR
      · rw [e7, upF_n _ _ (by decide), e6, upF_s, e4, upF_n _ _ (by decide), e3, upF_n _ _ (by decide)]
        exact cpy0 hk
      · rw [e7, upF_s, e6, upF_n _ _ (by decide), e4, upF_n _ _ (by decide), e3, upF_n _ _ (by decide)]
        exact cpy0 hk
      · rw [d2 k hk, b1 22 (by decide), a1 22 (by decide)]
  · unfold RTab mTab
    rw [f1 25 (by decide) (by decide) (by decide) (by decide), f2 1 (by decide) (by decide) (by decide), f2 2 (by decide) (by decide) (by decide), f2 3 (by decide) (by decide) (by decide), f2 8 (by decide) (by decide) (by decide), f2 9 (by decide) (by decide) (by decide), f2 10 (by decide) (by decide) (by decide)]
    exact hT
  · exact ⟨cacheF_keep (fun j hj => k1 j (fun z => by subst z; exact absurd hj (by decide)) (fun z => by subst z; exact absurd hj (by decide)) (fun z => by subst z; exact absurd hj (by decide))) (fun j hj => f1 j (fun z => by subst z; exact absurd hj (by decide)) (fun z => by subst z; exact absurd hj (by decide)) (fun z => by subst z; exact absurd hj (by decide)) (fun z => by subst z; exact absurd hj (by decide))) hC.1, cacheB_keep (fun j hj => k1 j (fun z => by subst z; exact absurd hj (by decide)) (fun z => by subst z; exact absurd hj (by decide)) (fun z => by subst z; exact absurd hj (by decide))) (fun j hj => f1 j (fun z => by subst z; exact absurd hj (by decide)) (fun z => by subst z; exact absurd hj (by decide)) (fun z => by subst z; exact absurd hj (by decide)) (fun z => by subst z; exact absurd hj (by decide))) hC.2.1, fun hn => cacheM_keep (fun j hj => k2 j (fun z => by subst z; exact absurd hj (by decide)) (fun z => by subst z; exact absurd hj (by decide)) (fun z => by subst z; exact absurd hj (by decide)) (fun z => by subst z; exact absurd hj (by decide))) (fun j hj => f2 j (fun z => by subst z; exact absurd hj (by decide)) (fun z => by subst z; exact absurd hj (by decide)) (fun z => by subst z; exact absurd hj (by decide))) (hC.2.2 hn)⟩
