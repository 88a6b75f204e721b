/-! the class's digest, whole -/
noncomputable def dgV (K T A B G : Nat → Int32) (n b t w g p s : Nat) : Int64 := dgT n b t w g p s (dgG G (if n = 0 then dgK K T A B n b w n else dgP K T n b (dgK K T A B n b w n) 3) g) 7
theorem nI_le0 {n : Nat} (h : n < 2 ^ 31) : nI n ≤ (0 : Int32) ↔ n = 0 := by
  rw [show (0 : Int32) = nI 0 by decide, nI_leI h (by omega)]
  omega
theorem s_digest {n b t w g p s : Nat} {I : Nat → Int32} {F : Nat → Nat → Int32} {post : Int64 → (Nat → Int32) → (Nat → Nat → Int32) → Prop} (hn : n ≤ 8) (hb : b < 2187) (hw : w ≤ 6) (hg : g ≤ 56) (c8 : I 8 = nI n) (c7 : I 7 = nI b) (c11 : I 11 = nI w) (c2 : I 2 = nI g) (c0 : I 0 = nI p) (c1 : I 1 = nI s) (hT : ∀ s, s < 2187 → F 25 s = hasR s 7) (htn : ∀ k, k < n → ∃ t, t < 4096 ∧ F 18 k = nI t) (hcF : cacheF n b I F) (hcB : cacheB n b I F) (ht : t < 4096) (et : orN (F 18) n = nI t)
    (h : ∀ I2 F2, CK n b I F I2 F2 → post (dgV (F 17) (F 18) (F 21) (F 22) (F 14) n b t w g p s) I2 F2) : w_X8_digest I F post := by
  unfold w_X8_digest
  have fin : ∀ x J L, CK n b I F J L → x = (if n = 0 then dgK (F 17) (F 18) (F 21) (F 22) n b w n else dgP (F 17) (F 18) n b (dgK (F 17) (F 18) (F 21) (F 22) n b w n) 3) → w_X8_digest_J130 x J L post := by
    intro x J L hC hx
    have hh := h J L hC
    unfold dgV at hh
    rw [← hx] at hh
    refine s_dgJ hn hg hb (by rw [hC.1 8 (by decide)]; exact c8) (by rw [hC.1 7 (by decide)]; exact c7) (by rw [hC.1 11 (by decide)]; exact c11) (by rw [hC.1 2 (by decide)]; exact c2) (by rw [hC.1 0 (by decide)]; exact c0) (by rw [hC.1 1 (by decide)]; exact c1) ht (by rw [hC.2.1 18 (by decide)]; exact et) ?_
    rw [hC.2.1 14 (by decide)]
    exact hh
  refine s_dgK hn hb hw c8 c7 c11 hT htn hcF hcB (fun y J L hC => ?_)
  have d8 : J 8 = nI n := by rw [hC.1 8 (by decide)]; exact c8
  rw [d8, nI_le0 (by omega)]
  refine ⟨fun q => fin _ J L hC (if_pos q).symm, fun q => ?_⟩
  have hn0 : 0 < n := by omega
  refine gL_inv (fun j v => v.2.1 = nI j ∧ CK n b I F v.2.2.1 v.2.2.2 ∧ v.1 = dgP (F 17) (F 18) n b (dgK (F 17) (F 18) (F 21) (F 22) n b w n) j) 3 ?_ ?_ ⟨rfl, hC, rfl⟩
  · rintro j hj ⟨x1, x2, J, L⟩ ⟨g2, gC, g1⟩ again hag
    dsimp only at g1 g2 gC ⊢
    subst g1
    subst g2
    unfold w_X8_digest_B106
    refine ⟨fun q => absurd ((nI_leI (a := 3) (by omega) (by omega)).mp q) (by omega), fun _ => s_planV hn hn0 hj hb (by rw [gC.1 8 (by decide)]; exact c8) (by rw [gC.1 7 (by decide)]; exact c7) (by rw [gC.2.1 25 (by decide)]; exact hT) gC.2.2.1 (fun I2 F2 a1 a2 a3 v14 e14 => hag _ ⟨nI_1 j, CK_plan gC a1 a2 a3, ?_⟩)⟩
    show v14 = (31 : Int64) * dgP (F 17) (F 18) n b (dgK (F 17) (F 18) (F 21) (F 22) n b w n) j + (plV (F 17) (F 18) n b j).toInt64
    rw [e14, gC.2.1 17 (by decide), gC.2.1 18 (by decide)]
  · rintro ⟨x1, x2, J, L⟩ ⟨g2, gC, g1⟩ again
    dsimp only at g1 g2 gC ⊢
    subst g1
    subst g2
    unfold w_X8_digest_B106
    exact ⟨fun _ => fin _ J L gC (if_neg q).symm, fun q => absurd (by decide) q⟩
