/-! the reference's digest, whole; joint: digest -/
theorem m_planV {n b f : Nat} {I : Nat → Int32} {F : Nat → Nat → Int32} {hs : Int64} {post : Int32 → (Nat → Int32) → (Nat → Nat → Int32) → Int64 → Prop} (hM : mTab F) (hn : n ≤ 8) (hn0 : 0 < n) (hf : f < 3) (h3 : I 3 = nI n) (h4 : I 4 = nI b) (hb : b < 2187) (hc : cacheM n b I F)
    (h : ∀ I2 F2, kI [6, 7, 8, 9] I I2 → kF [16, 17, 18, 19, 20, 21] F F2 → cacheM n b I2 F2 → post (plV (F 14) (F 15) n b f) I2 F2 hs) : w_X9_planOf (nI f) I F hs post := by
  rcases (show f = 0 ∨ f = 1 ∨ f = 2 by omega) with rfl | rfl | rfl
  · exact m_plan0 hM hn hn0 h3 h4 hb hc (fun I2 F2 a1 a2 a3 => by rw [← plV_0]; exact h I2 F2 a1 a2 a3)
  · exact m_plan1 hM hn hn0 h3 h4 hb hc (fun I2 F2 a1 a2 a3 => by rw [← plV_1]; exact h I2 F2 a1 a2 a3)
  · exact m_plan2 hM hn hn0 h3 h4 hb hc (fun I2 F2 a1 a2 a3 => by rw [← plV_2]; exact h I2 F2 a1 a2 a3) (by decide) (by decide)
theorem m_dgJ {n b t w g p s : Nat} {x : Int64} {I : Nat → Int32} {F : Nat → Nat → Int32} {post : Int64 → (Nat → Int32) → (Nat → Nat → Int32) → Int64 → Prop} (hM : mTab F) (hn : n ≤ 8) (hg : g ≤ 56) (hb : b < 2187) (m3 : I 3 = nI n) (m4 : I 4 = nI b) (m11 : I 11 = nI w) (m0 : I 0 = nI g) (m5 : I 5 = nI p) (m10 : I 10 = nI s) (ht : t < 4096) (et : orN (F 15) n = nI t) (h : post (dgT n b t w g p s (dgG (F 11) x g) 7) I F (dgT n b t w g p s (dgG (F 11) x g) 7)) : w_X9_digest_J98 I F x post := by
  unfold w_X9_digest_J98
  refine gL_inv (fun j v => v.1 = nI j ∧ v.2.1 = I ∧ v.2.2.1 = F ∧ v.2.2.2 = dgG (F 11) x j) g ?_ ?_ ⟨rfl, rfl, rfl, rfl⟩
  · rintro j hj ⟨x1, J, L, z⟩ ⟨g1, gI, gF, gz⟩ again hag
    dsimp only at g1 gI gF gz ⊢
    subst g1 gI gF gz
    unfold w_X9_digest_B100
    rw [m0, nI_clamp (by omega)]
    refine ⟨fun q => absurd ((nI_leI (a := g) (b := j) (by omega) (by omega)).mp q) (by omega), fun _ => ⟨vp_in_nI (by omega) (by decide), ?_⟩⟩
    unfold w_X9_say
    exact fun hs1 e1 => hag _ ⟨nI_1 j, rfl, rfl, e1⟩
  · rintro ⟨x1, J, L, z⟩ ⟨g1, gI, gF, gz⟩ again
    dsimp only at g1 gI gF gz ⊢
    subst g1 gI gF gz
    unfold w_X9_digest_B100
    rw [m0]
    refine ⟨fun _ => ?_, fun q => absurd (Int32.le_refl _) q⟩
    refine gL_inv (fun j v => v.1 = nI j ∧ v.2.1 = J ∧ v.2.2.1 = L ∧ v.2.2.2 = dgT n b t w g p s (dgG (L 11) x g) j) 7 ?_ ?_ ⟨rfl, rfl, rfl, rfl⟩
    · rintro j hj ⟨x1, J2, L2, z⟩ ⟨g1, gI, gF, gz⟩ again hag
      dsimp only at g1 gI gF gz ⊢
      subst g1 gI gF gz
      unfold w_X9_digest_B127
      refine ⟨fun q => absurd ((nI_leI (a := 7) (by omega) (by omega)).mp q) (by omega), fun _ => m_countV hM hn hj hb m3 m4 m11 m0 m5 m10 ht et ?_⟩
      unfold w_X9_say
      exact fun hs1 e1 => hag _ ⟨nI_1 j, rfl, rfl, e1⟩
    · rintro ⟨x1, J2, L2, z⟩ ⟨g1, gI, gF, gz⟩ again
      dsimp only at g1 gI gF gz ⊢
      subst g1 gI gF gz
      unfold w_X9_digest_B127
      exact ⟨fun _ => h, fun q => absurd (by decide) q⟩
theorem m_digest {n b t w g p s : Nat} {A B : Nat → Int32} {I : Nat → Int32} {F : Nat → Nat → Int32} {hs : Int64} {post : Int64 → (Nat → Int32) → (Nat → Nat → Int32) → Int64 → Prop} (hM : mTab F) (hn : n ≤ 8) (hb : b < 2187) (hw : w ≤ 6) (hg : g ≤ 56) (m3 : I 3 = nI n) (m4 : I 4 = nI b) (m11 : I 11 = nI w) (m0 : I 0 = nI g) (m5 : I 5 = nI p) (m10 : I 10 = nI s) (hS : SR w A B (F 22)) (hc : 0 < n → cacheM n b I F) (ht : t < 4096) (et : orN (F 15) n = nI t)
    (h : ∀ I2 F2 h2, MK n b I F I2 F2 → post (dgV (F 14) (F 15) A B (F 11) n b t w g p s) I2 F2 h2) : w_X9_digest I F hs post := by
  unfold w_X9_digest
  intro hs54 e54
  subst e54
  have fin : ∀ x J L, MK n b I F J L → x = (if n = 0 then dgK (F 14) (F 15) A B n b w n else dgP (F 14) (F 15) n b (dgK (F 14) (F 15) A B n b w n) 3) → w_X9_digest_J98 J L x post := by
    intro x J L hC hx
    have hh := fun h2 => h J L h2 hC
    unfold dgV at hh
    rw [← hx] at hh
    refine m_dgJ (n := n) (b := b) (t := t) (w := w) (g := g) (p := p) (s := s) (MK_tab hC hM) hn hg hb (by rw [hC.1 3 (by decide)]; exact m3) (by rw [hC.1 4 (by decide)]; exact m4) (by rw [hC.1 11 (by decide)]; exact m11) (by rw [hC.1 0 (by decide)]; exact m0) (by rw [hC.1 5 (by decide)]; exact m5) (by rw [hC.1 10 (by decide)]; exact m10) ht (by rw [hC.2.1 15 (by decide)]; exact et) ?_
    rw [hC.2.1 11 (by decide)]
    exact hh _
  refine m_dgK (A := A) (B := B) hM hn hw m3 m4 hb m11 hS hc (fun y J L hC => ?_)
  by_cases hn0 : n = 0
  · refine gL_inv (fun j v => v.1 = 0 ∧ v.2.1 = J ∧ v.2.2.1 = L ∧ v.2.2.2 = dgK (F 14) (F 15) A B n b w n) 0 (fun j hj => absurd hj (by omega)) ?_ ⟨rfl, rfl, rfl, rfl⟩
    rintro ⟨x1, J2, L2, z⟩ ⟨g1, gI, gF, gz⟩ again
    dsimp only at g1 gI gF gz ⊢
    subst g1 gI gF gz
    unfold w_X9_digest_B70
    have d3 : J2 3 = nI n := by rw [hC.1 3 (by decide)]; exact m3
    rw [d3, nI_le0 (by omega)]
    exact ⟨fun q => absurd q (by decide), fun _ => ⟨fun _ => fin _ J2 L2 hC (if_pos hn0).symm, fun q => absurd hn0 q⟩⟩
  · have hn1 : 0 < n := by omega
    refine gL_inv (fun j v => v.1 = nI j ∧ MK n b I F v.2.1 v.2.2.1 ∧ v.2.2.2 = dgP (F 14) (F 15) n b (dgK (F 14) (F 15) A B n b w n) j) 3 ?_ ?_ ⟨rfl, hC, rfl⟩
    · rintro j hj ⟨x1, J2, L2, z⟩ ⟨g1, gC, gz⟩ again hag
      dsimp only at g1 gC gz ⊢
      subst g1 gz
      unfold w_X9_digest_B70
      have d3 : J2 3 = nI n := by rw [gC.1 3 (by decide)]; exact m3
      rw [d3, nI_le0 (by omega)]
      refine ⟨fun q => absurd ((nI_leI (a := 3) (by omega) (by omega)).mp q) (by omega), fun _ => ⟨fun q => absurd q hn0, fun _ => m_planV (MK_tab gC hM) hn hn1 hj d3 (by rw [gC.1 4 (by decide)]; exact m4) hb (gC.2.2 hn1) (fun I2 F2 b1 b2 b3 => ?_)⟩⟩
      unfold w_X9_say
      intro hs1 e1
      refine hag _ ⟨nI_1 j, MK_step gC b1 b2 b3, ?_⟩
      show hs1 = (31 : Int64) * dgP (F 14) (F 15) n b (dgK (F 14) (F 15) A B n b w n) j + (plV (F 14) (F 15) n b j).toInt64
      rw [e1, gC.2.1 14 (by decide), gC.2.1 15 (by decide)]
    · rintro ⟨x1, J2, L2, z⟩ ⟨g1, gC, gz⟩ again
      dsimp only at g1 gC gz ⊢
      subst g1 gz
      unfold w_X9_digest_B70
      exact ⟨fun _ => fin _ J2 L2 gC (if_neg hn0).symm, fun q => absurd (by decide) q⟩
theorem j_digest {i : Nat} {Ic Im : Nat → Int32} {Fc Fm : Nat → Nat → Int32} {hm : Int64} (h : RR i Ic Fc Im Fm) : w_X8_digest Ic Fc (fun r Ic2 Fc2 => w_X9_digest Im Fm hm (fun r2 Im2 Fm2 hm2 => r = r2 ∧ RR i Ic2 Fc2 Im2 Fm2)) := by
  obtain ⟨n, b, g, w, p, s, hB, hC⟩ := h
  obtain ⟨hn, hb, hg, hw, hp, hs, ⟨c8, m3, c7, m4, hPR⟩, ⟨c2, m0, hPg⟩, ⟨c11, m11, hSR⟩, ⟨c0, m5, c1, m10⟩, hKp, hT, hM⟩ := id hB
  have hE := PR_EQ hPR
  obtain ⟨t, ht, et⟩ := orN_lt (T := Fc 18) n (fun j hj => (hPR j hj).2)
  have et2 : orN (Fm 15) n = nI t := by rw [← et]; exact orN_congr n (fun j hj => (hPR j hj).1.2.symm)
  refine s_digest hn hb hw hg c8 c7 c11 c2 c0 c1 hT (fun k hk => (hPR k hk).2) hC.1 hC.2.1 ht et (fun I2 F2 hK => ?_)
  refine m_digest (A := Fc 21) (B := Fc 22) hM hn hb hw hg m3 m4 m11 m0 m5 m10 hSR hC.2.2 ht et2 (fun I3 F3 h3 hK2 => ⟨?_, ?_⟩)
  · unfold dgV
    rw [dgG_congr g (fun k hk => (hPg k hk).1), dgK_congr hE n (Nat.le_refl n), dgP_congr hE]
  · exact ⟨n, b, g, w, p, s, RB_keep hB hK.1 hK.2.1 (sI_of hK2.1 (by decide)) (sF_of hK2.2.1 (by decide)), hK.2.2.1, hK.2.2.2, hK2.2.2⟩
