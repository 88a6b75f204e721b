/-! the page read by the reference -/
def pg_M (st : Nat × Nat × (Nat → Nat) × (Nat → Nat)) (I : Nat → Int32) (F : Nat → Nat → Int32) : Prop :=
  I 1 = nI st.1 ∧ I 2 = nI st.2.1 ∧ ∀ x, x < st.1 → F 12 x = nI (st.2.2.1 x) ∧ F 13 x = nI (st.2.2.2 x)
section
variable {G : Nat → Nat} {k m h : Nat} {K T : Nat → Nat} {I : Nat → Int32} {F : Nat → Nat → Int32} {hs : Int64} {post : Int32 → (Nat → Int32) → (Nat → Nat → Int32) → Int64 → Prop}
theorem pg_147n {x : Int32} (h0 : 0 < m) (hm : m ≤ 8) (h1 : I 1 = nI m) (hp : ∀ F2, kF [12, 13] F F2 → post 0 I F2 hs) : w_X9_isChordSign_J146 x I F hs post := by
  unfold w_X9_isChordSign_J146 w_X9_isChordSign_J147
  have sb : nI m - (1 : Int32) = nI (m - 1) := by rw [show (1 : Int32) = nI 1 by decide, pk_sub (by omega)]
  rw [h1, sb]
  exact ⟨vp_in_nI (by omega) (by decide), fun _ => ⟨vp_in_nI (by omega) (by decide), fun F2 e2 => ⟨Or.inl rfl, hp F2 (fun j hj => by rw [e2, upF_n _ _ (fun z => by subst z; exact hj (by decide))])⟩⟩, fun q => absurd rfl q⟩
theorem pg_147y {c : Nat} (h0 : 0 < m) (hm : m ≤ 8) (h1 : I 1 = nI m) (hc : 97 ≤ c) (hc2 : c ≤ 108) {t : Nat} (ht : F 13 (m - 1) = nI t) (htl : t < 2 ^ (c - 97)) (hp : ∀ F2, F2 = upF F 13 (upd (F 13) (m - 1) (nI (t + 2 ^ (c - 97)))) → post 1 I F2 hs) : w_X9_isChordSign_J142 (nI c) I F hs post := by
  unfold w_X9_isChordSign_J142 w_X9_isChordSign_J147
  have sb : nI m - (1 : Int32) = nI (m - 1) := by rw [show (1 : Int32) = nI 1 by decide, pk_sub (by omega)]
  have ec : nI c - (97 : Int32) = nI (c - 97) := by rw [show (97 : Int32) = nI 97 by decide, pk_sub (by omega)]
  rw [h1, sb, nI_clamp (by omega), ht, ec, pg_shl _ (by omega), pg_or htl]
  exact ⟨vp_in_nI (by omega) (by decide), fun q => absurd q (by decide), fun _ => ⟨vp_in_nI (by omega) (by decide), fun F3 e3 => ⟨Or.inr rfl, hp F3 e3⟩⟩⟩
theorem pg_good {st : Nat × Nat × (Nat → Nat) × (Nat → Nat)} (hk : k < 56) (hG : G k ≤ 126) (hF : F 11 k = nI (G k)) (hF1 : 0 < k → F 11 (k - 1) = nI (G (k - 1))) (hP : pg_P G k st) (hR : pg_M st I F)
    (h1 : ∀ st2, pg_step G k st = some st2 → ∀ I2 F2, kI [1, 2] I I2 → kF [12, 13] F F2 → pg_M st2 I2 F2 → post 1 I2 F2 hs) (h0 : pg_step G k st = none → ∀ I2 F2, kI [1, 2] I I2 → kF [12, 13] F F2 → post 0 I2 F2 hs) : w_X9_isGood (nI k) I F hs post := by
  obtain ⟨m, h, K, T⟩ := st
  obtain ⟨p1, p2, p3, p4, p5, p6, p7, p8, p9⟩ := hP
  have hR0 := hR
  obtain ⟨m1, m2, mT⟩ := hR
  dsimp only at p1 p2 p3 p4 p5 p6 p7 p8 m1 m2 mT
  have e3 : (7 : Int32) ≤ nI k ↔ 7 ≤ k := le_lit (by decide) (by omega) (by omega)
  have f3 : nI k = (7 : Int32) ↔ k = 7 := nI_lit (by decide) (by omega) (by omega)
  have hv : vp_in (nI k) 56 := vp_in_nI hk (by decide)
  have h00 : pg_step G k (m, h, K, T) = none → post 0 I F hs := fun z => h0 z I F (fun _ _ => rfl) (fun _ _ => rfl)
  unfold w_X9_isGood
  rw [nI_clamp (by omega), hF, e3, f3]
  refine ⟨hv, fun v1 e1 => ?_⟩
  subst e1
  refine ⟨fun g7 => ⟨fun n7 => ?_, fun e7 => ⟨fun q => ?_, fun q => ?_⟩⟩, fun l7 => ?_⟩
  · have k7 : 7 < k := by omega
    unfold w_X9_isChordSign
    rw [nI_clamp (by omega), hF]
    refine ⟨hv, fun v17 e17 => ?_⟩
    subst e17
    have j37 : ¬ (G k = 44 ∧ 2 ≤ h ∧ m < 8) → w_X9_isChordSign_J37 (nI k) (nI (G k)) I F hs (fun (r4 : Int32) (I5 : Nat → Int32) (F6 : Nat → Nat → Int32) (hs7 : Int64) => ((r4 = 0 ∨ r4 = 1) ∧ post r4 I5 F6 hs7)) := by
      intro nc
      unfold w_X9_isChordSign_J37
      intro I4 e4
      have d2 : I4 2 = nI (h + 1) := by rw [e4, pk_us, m2, nI_1]
      have d1 : I4 1 = nI m := by rw [e4, pk_un (by decide)]; exact m1
      have d3 : kI [1, 2] I I4 := fun j hj => by rw [e4, pk_un (fun z => by subst z; exact hj (by decide))]
      have x1 : nI (h + 1) = (1 : Int32) ↔ h + 1 = 1 := nI_lit (by decide) (by omega) (by omega)
      have x2 : nI (h + 1) = (2 : Int32) ↔ h + 1 = 2 := nI_lit (by decide) (by omega) (by omega)
      have x5 : (5 : Int32) < nI (h + 1) ↔ 5 < h + 1 := lt_litL (by decide) (by omega) (by omega)
      rw [d2, x1, x2, x5, d1]
      refine ⟨fun hn1 => ?_, fun he1 => ?_⟩
      · have e0 : h ≠ 0 := by omega
        obtain ⟨m0, pc⟩ := p5 e0
        have tv : F 13 (m - 1) = nI (T (m - 1)) := (mT (m - 1) (by omega)).2
        have no : ¬ (97 ≤ G k ∧ G k ≤ 108 ∧ h ≤ 4 ∧ T (m - 1) < 2 ^ (G k - 97)) → w_X9_isChordSign_J146 (nI (G k)) I4 F hs (fun (r4 : Int32) (I5 : Nat → Int32) (F6 : Nat → Nat → Int32) (hs7 : Int64) => ((r4 = 0 ∨ r4 = 1) ∧ post r4 I5 F6 hs7)) := fun nt => pg_147n m0 p1 d1 (fun F2 a2 => ⟨Or.inl rfl, h0 (pg_n5 k7 e0 nt nc) I4 F2 d3 a2⟩)
        have yes : (97 ≤ G k ∧ G k ≤ 108 ∧ h ≤ 4 ∧ T (m - 1) < 2 ^ (G k - 97)) → w_X9_isChordSign_J142 (nI (G k)) I4 F hs (fun (r4 : Int32) (I5 : Nat → Int32) (F6 : Nat → Nat → Int32) (hs7 : Int64) => ((r4 = 0 ∨ r4 = 1) ∧ post r4 I5 F6 hs7)) := fun yt => pg_147y m0 p1 d1 yt.1 yt.2.1 tv yt.2.2.2 (fun F2 ef => ⟨Or.inr rfl, h1 _ (pg_s4 k7 e0 yt) I4 F2 d3 (fun j hj => by rw [ef, upF_n _ _ (fun z => by subst z; exact hj (by decide))]) ⟨d1, d2, fun x hx => ⟨by rw [ef, upF_n _ _ (by decide)]; exact (mT x hx).1, by
          rw [ef, upF_s]
          show upd (F 13) (m - 1) _ x = nI (pg_up T (m - 1) _ x)
          by_cases ex : x = m - 1
          · rw [ex, pk_us, pg_us]
          · rw [pk_un ex, pg_un ex]
            exact (mT x hx).2⟩⟩⟩)
        refine in_i (l2 := 97) (h2 := 108) (by decide) (by decide) (fun z => ⟨fun _ => no (fun y => ?_), fun q => absurd rfl q⟩) (fun z1 z2 => ⟨fun q => absurd q (by decide), fun _ => ?_⟩)
        · rw [lt_lit (c := 97) (by decide) (by omega) (by omega), lt_litL (c := 108) (by decide) (by omega) (by omega)] at z
          omega
        · rw [lt_lit (c := 97) (by decide) (by omega) (by omega)] at z1
          rw [lt_litL (c := 108) (by decide) (by omega) (by omega)] at z2
          refine ⟨fun z5 => no (fun y => by have := y.2.2.1; omega), fun z5 => ⟨fun zz => yes ⟨by omega, by omega, by omega, ?_⟩, fun zz => ?_⟩⟩
          · rw [p6 (by omega)]
            exact Nat.two_pow_pos _
          · obtain ⟨w1, w2, w3, w4⟩ := p7 (by omega)
            have sk : nI k - (1 : Int32) = nI (k - 1) := by rw [show (1 : Int32) = nI 1 by decide, pk_sub (by omega)]
            rw [sk, nI_clamp (by omega), hF1 (by omega), nI_leI (by omega) (by omega)]
            have tt := pg_top (b := G k - 97) w3 w4
            exact ⟨vp_in_nI (by omega) (by decide), fun y => no (fun y2 => by have := tt.mp y2.2.2.2; omega), fun y => yes ⟨by omega, by omega, by omega, tt.mpr (by omega)⟩⟩
      · have e0 : h = 0 := by omega
        subst e0
        have m8 : m < 8 := by
          rcases p4 rfl with z | z
          · exact z
          · have := (p3 z).1; omega
        have hvm : vp_in (nI m) 8 := vp_in_nI m8 (by decide)
        have key : ∀ y : Nat, pg_kd (G k) = some y → ∀ F14 : Nat → Nat → Int32, F14 = upF F 12 (upd (F 12) ((nI m)).toNatClampNeg (nI y)) → vp_in (nI m) 8 ∧ ∀ F15 : Nat → Nat → Int32, F15 = upF F14 13 (upd (F14 13) ((nI m)).toNatClampNeg (0 : Int32)) → ∀ I16 : Nat → Int32, I16 = upd I4 1 ((nI m) + (1 : Int32)) → (((1 : Int32) = 0 ∨ (1 : Int32) = 1) ∧ post 1 I16 F15 hs) := by
          intro y ky F14 e14
          refine ⟨hvm, fun F15 e15 I16 e16 => ⟨Or.inr rfl, h1 _ (pg_s3 k7 ky) I16 F15 (fun j hj => ?_) (fun j hj => ?_) ⟨?_, ?_, fun x hx => ⟨?_, ?_⟩⟩⟩⟩
          · rw [e16, pk_un (fun z => by subst z; exact hj (by decide))]; exact d3 j hj
          · rw [e15, upF_n _ _ (fun z => by subst z; exact hj (by decide)), e14, upF_n _ _ (fun z => by subst z; exact hj (by decide))]
          · rw [e16, pk_us, nI_1]
          · rw [e16, pk_un (by decide)]; exact d2
          · rw [e15, upF_n _ _ (by decide), e14, upF_s, nI_clamp (by omega)]
            show upd (F 12) m _ x = nI (pg_up K m y x)
            by_cases ex : x = m
            · rw [ex, pk_us, pg_us]
            · rw [pk_un ex, pg_un ex]
              exact (mT x (by have : x < m + 1 := hx; omega)).1
          · rw [e15, upF_s, nI_clamp (by omega), e14, upF_n _ _ (by decide)]
            show upd (F 13) m _ x = nI (pg_up T m 0 x)
            by_cases ex : x = m
            · rw [ex, pk_us, pg_us]; rfl
            · rw [pk_un ex, pg_un ex]
              exact (mT x (by have : x < m + 1 := hx; omega)).2
        have l98 : nI (G k) = (98 : Int32) ↔ G k = 98 := nI_lit (by decide) (by omega) (by omega)
        have l99 : nI (G k) = (99 : Int32) ↔ G k = 99 := nI_lit (by decide) (by omega) (by omega)
        have l103 : nI (G k) = (103 : Int32) ↔ G k = 103 := nI_lit (by decide) (by omega) (by omega)
        have l104 : nI (G k) = (104 : Int32) ↔ G k = 104 := nI_lit (by decide) (by omega) (by omega)
        have l113 : nI (G k) = (113 : Int32) ↔ G k = 113 := nI_lit (by decide) (by omega) (by omega)
        have kb : ∀ (y : Nat) (pz : Int32 → Prop), pg_kd (G k) = some y → pz (nI y) → w_X9_kindBy (nI (G k)) I4 F hs pz := by
          intro y pz ky hpz
          unfold w_X9_kindBy
          rw [l98, l99, l103, l104, l113]
          have inj : ∀ y2, pg_kd (G k) = some y2 → y = y2 := fun y2 e2 => by rw [ky] at e2; cases e2; rfl
          refine ⟨fun z => ?_, fun z => ?_, fun z => ?_, fun z => ?_, fun z => ?_, fun n1 n2 n3 n4 n5 => ?_⟩
          · have := inj 4 (by rw [z]; rfl); subst this; exact hpz
          · have := inj 0 (by rw [z]; rfl); subst this; exact hpz
          · have := inj 1 (by rw [z]; rfl); subst this; exact hpz
          · have := inj 2 (by rw [z]; rfl); subst this; exact hpz
          · have := inj 3 (by rw [z]; rfl); subst this; exact hpz
          · exfalso
            unfold pg_kd at ky
            rw [if_neg n1, if_neg n2, if_neg n3, if_neg n4, if_neg n5] at ky
            cases ky
        cases ck : pg_kd (G k) with
        | some y =>
          have hy : ¬ nI y = (-1 : Int32) := by
            have h5 : y < 5 := by
              unfold pg_kd at ck
              split at ck
              · cases ck; omega
              · split at ck
                · cases ck; omega
                · split at ck
                  · cases ck; omega
                  · split at ck
                    · cases ck; omega
                    · split at ck
                      · cases ck; omega
                      · cases ck
            rcases (show y = 0 ∨ y = 1 ∨ y = 2 ∨ y = 3 ∨ y = 4 by omega) with rfl | rfl | rfl | rfl | rfl <;> decide
          exact kb y _ ck ⟨fun _ => kb y _ ck ⟨hvm, key y ck⟩, fun q => absurd q hy⟩
        | none =>
          unfold w_X9_kindBy
          rw [l98, l99, l103, l104, l113]
          refine ⟨fun z => absurd ck (by rw [z]; decide), fun z => absurd ck (by rw [z]; decide), fun z => absurd ck (by rw [z]; decide), fun z => absurd ck (by rw [z]; decide), fun z => absurd ck (by rw [z]; decide), fun _ _ _ _ _ => ⟨fun q => absurd rfl q, fun _ => ⟨Or.inl rfl, h0 (pg_n3 k7 ck) I4 F d3 (fun _ _ => rfl)⟩⟩⟩
    have l44 : nI (G k) = (44 : Int32) ↔ G k = 44 := nI_lit (by decide) (by omega) (by omega)
    have y1 : nI h ≤ (1 : Int32) ↔ h ≤ 1 := le_litR (by decide) (by omega) (by omega)
    have y8 : (8 : Int32) ≤ nI m ↔ 8 ≤ m := le_lit (by decide) (by omega) (by omega)
    rw [l44, m2, y1, m1, y8]
    refine ⟨fun q => j37 (fun z => q z.1), fun q => ⟨fun q2 => j37 (fun z => by have := z.2.1; omega), fun q2 => ⟨fun q8 => j37 (fun z => by have := z.2.2; omega), fun q8 I21 e21 => ⟨Or.inr rfl, h1 _ (pg_s5 k7 (by omega) ⟨q, by omega, by omega⟩) I21 F (fun j hj => ?_) (fun _ _ => rfl) ⟨?_, ?_, mT⟩⟩⟩⟩⟩
    · rw [e21, pk_un (fun z => by subst z; exact hj (by decide))]
    · rw [e21, pk_un (by decide)]; exact m1
    · rw [e21, pk_us]; rfl
  · rw [nI_lit (c := 59) (by decide) (by omega) (by omega)] at q
    exact h00 (pg_n2 e7 q)
  · rw [nI_lit (c := 59) (by decide) (by omega) (by omega)] at q
    exact h1 _ (pg_s2 e7 q) I F (fun _ _ => rfl) (fun _ _ => rfl) hR0
  · have k7 : k < 7 := by omega
    refine in_i (l2 := 48) (h2 := 50) (by decide) (by decide) (fun z => ⟨Or.inl rfl, h00 (pg_n1 k7 (fun y => ?_))⟩) (fun z1 z2 => ⟨Or.inr rfl, h1 _ (pg_s1 k7 ⟨?_, ?_⟩) I F (fun _ _ => rfl) (fun _ _ => rfl) hR0⟩)
    · rw [lt_lit (c := 48) (by decide) (by omega) (by omega), lt_litL (c := 50) (by decide) (by omega) (by omega)] at z
      omega
    · rw [lt_lit (c := 48) (by decide) (by omega) (by omega)] at z1
      omega
    · rw [lt_litL (c := 50) (by decide) (by omega) (by omega)] at z2
      omega
end
theorem m_faultOf {G : Nat → Nat} {g j : Nat} {st : Nat × Nat × (Nat → Nat) × (Nat → Nat)} {I : Nat → Int32} {F : Nat → Nat → Int32} {hs : Int64} {post : Int32 → (Nat → Int32) → (Nat → Nat → Int32) → Int64 → Prop} (hg : g ≤ 56) (hG : ∀ x, x < g → F 11 x = nI (G x) ∧ G x ≤ 126) (m0 : I 0 = nI g) (hj : j ≤ g) (hst : pg_rs G j = some st) (he : j < g → pg_rs G (j + 1) = none)
    (hp : ∀ I2 F2, kI [1, 2] I I2 → kF [12, 13] F F2 → (j = g → pg_M st I2 F2) → post (nI j) I2 F2 hs) : w_X9_faultOf I F hs post := by
  unfold w_X9_faultOf
  intro I7 e7 I8 e8
  have k0 : kI [1, 2] I I8 := fun x hx => by rw [e8, pk_un (fun z => by subst z; exact hx (by decide)), e7, pk_un (fun z => by subst z; exact hx (by decide))]
  have M0 : pg_M (0, 0, fun _ => 0, fun _ => 0) I8 F := by
    refine ⟨?_, ?_, fun x hx => absurd (show x < 0 from hx) (by omega)⟩
    · rw [e8, pk_un (by decide), e7, pk_us]; rfl
    · rw [e8, pk_us]; rfl
  refine gL_inv (fun i v => v.1 = nI i ∧ kI [1, 2] I v.2.1 ∧ kF [12, 13] F v.2.2.1 ∧ v.2.2.2 = hs ∧ ∃ si, pg_rs G i = some si ∧ pg_M si v.2.1 v.2.2.1) j ?_ ?_ ⟨rfl, k0, fun _ _ => rfl, rfl, _, rfl, M0⟩
  · rintro i hi ⟨x1, J, L, z⟩ ⟨g1, gI, gF, gz, si, gs, gC⟩ again hag
    dsimp only at g1 gI gF gz gC ⊢
    subst g1 gz
    unfold w_X9_faultOf_B12
    have j0 : J 0 = nI g := by rw [gI 0 (by decide)]; exact m0
    rw [j0]
    refine ⟨fun q => absurd ((nI_leI (a := g) (b := i) (by omega) (by omega)).mp q) (by omega), fun _ => pg_good (G := G) (k := i) (by omega) (hG i (by omega)).2 (by rw [gF 11 (by decide)]; exact (hG i (by omega)).1) (fun h0 => by rw [gF 11 (by decide)]; exact (hG (i - 1) (by omega)).1) (pg_rsP i si gs) gC (fun s2 hs2 I2 F2 a1 a2 a3 => ⟨fun q => absurd q (by decide), fun _ => hag _ ⟨nI_1 i, kI_trans gI a1, kF_trans' gF a2, rfl, s2, by rw [pg_rsS gs]; exact hs2, a3⟩⟩) (fun hn => ?_)⟩
    obtain ⟨s2, hs2⟩ := pg_rsL (i := i + 1) j st (by omega) hst
    rw [pg_rsS gs, hn] at hs2
    cases hs2
  · rintro ⟨x1, J, L, z⟩ ⟨g1, gI, gF, gz, si, gs, gC⟩ again
    dsimp only at g1 gI gF gz gC ⊢
    subst g1 gz
    rw [hst] at gs
    cases gs
    unfold w_X9_faultOf_B12
    have j0 : J 0 = nI g := by rw [gI 0 (by decide)]; exact m0
    rw [j0, nI_leI (by omega) (by omega)]
    refine ⟨fun q => hp J L gI gF (fun _ => gC), fun q => ?_⟩
    refine pg_good (G := G) (k := j) (by omega) (hG j (by omega)).2 (by rw [gF 11 (by decide)]; exact (hG j (by omega)).1) (fun h0 => by rw [gF 11 (by decide)]; exact (hG (j - 1) (by omega)).1) (pg_rsP j st hst) gC (fun s2 hs2 I2 F2 a1 a2 a3 => ?_) (fun _ I2 F2 a1 a2 => ⟨fun _ => hp I2 F2 (kI_trans gI a1) (kF_trans' gF a2) (fun e => absurd e (by omega)), fun q => absurd rfl q⟩)
    have hh := he (by omega)
    rw [pg_rsS hst, hs2] at hh
    cases hh
