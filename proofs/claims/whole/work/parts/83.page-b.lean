/-! the page read by the class -/
def pg_C (G : Nat → Nat) (k : Nat) (st : Nat × Nat × (Nat → Nat) × (Nat → Nat)) (I : Nat → Int32) (F : Nat → Nat → Int32) : Prop :=
  I 3 = nI k ∧ (st.2.1 = 0 → I 4 = 1) ∧ (st.2.1 ≠ 0 → I 4 = 0) ∧ I 5 = nI (pg_bg G (min k 7)) ∧ I 6 = nI st.1 ∧ ∀ x, x < st.1 → F 15 x = nI (st.2.2.1 x) ∧ F 16 x = nI (st.2.2.2 x)
section
variable {G : Nat → Nat} {k m h : Nat} {K T : Nat → Nat} {I : Nat → Int32} {F : Nat → Nat → Int32} {post : Int32 → (Nat → Int32) → (Nat → Nat → Int32) → Prop}
theorem pg_80y (c3 : I 3 = nI k) (hp : ∀ I2, I2 = upd I 3 (nI (k + 1)) → post 1 I2 F) : w_X5_accept_2_J80 1 I F post := by
  unfold w_X5_accept_2_J80
  refine ⟨fun q => absurd q (by decide), fun _ I2 e2 => ⟨Or.inr rfl, hp I2 ?_⟩⟩
  rw [e2, c3, nI_1]
theorem pg_80n (hp : post 0 I F) : w_X5_accept_2_J80 0 I F post := by
  unfold w_X5_accept_2_J80
  exact ⟨fun _ => ⟨Or.inl rfl, hp⟩, fun q => absurd rfl q⟩
theorem pg_ins (hm : m < 8) (h6 : I 6 = nI m) {v w : Int32} (hp : ∀ I2 F2, I2 = upd I 6 (nI (m + 1)) → F2 = upF (upF F 15 (upd (F 15) m v)) 16 (upd (F 16) m w) → post 1 I2 F2) : w_X2_insert_3 (nI m) v w I F post := by
  unfold w_X2_insert_3
  rw [h6]
  refine ⟨fun q => absurd ((le_lit (c := 8) (by decide) (by omega) (by omega)).mp q) (by omega), fun _ => ⟨fun q => absurd q (nI_nn (by omega)), fun _ => ⟨fun _ v7 e7 => ?_, fun q => absurd (Int32.le_refl _) q⟩⟩⟩
  subst e7
  refine gL_inv (fun j z => z.1 = nI m ∧ z.2.1 = I ∧ z.2.2 = F) 0 (fun j hj => absurd hj (by omega)) ?_ ⟨rfl, rfl, rfl⟩
  rintro ⟨x1, J, L⟩ ⟨g1, g2, g3⟩ again
  dsimp only at g1 g2 g3 ⊢
  subst g1 g2 g3
  unfold w_X2_insert_3_B29
  refine ⟨fun _ => ⟨vp_in_nI hm (by decide), fun F11 e11 => ⟨vp_in_nI hm (by decide), fun F12 e12 I13 e13 => hp _ _ ?_ ?_⟩⟩, fun q => absurd (Int32.le_refl _) q⟩
  · rw [e13, h6, nI_1]
  · rw [nI_clamp (by omega)] at e11 e12
    rw [e12, e11, upF_n _ _ (by decide)]
theorem pg_last {pz : Int32 → Prop} (h0 : 0 < m) (hm : m ≤ 8) (h6 : I 6 = nI m) (hp : pz (F 16 (m - 1))) : w_X2_tonesOfLast_3 I F pz := by
  unfold w_X2_tonesOfLast_3
  have sb : nI m - (1 : Int32) = nI (m - 1) := by rw [show (1 : Int32) = nI 1 by decide, pk_sub (by omega)]
  rw [h6, sb, nI_clamp (by omega)]
  exact ⟨fun _ => ⟨vp_in_nI (by omega) (by decide), hp⟩, fun q => absurd ((nI_is0 (by omega)).mp q) (by omega)⟩
theorem pg_addLast {pz : (Nat → Int32) → (Nat → Nat → Int32) → Prop} {v : Int32} (h0 : 0 < m) (hm : m ≤ 8) (h6 : I 6 = nI m) (hp : ∀ F2, F2 = upF F 16 (upd (F 16) (m - 1) (F 16 (m - 1) ||| v)) → pz I F2) : w_X2_addToLast_3 v I F pz := by
  unfold w_X2_addToLast_3
  have sb : nI m - (1 : Int32) = nI (m - 1) := by rw [show (1 : Int32) = nI 1 by decide, pk_sub (by omega)]
  rw [h6, sb, nI_clamp (by omega)]
  exact ⟨fun q => absurd ((nI_le0 (by omega)).mp q) (by omega), fun _ => ⟨vp_in_nI (by omega) (by decide), vp_in_nI (by omega) (by decide), hp⟩⟩
theorem pg_acc {st : Nat × Nat × (Nat → Nat) × (Nat → Nat)} (hk : k < 56) (hG : G k ≤ 126) (hP : pg_P G k st) (hR : pg_C G k st I F)
    (h1 : ∀ st2, pg_step G k st = some st2 → ∀ I2 F2, kI [3, 4, 5, 6] I I2 → kF [15, 16] F F2 → pg_C G (k + 1) st2 I2 F2 → post 1 I2 F2) (h0 : pg_step G k st = none → post 0 I F) : w_X5_accept_2 (nI (G k)) I F post := by
  obtain ⟨m, h, K, T⟩ := st
  obtain ⟨p1, p2, p3, p4, p5, p6, p7, p8, p9⟩ := hP
  obtain ⟨c3, c4, c4', c5, c6, cT⟩ := hR
  dsimp only at p1 p2 p3 p4 p5 p6 p7 p8 c4 c4' c6 cT
  have e3 : (7 : Int32) ≤ nI k ↔ 7 ≤ k := le_lit (by decide) (by omega) (by omega)
  have f3 : nI k = (7 : Int32) ↔ k = 7 := nI_lit (by decide) (by omega) (by omega)
  unfold w_X5_accept_2
  rw [c3, e3, f3]
  refine ⟨fun g7 => ⟨fun n7 => ⟨fun q4 => ?_, fun q4 => ?_⟩, fun e7 => ⟨fun q => ?_, fun q => ?_⟩⟩, fun l7 => ?_⟩
  · -- a tone or a comma
    have e0 : h ≠ 0 := fun z => by rw [c4 z] at q4; exact absurd q4 (by decide)
    have k7 : 7 < k := by omega
    obtain ⟨m0, pc⟩ := p5 e0
    have tv : F 16 (m - 1) = nI (T (m - 1)) := (cT (m - 1) (by omega)).2
    have tl : T (m - 1) < 4096 := p8 (m - 1) (by omega)
    have com : ¬ (97 ≤ G k ∧ G k ≤ 108 ∧ h ≤ 4 ∧ T (m - 1) < 2 ^ (G k - 97)) → w_X5_acceptComma_2 (nI (G k)) I F (fun (r10 : Int32) (I11 : Nat → Int32) (F12 : Nat → Nat → Int32) => ((r10 = 0 → w_X5_accept_2_J79 (0 : Int32) I11 F12 post) ∧ (¬ r10 = 0 → w_X5_accept_2_J74 I11 F12 post))) := by
      intro nt
      have no : ¬ (G k = 44 ∧ 2 ≤ h ∧ m < 8) → ((0 : Int32) = 0 → w_X5_accept_2_J79 (0 : Int32) I F post) ∧ (¬ (0 : Int32) = 0 → w_X5_accept_2_J74 I F post) := fun nc => ⟨fun _ => by unfold w_X5_accept_2_J79; exact pg_80n (h0 (pg_n5 k7 e0 nt nc)), fun q => absurd rfl q⟩
      unfold w_X5_acceptComma_2
      have e44 : nI (G k) = (44 : Int32) ↔ G k = 44 := nI_lit (by decide) (by omega) (by omega)
      rw [e44]
      refine ⟨fun q => no (fun z => q z.1), fun q44 => pg_last m0 p1 c6 ?_⟩
      rw [tv, nI_is0 (by omega), c6]
      have e8 : nI m < (8 : Int32) ↔ m < 8 := lt_lit (by decide) (by omega) (by omega)
      rw [e8]
      refine ⟨fun z => no (fun w => by have := (p7 w.2.1).2.2.1; have := Nat.two_pow_pos (G (k - 1) - 97); omega), fun z => ⟨fun m8 I5 e5 => ?_, fun m8 => no (fun w => m8 w.2.2)⟩⟩
      have h2 : 2 ≤ h := by
        by_cases hh : h = 1
        · exact absurd (p6 hh) z
        · omega
      refine ⟨fun q => absurd q (by decide), fun _ => ?_⟩
      unfold w_X5_accept_2_J74 w_X5_accept_2_J79
      refine pg_80y (k := k) (by rw [e5, pk_un (by decide)]; exact c3) (fun I2 e2 => h1 _ (pg_s5 k7 e0 ⟨q44, h2, m8⟩) I2 F (fun j hj => ?_) (fun _ _ => rfl) ⟨?_, fun _ => ?_, fun z => absurd rfl z, ?_, ?_, cT⟩)
      · rw [e2, pk_un (fun z => by subst z; exact hj (by decide)), e5, pk_un (fun z => by subst z; exact hj (by decide))]
      · rw [e2, pk_us]
      · rw [e2, pk_un (by decide), e5, pk_us]
      · rw [e2, pk_un (by decide), e5, pk_un (by decide), c5, show min (k + 1) 7 = min k 7 by omega]
      · rw [e2, pk_un (by decide), e5, pk_un (by decide)]; exact c6
    have no0 : ¬ (97 ≤ G k ∧ G k ≤ 108 ∧ h ≤ 4 ∧ T (m - 1) < 2 ^ (G k - 97)) → ((¬ (0 : Int32) = 0 → w_X5_accept_2_J74 I F post) ∧ ((0 : Int32) = 0 → w_X5_acceptComma_2 (nI (G k)) I F (fun (r10 : Int32) (I11 : Nat → Int32) (F12 : Nat → Nat → Int32) => ((r10 = 0 → w_X5_accept_2_J79 (0 : Int32) I11 F12 post) ∧ (¬ r10 = 0 → w_X5_accept_2_J74 I11 F12 post))))) := fun nt => ⟨fun q => absurd rfl q, fun _ => com nt⟩
    unfold w_X5_acceptTone_2
    intro v1 e1
    refine pg_last m0 p1 c6 ?_
    rw [tv]
    have s97 : v1.toInt = (G k : Int) - 97 := by rw [e1, show (97 : Int32) = nI 97 by decide, pk_sub_toInt (by omega) (by omega)]; rfl
    refine ⟨fun q => no0 (fun z => ?_), fun q => ⟨fun q12 => no0 (fun z => ?_), fun q12 => ?_⟩⟩
    · rw [Int32.lt_iff_toInt_lt, s97, show (0 : Int32).toInt = 0 by decide] at q
      omega
    · rw [Int32.le_iff_toInt_le, s97, show (12 : Int32).toInt = 12 by decide] at q12
      omega
    · rw [Int32.lt_iff_toInt_lt, s97, show (0 : Int32).toInt = 0 by decide] at q
      rw [Int32.le_iff_toInt_le, s97, show (12 : Int32).toInt = 12 by decide] at q12
      have ev : v1 = nI (G k - 97) := by rw [e1, show (97 : Int32) = nI 97 by decide, pk_sub (by omega)]
      rw [ev]
      refine s_bits tl ?_
      have e4 : nI (pcn (T (m - 1)) 12) < (4 : Int32) ↔ h ≤ 4 := by
        rw [pc, lt_lit (c := 4) (by decide) (by omega) (by omega)]
        omega
      rw [e4, pg_shr (by omega) tl]
      refine ⟨fun h4 => ⟨fun ht => ?_, fun ht => no0 (fun z => ht z.2.2.2)⟩, fun h4 => no0 (fun z => h4 z.2.2.1)⟩
      refine pg_addLast m0 p1 c6 (fun F2 ef => ⟨fun _ => ?_, fun q => absurd q (by decide)⟩)
      rw [tv, pg_shl _ (by omega), pg_or ht] at ef
      unfold w_X5_accept_2_J74 w_X5_accept_2_J79
      refine pg_80y (k := k) c3 (fun I2 e2 => h1 _ (pg_s4 k7 e0 ⟨by omega, by omega, h4, ht⟩) I2 F2 (fun j hj => ?_) (fun j hj => ?_) ⟨?_, fun z => absurd (show h + 1 = 0 from z) (by omega), fun _ => ?_, ?_, ?_, fun x hx => ⟨?_, ?_⟩⟩)
      · rw [e2, pk_un (fun z => by subst z; exact hj (by decide))]
      · rw [ef, upF_n _ _ (fun z => by subst z; exact hj (by decide))]
      · rw [e2, pk_us]
      · rw [e2, pk_un (by decide)]; exact q4
      · rw [e2, pk_un (by decide), c5, show min (k + 1) 7 = min k 7 by omega]
      · rw [e2, pk_un (by decide)]; exact c6
      · rw [ef, upF_n _ _ (by decide)]
        exact (cT x hx).1
      · rw [ef, upF_s]
        show upd (F 16) (m - 1) _ x = nI (pg_up T (m - 1) _ x)
        by_cases ex : x = m - 1
        · rw [ex, pk_us, pg_us]
        · rw [pk_un ex, pg_un ex]
          exact (cT x hx).2
  · -- a kind
    have e0 : h = 0 := by
      apply Classical.byContradiction
      intro z
      exact q4 (c4' z)
    subst e0
    have k7 : 7 < k := by omega
    have m8 : m < 8 := by
      rcases p4 rfl with z | z
      · exact z
      · have := (p3 z).1; omega
    have key : ∀ y : Nat, y < 5 → pg_kd (G k) = some y → ((¬ nI y = (-1 : Int32) → ∀ I3 : Nat → Int32, I3 = upd I 4 (0 : Int32) → w_X2_insert_3 (I3 6) (nI y) (0 : Int32) I3 F (fun (r4 : Int32) (I5 : Nat → Int32) (F6 : Nat → Nat → Int32) => ((r4 = 0 ∨ r4 = 1) ∧ w_X5_accept_2_J80 r4 I5 F6 post))) ∧ (nI y = (-1 : Int32) → w_X5_accept_2_J80 (0 : Int32) I F post)) := by
      intro y hy ky
      refine ⟨fun _ I3 d3 => ?_, fun q => absurd q (by rcases (show y = 0 ∨ y = 1 ∨ y = 2 ∨ y = 3 ∨ y = 4 by omega) with rfl | rfl | rfl | rfl | rfl <;> decide)⟩
      have d6 : I3 6 = nI m := by rw [d3, pk_un (by decide)]; exact c6
      rw [d6]
      refine pg_ins m8 d6 (fun I5 F6 e5 e6 => ⟨Or.inr rfl, pg_80y (k := k) (by rw [e5, pk_un (by decide), d3, pk_un (by decide)]; exact c3) (fun I2 e2 => h1 _ (pg_s3 k7 ky) I2 F6 (fun j hj => ?_) (fun j hj => ?_) ⟨?_, fun z => absurd (show (1 : Nat) = 0 from z) (by omega), fun _ => ?_, ?_, ?_, fun x hx => ⟨?_, ?_⟩⟩)⟩)
      · rw [e2, pk_un (fun z => by subst z; exact hj (by decide)), e5, pk_un (fun z => by subst z; exact hj (by decide)), d3, pk_un (fun z => by subst z; exact hj (by decide))]
      · rw [e6, upF_n _ _ (fun z => by subst z; exact hj (by decide)), upF_n _ _ (fun z => by subst z; exact hj (by decide))]
      · rw [e2, pk_us]
      · rw [e2, pk_un (by decide), e5, pk_un (by decide), d3, pk_us]
      · rw [e2, pk_un (by decide), e5, pk_un (by decide), d3, pk_un (by decide), c5, show min (k + 1) 7 = min k 7 by omega]
      · rw [e2, pk_un (by decide), e5, pk_us]
      · rw [e6, upF_n _ _ (by decide), upF_s]
        show upd (F 15) m _ x = nI (pg_up K m y x)
        by_cases ex : x = m
        · rw [ex, pk_us, pg_us]
        · rw [pk_un ex, pg_un ex]
          exact (cT x (by have : x < m + 1 := hx; omega)).1
      · rw [e6, upF_s]
        show upd (F 16) m _ x = nI (pg_up T m 0 x)
        by_cases ex : x = m
        · rw [ex, pk_us, pg_us]; rfl
        · rw [pk_un ex, pg_un ex]
          exact (cT x (by have : x < m + 1 := hx; omega)).2
    unfold w_X5_acceptKind_2 w_X5_kindOf
    have l98 : nI (G k) = (98 : Int32) ↔ G k = 98 := nI_lit (by decide) (by omega) (by omega)
    have l99 : nI (G k) = (99 : Int32) ↔ G k = 99 := nI_lit (by decide) (by omega) (by omega)
    have l103 : nI (G k) = (103 : Int32) ↔ G k = 103 := nI_lit (by decide) (by omega) (by omega)
    have l104 : nI (G k) = (104 : Int32) ↔ G k = 104 := nI_lit (by decide) (by omega) (by omega)
    have l113 : nI (G k) = (113 : Int32) ↔ G k = 113 := nI_lit (by decide) (by omega) (by omega)
    rw [l98, l99, l103, l104, l113]
    refine ⟨fun z => key 4 (by omega) (by rw [z]; rfl), fun z => key 0 (by omega) (by rw [z]; rfl), fun z => key 1 (by omega) (by rw [z]; rfl), fun z => key 2 (by omega) (by rw [z]; rfl), fun z => key 3 (by omega) (by rw [z]; rfl), fun n1 n2 n3 n4 n5 => ⟨fun q => absurd rfl q, fun _ => pg_80n (h0 (pg_n3 k7 ?_))⟩⟩
    unfold pg_kd
    rw [if_neg n1, if_neg n2, if_neg n3, if_neg n4, if_neg n5]
  · rw [nI_lit (c := 59) (by decide) (by omega) (by omega)] at q
    unfold w_X5_accept_2_J38
    exact pg_80n (h0 (pg_n2 e7 q))
  · rw [nI_lit (c := 59) (by decide) (by omega) (by omega)] at q
    unfold w_X5_accept_2_J38
    refine pg_80y (k := k) c3 (fun I2 e2 => h1 _ (pg_s2 e7 q) I2 F (fun j hj => ?_) (fun _ _ => rfl) ⟨?_, fun z => ?_, fun z => ?_, ?_, ?_, cT⟩)
    · rw [e2, pk_un (fun z => by subst z; exact hj (by decide))]
    · rw [e2, pk_us]
    · rw [e2, pk_un (by decide)]; exact c4 z
    · rw [e2, pk_un (by decide)]; exact c4' z
    · rw [e2, pk_un (by decide), c5, show min (k + 1) 7 = min k 7 by omega]
    · rw [e2, pk_un (by decide)]; exact c6
  · -- a position
    have k7 : k < 7 := by omega
    unfold w_X5_acceptPosition_2
    intro v1 e1
    have s48 : v1.toInt = (G k : Int) - 48 := by rw [e1, show (48 : Int32) = nI 48 by decide, pk_sub_toInt (by omega) (by omega)]; rfl
    unfold w_X8_isPosition
    have no0 : ¬ (48 ≤ G k ∧ G k ≤ 50) → ((¬ (0 : Int32) = 0 → ∀ I4 : Nat → Int32, I4 = upd I 5 (((I 5) * (3 : Int32)) + v1) → w_X5_accept_2_J80 (1 : Int32) I4 F post) ∧ ((0 : Int32) = 0 → w_X5_accept_2_J80 (0 : Int32) I F post)) := fun z => ⟨fun q => absurd rfl q, fun _ => pg_80n (h0 (pg_n1 k7 z))⟩
    refine ⟨fun q => no0 (fun z => ?_), fun q => ⟨fun q3 => no0 (fun z => ?_), fun q3 => ⟨fun _ I4 e4 => ?_, fun q => absurd q (by decide)⟩⟩⟩
    · rw [Int32.lt_iff_toInt_lt, s48, show (0 : Int32).toInt = 0 by decide] at q
      omega
    · rw [Int32.le_iff_toInt_le, s48, show (3 : Int32).toInt = 3 by decide] at q3
      omega
    · rw [Int32.lt_iff_toInt_lt, s48, show (0 : Int32).toInt = 0 by decide] at q
      rw [Int32.le_iff_toInt_le, s48, show (3 : Int32).toInt = 3 by decide] at q3
      have ev : v1 = nI (G k - 48) := by rw [e1, show (48 : Int32) = nI 48 by decide, pk_sub (by omega)]
      have m1 : min k 7 = k := by omega
      have m2 : min (k + 1) 7 = k + 1 := by omega
      refine pg_80y (k := k) (by rw [e4, pk_un (by decide)]; exact c3) (fun I2 e2 => h1 _ (pg_s1 k7 ⟨by omega, by omega⟩) I2 F (fun j hj => ?_) (fun _ _ => rfl) ⟨?_, fun z => ?_, fun z => ?_, ?_, ?_, cT⟩)
      · rw [e2, pk_un (fun z => by subst z; exact hj (by decide)), e4, pk_un (fun z => by subst z; exact hj (by decide))]
      · rw [e2, pk_us]
      · rw [e2, pk_un (by decide), e4, pk_un (by decide)]; exact c4 z
      · rw [e2, pk_un (by decide), e4, pk_un (by decide)]; exact c4' z
      · rw [e2, pk_un (by decide), e4, pk_us, c5, m1, m2, ev, show (3 : Int32) = nI 3 by decide, pk_mul, nI_add]
        show nI (pg_bg G k * 3 + (G k - 48)) = nI (3 * pg_bg G k + (G k - 48))
        rw [Nat.mul_comm]
      · rw [e2, pk_un (by decide), e4, pk_un (by decide)]; exact c6
end
theorem kI_mem {s : List Nat} {I I2 : Nat → Int32} (h : kI s I I2) {j : Nat} (hj : j ∉ s) : I2 j = I j := h j hj
theorem kF_trans' {s : List Nat} {F F2 F3 : Nat → Nat → Int32} (h1 : kF s F F2) (h2 : kF s F2 F3) : kF s F F3 := fun j hj => (h2 j hj).trans (h1 j hj)
theorem s_readBy {G : Nat → Nat} {g j : Nat} {st : Nat × Nat × (Nat → Nat) × (Nat → Nat)} {I : Nat → Int32} {F : Nat → Nat → Int32} {post : Int32 → (Nat → Int32) → (Nat → Nat → Int32) → Prop} (hg : g ≤ 56) (hG : ∀ x, x < g → F 14 x = nI (G x) ∧ G x ≤ 126) (c2 : I 2 = nI g) (hj : j ≤ g) (hs : pg_rs G j = some st) (he : j < g → pg_rs G (j + 1) = none)
    (hp : ∀ I2 F2, kI [3, 4, 5, 6] I I2 → kF [15, 16] F F2 → pg_C G j st I2 F2 → post (nI j) I2 F2) : w_X1_readBy_1_2 I F post := by
  unfold w_X1_readBy_1_2 w_X5_restart_2 w_X2_clear_3
  intro I1 e1 I2 e2 I3 e3 I4 e4
  have k0 : kI [3, 4, 5, 6] I I4 := fun x hx => by rw [e4, pk_un (fun z => by subst z; exact hx (by decide)), e3, pk_un (fun z => by subst z; exact hx (by decide)), e2, pk_un (fun z => by subst z; exact hx (by decide)), e1, pk_un (fun z => by subst z; exact hx (by decide))]
  have C0 : pg_C G 0 (0, 0, fun _ => 0, fun _ => 0) I4 F := by
    refine ⟨?_, fun _ => ?_, fun z => absurd rfl z, ?_, ?_, fun x hx => absurd (show x < 0 from hx) (by omega)⟩
    · rw [e4, pk_un (by decide), e3, pk_us]; rfl
    · rw [e4, pk_us]
    · rw [e4, pk_un (by decide), e3, pk_un (by decide), e2, pk_un (by decide), e1, pk_us]; rfl
    · rw [e4, pk_un (by decide), e3, pk_un (by decide), e2, pk_us]; rfl
  refine gL_inv (fun i v => v.1 = nI i ∧ kI [3, 4, 5, 6] I v.2.1 ∧ kF [15, 16] F v.2.2 ∧ ∃ si, pg_rs G i = some si ∧ pg_C G i si v.2.1 v.2.2) j ?_ ?_ ⟨rfl, k0, fun _ _ => rfl, _, rfl, C0⟩
  · rintro i hi ⟨x1, J, L⟩ ⟨g1, gI, gF, si, gs, gC⟩ again hag
    dsimp only at g1 gI gF gC ⊢
    subst g1
    unfold w_X1_readBy_1_2_B6
    have j2 : J 2 = nI g := by rw [gI 2 (by decide)]; exact c2
    rw [j2, nI_clamp (by omega), gF 14 (by decide), (hG i (by omega)).1]
    refine ⟨fun q => absurd ((nI_leI (a := g) (b := i) (by omega) (by omega)).mp q) (by omega), fun _ => ⟨vp_in_nI (by omega) (by decide), pg_acc (k := i) (by omega) (hG i (by omega)).2 (pg_rsP i si gs) gC (fun s2 hs2 I2 F2 a1 a2 a3 => ⟨fun _ => hag _ ⟨nI_1 i, kI_trans gI a1, kF_trans' gF a2, s2, by rw [pg_rsS gs]; exact hs2, a3⟩, fun q => absurd q (by decide)⟩) (fun hn => ?_)⟩⟩
    obtain ⟨s2, hs2⟩ := pg_rsL (i := i + 1) j st (by omega) hs
    rw [pg_rsS gs, hn] at hs2
    cases hs2
  · rintro ⟨x1, J, L⟩ ⟨g1, gI, gF, si, gs, gC⟩ again
    dsimp only at g1 gI gF gC ⊢
    subst g1
    rw [hs] at gs
    cases gs
    unfold w_X1_readBy_1_2_B6
    have j2 : J 2 = nI g := by rw [gI 2 (by decide)]; exact c2
    rw [j2, nI_leI (by omega) (by omega), nI_clamp (by omega)]
    refine ⟨fun q => ?_, fun q => ?_⟩
    · have : g = j := by omega
      subst this
      show post (J 2) J L
      rw [j2]
      exact hp J L gI gF gC
    · rw [gF 14 (by decide), (hG j (by omega)).1]
      refine ⟨vp_in_nI (by omega) (by decide), pg_acc (k := j) (by omega) (hG j (by omega)).2 (pg_rsP j st hs) gC (fun s2 hs2 I2 F2 a1 a2 a3 => ?_) (fun _ => ⟨fun q => absurd rfl q, fun _ => hp J L gI gF gC⟩)⟩
      have hh := he (by omega)
      rw [pg_rsS hs, hs2] at hh
      cases hh
