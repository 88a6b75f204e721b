/-! sorts left, what to ask -/
def soN (A B : Nat → Int32) (a : Int32) : Nat → Int32
  | 0 => 31
  | j + 1 => if A j = a then soN A B a j &&& B j else soN A B a j
theorem soN_lt (A B : Nat → Int32) (a : Int32) : ∀ j, ∃ t, t < 32 ∧ soN A B a j = nI t
  | 0 => ⟨31, by omega, rfl⟩
  | j + 1 => by
    obtain ⟨t, ht, e⟩ := soN_lt A B a j
    have e2 : soN A B a (j + 1) = if A j = a then soN A B a j &&& B j else soN A B a j := rfl
    rw [e2, e]
    by_cases h : A j = a
    · rw [if_pos h]
      have e3 : nI t &&& B j = (nI t &&& B j) &&& (31 : Int32) := by
        have e4 : nI t &&& (31 : Int32) = nI t := by
          rw [pk_andN (k := 5) (by omega) (by decide)]
          exact congrArg nI (by omega)
        rw [Int32.and_assoc, Int32.and_comm (B j), ← Int32.and_assoc, e4]
      obtain ⟨u, hu, e5⟩ := pk_andE (nI t &&& B j) (m := (31 : Int32)) 5 (by decide)
      exact ⟨u, by omega, e3.trans e5⟩
    · rw [if_neg h]
      exact ⟨t, ht, rfl⟩
theorem s_sorts {a : Int32} {w : Nat} {I : Nat → Int32} {F : Nat → Nat → Int32} {post : Int32 → Prop} (hw : w ≤ 6) (h11 : I 11 = nI w) (h : post (soN (F 21) (F 22) a w)) : w_X6_sortsOf_6 a I F post := by
  unfold w_X6_sortsOf_6
  refine gL_inv (fun j v => v.2 = nI j ∧ v.1 = soN (F 21) (F 22) a j) w ?_ ?_ ⟨rfl, rfl⟩
  · rintro j hj ⟨x1, x2⟩ ⟨g2, g1⟩ again hag
    dsimp only at g1 g2 ⊢
    subst g1
    subst g2
    unfold w_X6_sortsOf_6_B5
    have hv : vp_in (nI j) 6 := vp_in_nI (by omega) (by decide)
    have e2 : soN (F 21) (F 22) a (j + 1) = if F 21 j = a then soN (F 21) (F 22) a j &&& F 22 j else soN (F 21) (F 22) a j := rfl
    rw [h11, nI_clamp (by omega)]
    refine ⟨fun q => absurd ((nI_leI (a := w) (b := j) (by omega) (by omega)).mp q) (by omega), fun _ => ⟨hv, fun q => hag _ ⟨nI_1 j, ?_⟩, fun q => ⟨hv, fun v3 e3 => hag _ ⟨nI_1 j, ?_⟩⟩⟩⟩
    · rw [e2, if_neg q]
    · rw [e2, if_pos q]
      exact e3
  · rintro ⟨x1, x2⟩ ⟨g2, g1⟩ again
    dsimp only at g1 g2 ⊢
    subst g1
    subst g2
    unfold w_X6_sortsOf_6_B5
    rw [h11]
    exact ⟨fun _ => h, fun q => absurd (Int32.le_refl _) q⟩
theorem m_sorts {a : Int32} {w : Nat} {A B : Nat → Int32} {I : Nat → Int32} {F : Nat → Nat → Int32} {hs : Int64} {post : Int32 → Prop} (hw : w ≤ 6) (h11 : I 11 = nI w) (hS : SR w A B (F 22)) (h : post (soN A B a w)) : w_X9_sortsOf a I F hs post := by
  unfold w_X9_sortsOf
  refine gL_inv (fun j v => v.2 = nI (3 * j) ∧ v.1 = soN A B a j) w ?_ ?_ ⟨rfl, rfl⟩
  · rintro j hj ⟨x1, x2⟩ ⟨g2, g1⟩ again hag
    dsimp only at g1 g2 ⊢
    subst g1
    subst g2
    unfold w_X9_sortsOf_B5 w_X9_sortsBy
    have hv : vp_in (nI (3 * j)) 18 := vp_in_nI (by omega) (by decide)
    have hv1 : vp_in (nI (3 * j + 1)) 18 := vp_in_nI (by omega) (by decide)
    have hv2 : vp_in (nI (3 * j + 2)) 18 := vp_in_nI (by omega) (by decide)
    have e2 : soN A B a (j + 1) = if A j = a then soN A B a j &&& B j else soN A B a j := rfl
    obtain ⟨s1, q, hq, s2, s3⟩ := hS j hj
    have e3 : nI (3 * j) + (3 : Int32) = nI (3 * (j + 1)) := by
      rw [show (3 : Int32) = nI 3 by decide, nI_add]
      exact congrArg nI (by omega)
    rw [h11, show (3 : Int32) * nI w = nI (3 * w) by rw [show (3 : Int32) = nI 3 by decide, pk_mul], show nI (3 * j) + (1 : Int32) = nI (3 * j + 1) from nI_1 _, show nI (3 * j) + (2 : Int32) = nI (3 * j + 2) by rw [show (2 : Int32) = nI 2 by decide, nI_add], nI_clamp (n := 3 * j) (by omega), nI_clamp (n := 3 * j + 1) (by omega), nI_clamp (n := 3 * j + 2) (by omega), ← s1, s2]
    have fin : ∀ r3 : Int32, r3 = tabK q → vp_in (nI (3 * j + 2)) 18 ∧ ((¬ F 22 (3 * j + 2) = (1 : Int32) → ∀ v5 : Int32, v5 = (soN A B a j &&& ((31 : Int32) - r3)) → A j = a → again (v5, nI (3 * j) + (3 : Int32))) ∧ (F 22 (3 * j + 2) = (1 : Int32) → ∀ v6 : Int32, v6 = (soN A B a j &&& r3) → A j = a → again (v6, nI (3 * j) + (3 : Int32)))) := by
      intro r3 hr
      refine ⟨hv2, fun z v5 e5 hA => hag _ ⟨e3, ?_⟩, fun z v6 e6 hA => hag _ ⟨e3, ?_⟩⟩
      · rcases s3 with ⟨s4, -⟩ | ⟨-, s5⟩
        · exact absurd s4 z
        · show v5 = _
          rw [e2, if_pos hA, e5, hr, s5]
      · rcases s3 with ⟨-, s5⟩ | ⟨s4, -⟩
        · show v6 = _
          rw [e2, if_pos hA, e6, hr, s5]
        · exact absurd (s4.symm.trans z) (by decide)
    refine ⟨fun q => absurd ((nI_leI (a := 3 * w) (b := 3 * j) (by omega) (by omega)).mp q) (by omega), fun _ => ⟨hv, fun z => hag _ ⟨e3, ?_⟩, fun z => ⟨hv1, ?_⟩⟩⟩
    · rw [e2, if_neg z]
    · rcases kd4 hq with rfl | rfl | rfl | rfl
      · exact ⟨fun _ => ⟨hv2, fun z2 v5 e5 => (fin 29 rfl).2.1 z2 v5 e5 z, fun z2 v5 e5 => (fin 29 rfl).2.2 z2 v5 e5 z⟩, fun x => absurd x (by decide), fun x => absurd x (by decide), fun x => absurd rfl x⟩
      · exact ⟨fun x => absurd x (by decide), fun _ => ⟨hv2, fun z2 v5 e5 => (fin 11 rfl).2.1 z2 v5 e5 z, fun z2 v5 e5 => (fin 11 rfl).2.2 z2 v5 e5 z⟩, fun x => absurd x (by decide), fun _ x => absurd rfl x⟩
      · exact ⟨fun x => absurd x (by decide), fun x => absurd x (by decide), fun _ => ⟨hv2, fun z2 v5 e5 => (fin 7 rfl).2.1 z2 v5 e5 z, fun z2 v5 e5 => (fin 7 rfl).2.2 z2 v5 e5 z⟩, fun _ _ x => absurd rfl x⟩
      · exact ⟨fun x => absurd x (by decide), fun x => absurd x (by decide), fun x => absurd x (by decide), fun _ _ _ => ⟨hv2, fun z2 v5 e5 => (fin 15 rfl).2.1 z2 v5 e5 z, fun z2 v5 e5 => (fin 15 rfl).2.2 z2 v5 e5 z⟩⟩
  · rintro ⟨x1, x2⟩ ⟨g2, g1⟩ again
    dsimp only at g1 g2 ⊢
    subst g1
    subst g2
    unfold w_X9_sortsOf_B5
    rw [h11, show (3 : Int32) * nI w = nI (3 * w) by rw [show (3 : Int32) = nI 3 by decide, pk_mul]]
    exact ⟨fun _ => h, fun q => absurd (Int32.le_refl _) q⟩
def tkN (q : Nat) : Nat := if q = 0 then 29 else if q = 1 then 11 else if q = 2 then 7 else 15
theorem tabK_at {q : Nat} (h : q < 4) : tabK q = nI (tkN q) := by rcases kd4 h with rfl | rfl | rfl | rfl <;> rfl
def mxN (t q : Nat) : Nat := if pcn (t &&& tkN q) 12 < pcn t 12 - pcn (t &&& tkN q) 12 then pcn t 12 - pcn (t &&& tkN q) 12 else pcn (t &&& tkN q) 12
def aqN (t : Nat) : Nat → Int32 × Nat
  | 0 => (-1, 6)
  | j + 1 => if (aqN t j).2 ≤ mxN t j then aqN t j else (nI j, mxN t j)
theorem aq_all : ∀ t, t < 32 → ∀ q, q < 4 → (nI t &&& (tabK q ^^^ (-1 : Int32))) = nI (t &&& (31 - tkN q)) ∧ pcn (t &&& (31 - tkN q)) 12 = pcn t 12 - pcn (t &&& tkN q) 12 ∧ pcn (t &&& tkN q) 12 ≤ pcn t 12 := by decide +kernel
theorem aq_le (t : Nat) : ∀ j, (aqN t j).2 ≤ 6
  | 0 => Nat.le_refl _
  | j + 1 => by
    have ih := aq_le t j
    have e : aqN t (j + 1) = if (aqN t j).2 ≤ mxN t j then aqN t j else (nI j, mxN t j) := rfl
    rw [e]
    by_cases h : (aqN t j).2 ≤ mxN t j
    · rw [if_pos h]; exact ih
    · rw [if_neg h]
      show mxN t j ≤ 6
      omega
theorem mx_le (t q : Nat) : mxN t q ≤ 12 := by
  have h1 := pcn_le t 12
  have h2 := pcn_le (t &&& tkN q) 12
  unfold mxN
  split <;> omega
theorem s_ask {a : Int32} {w : Nat} {I : Nat → Int32} {F : Nat → Nat → Int32} {post : Int32 → Prop} (hw : w ≤ 6) (h11 : I 11 = nI w) (h : ∀ t, t < 32 → soN (F 21) (F 22) a w = nI t → post (if t = 0 then -1 else (aqN t 4).1)) : w_X6_nextQuestion_6 a I F post := by
  unfold w_X6_nextQuestion_6
  refine s_sorts hw h11 ?_
  obtain ⟨t, ht, e⟩ := soN_lt (F 21) (F 22) a w
  have hh := h t ht e
  rw [e, nI_is0 (by omega)]
  refine ⟨fun hne => ?_, fun he => by rw [if_pos he] at hh; exact hh⟩
  rw [if_neg hne] at hh
  refine gL_inv (fun j v => v.2.2 = nI j ∧ v.1 = (aqN t j).1 ∧ v.2.1 = nI (aqN t j).2) 4 ?_ ?_ ⟨rfl, rfl, rfl⟩
  · rintro j hj ⟨x1, x2, x3⟩ ⟨g3, g1, g2⟩ again hag
    dsimp only at g1 g2 g3 ⊢
    subst g1
    subst g2
    subst g3
    have e2 : aqN t (j + 1) = if (aqN t j).2 ≤ mxN t j then aqN t j else (nI j, mxN t j) := rfl
    have hle := aq_le t j
    have hmx := mx_le t j
    obtain ⟨c1, c2, c3⟩ := aq_all t ht j hj
    have p1 := pcn_le (t &&& tkN j) 12
    have p2 := pcn_le t 12
    have b1 : t &&& tkN j ≤ t := Nat.and_le_left
    have b2 : t &&& (31 - tkN j) ≤ t := Nat.and_le_left
    unfold w_X6_nextQuestion_6_B21 w_X6_leftAtWorst
    rw [nI_clamp (by omega), c1, tabK_at hj, fa_and]
    refine ⟨fun q => absurd ((nI_leI (a := 4) (by omega) (by omega)).mp q) (by omega), fun _ => ⟨vp_in_nI hj (by decide), s_bits (by omega) (s_bits (by omega) ?_)⟩⟩
    rw [c2]
    have em : (if nI (pcn (t &&& tkN j) 12) < nI (pcn t 12 - pcn (t &&& tkN j) 12) then nI (pcn t 12 - pcn (t &&& tkN j) 12) else nI (pcn (t &&& tkN j) 12)) = nI (mxN t j) := by
      unfold mxN
      have lt : nI (pcn (t &&& tkN j) 12) < nI (pcn t 12 - pcn (t &&& tkN j) 12) ↔ pcn (t &&& tkN j) 12 < pcn t 12 - pcn (t &&& tkN j) 12 := by
        rw [Int32.lt_iff_toInt_lt, nI_toInt (by omega), nI_toInt (by omega)]
        omega
      by_cases z : pcn (t &&& tkN j) 12 < pcn t 12 - pcn (t &&& tkN j) 12
      · rw [if_pos (lt.mpr z), if_pos z]
      · rw [if_neg (fun x => z (lt.mp x)), if_neg z]
    rw [em]
    dsimp only
    rw [nI_leI (by omega) (by omega)]
    refine ⟨fun q => hag _ ⟨nI_1 j, ?_⟩, fun q => hag _ ⟨nI_1 j, ?_⟩⟩
    · rw [e2, if_pos q]
      exact ⟨rfl, rfl⟩
    · rw [e2, if_neg q]
      exact ⟨rfl, rfl⟩
  · rintro ⟨x1, x2, x3⟩ ⟨g3, g1, g2⟩ again
    dsimp only at g1 g2 g3 ⊢
    subst g1
    subst g3
    unfold w_X6_nextQuestion_6_B21
    exact ⟨fun _ => hh, fun q => absurd (by decide) q⟩
theorem m_ask {a : Int32} {w : Nat} {A B : Nat → Int32} {I : Nat → Int32} {F : Nat → Nat → Int32} {hs : Int64} {post : Int32 → Prop} (hw : w ≤ 6) (h11 : I 11 = nI w) (hS : SR w A B (F 22)) {t : Nat} (ht : t < 32) (e : soN A B a w = nI t) (hh : post (if t = 0 then -1 else (aqN t 4).1)) : w_X9_askOf a I F hs post := by
  unfold w_X9_askOf
  refine m_sorts hw h11 hS ?_
  rw [e]
  by_cases h0 : t = 0
  · rw [if_pos h0] at hh
    subst h0
    refine gL_inv (fun j v => v.2.2 = nI 0 ∧ v.1 = -1) 0 (fun j hj => absurd hj (by omega)) ?_ ⟨rfl, rfl⟩
    rintro ⟨x1, x2, x3⟩ ⟨g3, g1⟩ again
    dsimp only at g1 g3 ⊢
    subst g1
    unfold w_X9_askOf_B15
    exact ⟨fun _ => hh, fun _ => ⟨fun _ => hh, fun q => absurd rfl q⟩⟩
  · rw [if_neg h0] at hh
    refine gL_inv (fun j v => v.2.2 = nI j ∧ v.1 = (aqN t j).1 ∧ v.2.1 = nI (aqN t j).2) 4 ?_ ?_ ⟨rfl, rfl, rfl⟩
    · rintro j hj ⟨x1, x2, x3⟩ ⟨g3, g1, g2⟩ again hag
      dsimp only at g1 g2 g3 ⊢
      subst g1
      subst g2
      subst g3
      have e2 : aqN t (j + 1) = if (aqN t j).2 ≤ mxN t j then aqN t j else (nI j, mxN t j) := rfl
      have hle := aq_le t j
      have hmx := mx_le t j
      obtain ⟨c1, c2, c3⟩ := aq_all t ht j hj
      have p2 := pcn_le t 12
      have b1 : t &&& tkN j ≤ t := Nat.and_le_left
      have keep : (aqN t j).2 ≤ mxN t j → again ((aqN t j).1, nI (aqN t j).2, nI j + (1 : Int32)) := fun q => hag _ ⟨nI_1 j, by rw [e2, if_pos q]; exact ⟨rfl, rfl⟩⟩
      have take : ¬ (aqN t j).2 ≤ mxN t j → again (nI j, nI (mxN t j), nI j + (1 : Int32)) := fun q => hag _ ⟨nI_1 j, by rw [e2, if_neg q]; exact ⟨rfl, rfl⟩⟩
      unfold mxN at keep take
      unfold w_X9_askOf_B15
      refine ⟨fun q => absurd ((nI_leI (a := 4) (by omega) (by omega)).mp q) (by omega), fun _ => ⟨fun q => absurd ((nI_is0 (by omega)).mp q) h0, fun _ => ?_⟩⟩
      have sb : ∀ post : Int32 → Prop, post (nI (tkN j)) → w_X9_sortsBy (nI j) I F hs post := by
        intro post hp
        unfold w_X9_sortsBy
        rcases kd4 hj with rfl | rfl | rfl | rfl
        · exact ⟨fun _ => hp, fun x => absurd x (by decide), fun x => absurd x (by decide), fun x => absurd rfl x⟩
        · exact ⟨fun x => absurd x (by decide), fun _ => hp, fun x => absurd x (by decide), fun _ x => absurd rfl x⟩
        · exact ⟨fun x => absurd x (by decide), fun x => absurd x (by decide), fun _ => hp, fun _ _ x => absurd rfl x⟩
        · exact ⟨fun x => absurd x (by decide), fun x => absurd x (by decide), fun x => absurd x (by decide), fun _ _ _ => hp⟩
      refine sb _ ?_
      rw [fa_and]
      refine m_ones (by omega) (m_ones (by omega) (fun v6 e6 => ?_))
      rw [pk_sub c3] at e6
      subst e6
      generalize pcn (t &&& tkN j) 12 = u at *
      generalize pcn t 12 = v at *
      rw [nI_leI (by omega) (by omega), nI_leI (by omega) (by omega), nI_leI (by omega) (by omega)]
      refine ⟨fun q => ?_, fun q => ?_⟩
      · by_cases z : u < v - u
        · rw [if_pos z] at keep take
          exact ⟨fun x => ⟨fun _ => keep x, fun y => absurd x y⟩, fun x => ⟨fun y => absurd y x, fun _ => take x⟩⟩
        · rw [if_neg z, show u = v - u by omega] at keep take
          exact ⟨fun x => ⟨fun _ => keep x, fun y => absurd x y⟩, fun x => ⟨fun y => absurd y x, fun _ => take x⟩⟩
      · have z : ¬ u < v - u := by omega
        rw [if_neg z] at keep take
        exact ⟨fun x => ⟨fun _ => keep x, fun y => absurd x y⟩, fun x => ⟨fun y => absurd y x, fun _ => take x⟩⟩
    · rintro ⟨x1, x2, x3⟩ ⟨g3, g1, g2⟩ again
      dsimp only at g1 g2 g3 ⊢
      subst g1
      subst g3
      unfold w_X9_askOf_B15
      exact ⟨fun _ => hh, fun q => absurd (by decide) q⟩
