/-! chords drawn: the best next setting, on both sides -/
def plF (s : Nat) (W : Int32) (o : Nat) : Prop := o < 63 ∧ fitI (hasR (af s o) 7) 0 W = true
def plM (s : Nat) (W : Int32) (o : Nat) : Prop := plF s W o ∧ ∀ o2, plF s W o2 → mv o < mv o2 ∨ (mv o = mv o2 ∧ af s o ≤ af s o2)
noncomputable def plB (s : Nat) (W : Int32) : Option (Nat × Nat) := match Classical.propDecidable (∃ o, plM s W o) with
  | .isTrue h => some (af s h.choose, mv h.choose)
  | .isFalse _ => none
theorem plB_y {s : Nat} {W : Int32} {o : Nat} (h : plM s W o) : plB s W = some (af s o, mv o) := by
  unfold plB
  cases Classical.propDecidable (∃ o, plM s W o) with
  | isFalse n => exact absurd ⟨o, h⟩ n
  | isTrue e =>
    have h2 := e.choose_spec
    show some (af s e.choose, mv e.choose) = some (af s o, mv o)
    rcases h.2 _ h2.1 with a | ⟨a1, a2⟩
    · rcases h2.2 _ h.1 with b | ⟨b1, b2⟩ <;> omega
    · rcases h2.2 _ h.1 with b | ⟨b1, b2⟩
      · omega
      · rw [b1, show af s e.choose = af s o by omega]
theorem plB_n {s : Nat} {W : Int32} (h : ∀ o, ¬ plF s W o) : plB s W = none := by
  unfold plB
  cases Classical.propDecidable (∃ o, plM s W o) with
  | isFalse n => rfl
  | isTrue e => exact absurd e.choose_spec.1 (h _)
theorem mv_le2 (o : Nat) : mv o ≤ 2 := by unfold mv m1; split <;> split <;> omega
theorem canS_0 (s o : Nat) : canS (hT 0) s o = true := by
  have e : ∀ p d, hT 0 p d = false := fun p d => b_0 _
  unfold canS
  rw [e, e]
  simp
theorem s_play {s : Nat} {W : Int32} {I : Nat → Int32} {F : Nat → Nat → Int32} {post : (Nat → Int32) → (Nat → Nat → Int32) → Prop} (hs : s < 2187) (h20 : I 20 = nI s) (h23 : I 23 = nI 2) (hh : ∀ p d, p < 7 → d < 3 → hbI (I 24) p d = hT 0 p d) (hT2 : ∀ s, s < 2187 → F 25 s = hasR s 7)
    (h0 : plB s W = none → post I F) (h1 : ∀ t y, plB s W = some (t, y) → ∀ I2 : Nat → Int32, I2 = upd (upd (upd I 20 (nI t)) 21 (I 21 + 1)) 22 (I 22 + nI y) → post I2 F) : w_X4_playChord_11 W I F post := by
  unfold w_X4_playChord_11
  refine gL_inv (fun j v => v.2.2 = nI j ∧ ((v.1 = -1 ∧ v.2.1 = nI 7 ∧ ∀ o, plF s W o → ¬ af s o < j) ∨ ∃ o, plF s W o ∧ af s o < j ∧ v.1 = nI (af s o) ∧ v.2.1 = nI (mv o) ∧ ∀ o2, plF s W o2 → af s o2 < j → mv o < mv o2 ∨ (mv o = mv o2 ∧ af s o ≤ af s o2))) 2187 ?_ ?_ ⟨rfl, Or.inl ⟨rfl, rfl, fun o _ => by omega⟩⟩
  · rintro j hj ⟨x2, x3, x4⟩ ⟨g4, gg⟩ again hag
    dsimp only at g4 gg ⊢
    subst g4
    unfold w_X4_playChord_11_B8
    rw [h20]
    have same : (∀ o, plF s W o → ¬ af s o = j) → again (x2, x3, nI j + 1) := by
      intro hno
      refine hag _ ⟨nI_1 j, ?_⟩
      rcases gg with ⟨a1, a2, a3⟩ | ⟨o, a1, a2, a3, a4, a5⟩
      · exact Or.inl ⟨a1, a2, fun o ho hl => by have := a3 o ho; have := hno o ho; omega⟩
      · exact Or.inr ⟨o, a1, by omega, a3, a4, fun o2 ho2 hl => a5 o2 ho2 (by have := hno o2 ho2; omega)⟩
    refine ⟨fun q => absurd ((nI_leI (a := 2187) (by omega) (by omega)).mp q) (by omega), fun _ => s_fits hj (hT2 j hj) (fun hf => ⟨fun q => absurd q (by decide), fun _ => ?_⟩) (fun hf => ⟨fun _ => same (fun o ho e => ?_), fun q => absurd rfl q⟩)⟩
    · refine s_moves12 (M := 2) (hbf := hT 0) hs hj h23 (by omega) hh (fun o ho he _ _ => ?_) (fun hno => ⟨fun _ => same (fun o ho e => hno o ho.1 e ⟨mv_le2 o, canS_0 s o⟩), fun q => absurd rfl q⟩)
      have hoF : plF s W o := ⟨ho, by rw [he]; exact hf⟩
      have hm := mv_le2 o
      refine ⟨fun q => ?_, fun _ => ⟨fun q => ?_, fun q => ?_⟩⟩
      · exfalso
        have := congrArg Int32.toInt q
        rw [nI_toInt (by omega), show (-1 : Int32).toInt = -1 by decide] at this
        omega
      · refine hag _ ⟨nI_1 j, ?_⟩
        rcases gg with ⟨a1, a2, a3⟩ | ⟨b, a1, a2, a3, a4, a5⟩
        · exfalso
          rw [a2, nI_leI (by omega) (by omega)] at q
          omega
        · have hmb := mv_le2 b
          rw [a4, nI_leI (by omega) (by omega)] at q
          refine Or.inr ⟨b, a1, by omega, a3, a4, fun o2 ho2 hl => ?_⟩
          by_cases e : af s o2 = j
          · have := af_same ho2.1 ho hs (e.trans he.symm)
            omega
          · exact a5 o2 ho2 (by omega)
      · refine hag _ ⟨nI_1 j, Or.inr ⟨o, hoF, by omega, by show nI j = _; rw [he], rfl, fun o2 ho2 hl => ?_⟩⟩
        by_cases e : af s o2 = j
        · have := af_same ho2.1 ho hs (e.trans he.symm)
          omega
        · rcases gg with ⟨a1, a2, a3⟩ | ⟨b, a1, a2, a3, a4, a5⟩
          · exact absurd (show af s o2 < j by omega) (a3 o2 ho2)
          · have hmb := mv_le2 b
            rw [a4, nI_leI (by omega) (by omega)] at q
            have := a5 o2 ho2 (by omega)
            omega
    · have := ho.2
      rw [e, hf] at this
      cases this
  · rintro ⟨x2, x3, x4⟩ ⟨g4, gg⟩ again
    dsimp only at g4 gg ⊢
    subst g4
    unfold w_X4_playChord_11_B8
    refine ⟨fun _ => ?_, fun q => absurd (by decide) q⟩
    rcases gg with ⟨a1, a2, a3⟩ | ⟨o, a1, a2, a3, a4, a5⟩
    · exact ⟨fun _ => h0 (plB_n (fun o ho => a3 o ho (af_lt ho.1 hs))), fun q => absurd a1 q⟩
    · have hal := af_lt a1.1 hs
      refine ⟨fun q => ?_, fun _ I11 e11 I12 e12 I13 e13 => ?_⟩
      · exfalso
        rw [a3] at q
        have := congrArg Int32.toInt q
        rw [nI_toInt (by omega), show (-1 : Int32).toInt = -1 by decide] at this
        omega
      · refine h1 (af s o) (mv o) (plB_y ⟨a1, fun o2 ho2 => a5 o2 ho2 (af_lt ho2.1 hs)⟩) I13 ?_
        rw [e13, e12, e11, a3, a4, pk_un (by decide), pk_un (by decide), pk_un (by decide)]
theorem m_play {s : Nat} {W : Int32} {I : Nat → Int32} {F : Nat → Nat → Int32} {hz : Int64} {post : Int32 → (Nat → Int32) → (Nat → Nat → Int32) → Int64 → Prop} (hM : mTab F) (hs : s < 2187)
    (h0 : plB s W = none → ∀ I2 : Nat → Int32, I2 = upd I 13 3 → post (-1) I2 F hz) (h1 : ∀ t y, plB s W = some (t, y) → ∀ I2 : Nat → Int32, I2 = upd I 13 (nI y) → post (nI t) I2 F hz) : w_X9_played (nI s) W I F hz post := by
  unfold w_X9_played
  refine gL_inv (fun j v => v.2.2 = nI j ∧ ((v.1 = -1 ∧ v.2.1 = nI 3 ∧ ∀ o, plF s W o → ¬ o < j) ∨ ∃ o, plF s W o ∧ o < j ∧ v.1 = nI (af s o) ∧ v.2.1 = nI (mv o) ∧ ∀ o2, plF s W o2 → o2 < j → mv o < mv o2 ∨ (mv o = mv o2 ∧ af s o ≤ af s o2))) 63 ?_ ?_ ⟨rfl, Or.inl ⟨rfl, rfl, fun o _ => by omega⟩⟩
  · rintro j hj ⟨x3, x4, x5⟩ ⟨g5, gg⟩ again hag
    dsimp only at g5 gg ⊢
    subst g5
    have hal := af_lt hj hs
    have hm := mv_le2 j
    have keep : (∀ o, plF s W o → o = j → ∃ b, plF s W b ∧ b < j ∧ x3 = nI (af s b) ∧ x4 = nI (mv b) ∧ (mv b < mv j ∨ (mv b = mv j ∧ af s b ≤ af s j))) → again (x3, x4, nI j + 1) := by
      intro hk
      refine hag _ ⟨nI_1 j, ?_⟩
      rcases gg with ⟨a1, a2, a3⟩ | ⟨o, a1, a2, a3, a4, a5⟩
      · refine Or.inl ⟨a1, a2, fun o ho hl => ?_⟩
        by_cases e : o = j
        · obtain ⟨b, b1, b2, -⟩ := hk o ho e
          exact a3 b b1 b2
        · exact a3 o ho (by omega)
      · refine Or.inr ⟨o, a1, by omega, a3, a4, fun o2 ho2 hl => ?_⟩
        by_cases e : o2 = j
        · obtain ⟨b, b1, b2, b3, b4, b5⟩ := hk o2 ho2 e
          have q1 := af_lt a1.1 hs
          have q2 := af_lt b1.1 hs
          have q3 := mv_le2 o
          have q4 := mv_le2 b
          have e1 : af s o = af s b := (nI_eq (by omega) (by omega)).mp (a3.symm.trans b3)
          have e2 : mv o = mv b := (nI_eq (by omega) (by omega)).mp (a4.symm.trans b4)
          rw [e, e1, e2]
          exact b5
        · exact a5 o2 ho2 (by omega)
    have take : plF s W j → ((∀ b, plF s W b → b < j → x3 = nI (af s b) → x4 = nI (mv b) → mv j < mv b ∨ (mv j = mv b ∧ af s j ≤ af s b))) → again (nI (af s j), nI (mv j), nI j + 1) := by
      intro hjF hb
      refine hag _ ⟨nI_1 j, Or.inr ⟨j, hjF, by omega, rfl, rfl, fun o2 ho2 hl => ?_⟩⟩
      by_cases e : o2 = j
      · rw [e]; omega
      · rcases gg with ⟨a1, a2, a3⟩ | ⟨o, a1, a2, a3, a4, a5⟩
        · exact absurd (show o2 < j by omega) (a3 o2 ho2)
        · have := hb o a1 a2 a3 a4
          have := a5 o2 ho2 (by omega)
          omega
    unfold w_X9_played_B8
    refine ⟨fun q => absurd ((nI_leI (a := 63) (by omega) (by omega)).mp q) (by omega), fun _ => m_after hM hs hj (m_movedBy hM hj (m_isFitting hM hal (fun hf => ⟨fun q => absurd q (by decide), fun _ => ?_⟩) (fun hf => ⟨fun _ => ⟨fun _ => ⟨fun _ => keep (fun o ho e => ?_), fun q => absurd rfl q⟩, fun q => absurd rfl q⟩, fun q => absurd rfl q⟩)))⟩
    · have hjF : plF s W j := ⟨hj, hf⟩
      refine ⟨fun q => ⟨fun z => absurd z (by decide), fun _ => ⟨fun z => absurd z (by decide), fun _ => take hjF (fun b b1 b2 b3 b4 => ?_)⟩⟩, fun q => ⟨fun q2 => ⟨fun _ => ⟨fun _ => keep (fun o ho e => ?_), fun z => absurd rfl z⟩, fun z => absurd rfl z⟩, fun q2 => ⟨fun q3 => ⟨fun _ => ⟨fun _ => keep (fun o ho e => ?_), fun z => absurd rfl z⟩, fun z => absurd rfl z⟩, fun q3 => ⟨fun z => absurd z (by decide), fun _ => ⟨fun z => absurd z (by decide), fun _ => take hjF (fun b b1 b2 b3 b4 => ?_)⟩⟩⟩⟩⟩
      · have := mv_le2 b
        rw [b4, nI_ltI (by omega) (by omega)] at q
        omega
      · rcases gg with ⟨a1, a2, a3⟩ | ⟨b, a1, a2, a3, a4, a5⟩
        · exfalso
          apply q
          rw [a2, nI_ltI (by omega) (by omega)]
          omega
        · have := mv_le2 b
          refine ⟨b, a1, a2, a3, a4, ?_⟩
          rw [a4, nI_ltI (by omega) (by omega)] at q
          rw [a4, nI_eq (by omega) (by omega)] at q2
          omega
      · rcases gg with ⟨a1, a2, a3⟩ | ⟨b, a1, a2, a3, a4, a5⟩
        · exfalso
          rw [a2, nI_eq (by omega) (by omega)] at q2
          omega
        · have := mv_le2 b
          have := af_lt a1.1 hs
          refine ⟨b, a1, a2, a3, a4, ?_⟩
          rw [a4, nI_eq (by omega) (by omega)] at q2
          rw [a3, nI_leI (by omega) (by omega)] at q3
          omega
      · have := mv_le2 b
        have := af_lt b1.1 hs
        rw [b4, nI_eq (by omega) (by omega)] at q2
        rw [b3, nI_leI (by omega) (by omega)] at q3
        omega
    · exfalso
      have := ho.2
      rw [e, hf] at this
      cases this
  · rintro ⟨x3, x4, x5⟩ ⟨g5, gg⟩ again
    dsimp only at g5 gg ⊢
    subst g5
    unfold w_X9_played_B8
    refine ⟨fun _ I27 e27 => ?_, fun q => absurd (by decide) q⟩
    rcases gg with ⟨a1, a2, a3⟩ | ⟨o, a1, a2, a3, a4, a5⟩
    · rw [a1]
      exact h0 (plB_n (fun o ho => a3 o ho ho.1)) I27 (by rw [e27, a2]; rfl)
    · rw [a3]
      exact h1 _ _ (plB_y ⟨a1, fun o2 ho2 => a5 o2 ho2 ho2.1⟩) I27 (by rw [e27, a4])
/-- the row of drawn chords: the seed, the setting, how many, how many moves -/
def dwN (z : Int32) : Int32 := ((((1103515245 : Int64) * (z.toInt64)) + (12345 : Int64)) &&& (2147483647 : Int64)).toInt32
def dwT (z : Int32) : Int32 := z / (65536 : Int32) - z / (65536 : Int32) / (12 : Int32) * (12 : Int32)
def dwE (z : Int32) : Int32 := z / (65536 : Int32) - z / (65536 : Int32) / (11 : Int32) * (11 : Int32)
def dwO (z : Int32) : Int32 := ((dwT (dwN z) + dwE (dwN (dwN z))) + (1 : Int32)) - ((dwT (dwN z) + dwE (dwN (dwN z))) + (1 : Int32)) / (12 : Int32) * (12 : Int32)
def dwW (z : Int32) : Int32 := ((1 : Int32) <<< (dwT (dwN z) &&& 31)) ||| ((1 : Int32) <<< (dwO z &&& 31))
noncomputable def dwS (z0 : Int32) (b : Nat) : Nat → Int32 × Nat × Int32 × Int32
  | 0 => (z0, b, 0, 0)
  | k + 1 => match plB (dwS z0 b k).2.1 (dwW (dwS z0 b k).1) with
    | none => (dwN (dwN (dwS z0 b k).1), (dwS z0 b k).2.1, (dwS z0 b k).2.2.1, (dwS z0 b k).2.2.2)
    | some ty => (dwN (dwN (dwS z0 b k).1), ty.1, (dwS z0 b k).2.2.1 + 1, (dwS z0 b k).2.2.2 + nI ty.2)
theorem dwS_n {z0 : Int32} {b k : Nat} (h : plB (dwS z0 b k).2.1 (dwW (dwS z0 b k).1) = none) : dwS z0 b (k + 1) = (dwN (dwN (dwS z0 b k).1), (dwS z0 b k).2.1, (dwS z0 b k).2.2.1, (dwS z0 b k).2.2.2) := by
  show (match plB (dwS z0 b k).2.1 (dwW (dwS z0 b k).1) with
    | none => (dwN (dwN (dwS z0 b k).1), (dwS z0 b k).2.1, (dwS z0 b k).2.2.1, (dwS z0 b k).2.2.2)
    | some ty => (dwN (dwN (dwS z0 b k).1), ty.1, (dwS z0 b k).2.2.1 + 1, (dwS z0 b k).2.2.2 + nI ty.2)) = _
  rw [h]
theorem dwS_y {z0 : Int32} {b k t y : Nat} (h : plB (dwS z0 b k).2.1 (dwW (dwS z0 b k).1) = some (t, y)) : dwS z0 b (k + 1) = (dwN (dwN (dwS z0 b k).1), t, (dwS z0 b k).2.2.1 + 1, (dwS z0 b k).2.2.2 + nI y) := by
  show (match plB (dwS z0 b k).2.1 (dwW (dwS z0 b k).1) with
    | none => (dwN (dwN (dwS z0 b k).1), (dwS z0 b k).2.1, (dwS z0 b k).2.2.1, (dwS z0 b k).2.2.2)
    | some ty => (dwN (dwN (dwS z0 b k).1), ty.1, (dwS z0 b k).2.2.1 + 1, (dwS z0 b k).2.2.2 + nI ty.2)) = _
  rw [h]
theorem plB_lt {s : Nat} {W : Int32} {t y : Nat} (hs : s < 2187) (h : plB s W = some (t, y)) : t < 2187 := by
  unfold plB at h
  cases e : Classical.propDecidable (∃ o, plM s W o) with
  | isFalse n => rw [e] at h; cases h
  | isTrue n =>
    rw [e] at h
    cases h
    exact af_lt n.choose_spec.1.1 hs
def dwC (z0 : Int32) (b : Nat) (I : Nat → Int32) (F : Nat → Nat → Int32) (j : Nat) (J : Nat → Int32) (L : Nat → Nat → Int32) : Prop := kI [19, 20, 21, 22, 23, 24] I J ∧ L = F ∧ J 19 = (dwS z0 b j).1 ∧ J 20 = nI (dwS z0 b j).2.1 ∧ (dwS z0 b j).2.1 < 2187 ∧ J 21 = (dwS z0 b j).2.2.1 ∧ J 22 = (dwS z0 b j).2.2.2 ∧ J 23 = nI 2 ∧ ∀ p d, p < 7 → d < 3 → hbI (J 24) p d = hT 0 p d
theorem dwC_n {z0 : Int32} {b j : Nat} {I J I2 : Nat → Int32} {F L : Nat → Nat → Int32} (h : dwC z0 b I F j J L) (n2 : I2 19 = dwN (dwN (dwS z0 b j).1)) (kk : ∀ x, x ≠ 19 → I2 x = J x) (hn : plB (dwS z0 b j).2.1 (dwW (dwS z0 b j).1) = none) : dwC z0 b I F (j + 1) I2 L := by
  obtain ⟨yI, yF, y19, y20, ys, y21, y22, y23, y24⟩ := h
  unfold dwC
  rw [dwS_n hn, n2, kk 20 (by decide), kk 21 (by decide), kk 22 (by decide), kk 23 (by decide), kk 24 (by decide)]
  exact ⟨fun x hx => by rw [kk x (fun z => by subst z; exact hx (by decide))]; exact yI x hx, yF, rfl, y20, ys, y21, y22, y23, y24⟩
theorem dwC_y {z0 : Int32} {b j t y : Nat} {I J I2 I3 : Nat → Int32} {F L : Nat → Nat → Int32} (h : dwC z0 b I F j J L) (n2 : I2 19 = dwN (dwN (dwS z0 b j).1)) (kk : ∀ x, x ≠ 19 → I2 x = J x) (hy : plB (dwS z0 b j).2.1 (dwW (dwS z0 b j).1) = some (t, y)) (e3 : I3 = upd (upd (upd I2 20 (nI t)) 21 (I2 21 + 1)) 22 (I2 22 + nI y)) : dwC z0 b I F (j + 1) I3 L := by
  obtain ⟨yI, yF, y19, y20, ys, y21, y22, y23, y24⟩ := h
  have k3 : ∀ x, x ≠ 20 → x ≠ 21 → x ≠ 22 → I3 x = I2 x := fun x h1 h2 h3 => by rw [e3, pk_un h3, pk_un h2, pk_un h1]
  have v20 : I3 20 = nI t := by rw [e3, pk_un (by decide), pk_un (by decide), pk_us]
  have v21 : I3 21 = (dwS z0 b j).2.2.1 + 1 := by rw [e3, pk_un (by decide), pk_us, kk 21 (by decide), y21]
  have v22 : I3 22 = (dwS z0 b j).2.2.2 + nI y := by rw [e3, pk_us, kk 22 (by decide), y22]
  unfold dwC
  rw [dwS_y hy, v20, v21, v22, k3 19 (by decide) (by decide) (by decide), n2, k3 23 (by decide) (by decide) (by decide), k3 24 (by decide) (by decide) (by decide), kk 23 (by decide), kk 24 (by decide)]
  exact ⟨fun x hx => by rw [k3 x (fun z => by subst z; exact hx (by decide)) (fun z => by subst z; exact hx (by decide)) (fun z => by subst z; exact hx (by decide)), kk x (fun z => by subst z; exact hx (by decide))]; exact yI x hx, yF, rfl, rfl, plB_lt ys hy, rfl, rfl, y23, y24⟩
theorem s_drawStep {a b j : Nat} {z0 : Int32} {I J : Nat → Int32} {F L : Nat → Nat → Int32} {k again : Int32 → (Nat → Int32) → (Nat → Nat → Int32) → Prop} (ha : a ≤ 30) (hj : j < a) (hT2 : ∀ s, s < 2187 → F 25 s = hasR s 7) (h : dwC z0 b I F j J L) (hag : ∀ J2, dwC z0 b I F (j + 1) J2 L → again (nI j + 1) J2 L) : w_X4_playDrawn_11_B32 (nI a) k again (nI j) J L := by
  obtain ⟨yI, yF, y19, y20, ys, y21, y22, y23, y24⟩ := id h
  unfold w_X4_playDrawn_11_B32
  refine ⟨fun q => absurd ((nI_leI (a := a) (b := j) (by omega) (by omega)).mp q) (by omega), fun _ => ?_⟩
  unfold w_X4_nextDraw_11
  intro I1 d1 v5 e5 I2 d2 v9 e9
  have n1 : I1 19 = dwN (dwS z0 b j).1 := by rw [d1, pk_us, y19, dwN]
  have n2 : I2 19 = dwN (dwN (dwS z0 b j).1) := by rw [d2, pk_us, n1]; exact (dwN.eq_1 _).symm
  have e5' : v5 = dwT (dwN (dwS z0 b j).1) := by rw [e5, n1, dwT]
  have e9' : v9 = dwO (dwS z0 b j).1 := by rw [e9, n2, e5', dwO, dwE]
  have kk : ∀ x, x ≠ 19 → I2 x = J x := fun x hx => by rw [d2, pk_un hx, d1, pk_un hx]
  have eW : (((1 : Int32) <<< (v5 &&& 31)) ||| ((1 : Int32) <<< (v9 &&& 31))) = dwW (dwS z0 b j).1 := by rw [e5', e9', dwW]
  rw [eW]
  exact s_play (s := (dwS z0 b j).2.1) ys (by rw [kk 20 (by decide)]; exact y20) (by rw [kk 23 (by decide)]; exact y23) (by rw [kk 24 (by decide)]; exact y24) (by rw [yF]; exact hT2) (fun hn => hag _ (dwC_n h n2 kk hn)) (fun t y hy I3 e3 => hag _ (dwC_y h n2 kk hy e3))
theorem s_playDrawn {a : Nat} {b : Nat} {z0 : Int32} {I : Nat → Int32} {F : Nat → Nat → Int32} {post : (Nat → Int32) → (Nat → Nat → Int32) → Prop} (ha : a ≤ 30) (hb : b < 2187) (hT2 : ∀ s, s < 2187 → F 25 s = hasR s 7)
    (hp : ∀ I2, kI [19, 20, 21, 22, 23, 24] I I2 → I2 19 = (dwS z0 b a).1 → I2 21 = (dwS z0 b a).2.2.1 → I2 22 = (dwS z0 b a).2.2.2 → post I2 F) : w_X4_playDrawn_11 (nI b) (nI a) z0 I F post := by
  unfold w_X4_playDrawn_11
  intro I12 e12 I13 e13 I14 e14 I15 e15
  refine s_gapset12 (fun I16 g1 g2 g3 => ?_)
  have e2 : mostI 0 = 2 := by
    unfold mostI
    rw [if_neg (by decide), if_neg (by decide)]
  rw [e2] at g1
  have C0 : dwC z0 b I F 0 I16 F := by
    refine ⟨fun j hj => ?_, rfl, ?_, ?_, hb, ?_, ?_, g1, g2⟩
    · rw [g3 j (fun z => by subst z; exact hj (by decide)) (fun z => by subst z; exact hj (by decide)), e15, pk_un (fun z => by subst z; exact hj (by decide)), e14, pk_un (fun z => by subst z; exact hj (by decide)), e13, pk_un (fun z => by subst z; exact hj (by decide)), e12, pk_un (fun z => by subst z; exact hj (by decide))]
    · rw [g3 19 (by decide) (by decide), e15, pk_un (by decide), e14, pk_un (by decide), e13, pk_un (by decide), e12, pk_us]
      rfl
    · rw [g3 20 (by decide) (by decide), e15, pk_un (by decide), e14, pk_un (by decide), e13, pk_us]
      rfl
    · rw [g3 21 (by decide) (by decide), e15, pk_un (by decide), e14, pk_us]
      rfl
    · rw [g3 22 (by decide) (by decide), e15, pk_us]
      rfl
  refine gL_inv (fun j v => v.1 = nI j ∧ dwC z0 b I F j v.2.1 v.2.2) a ?_ ?_ ⟨rfl, C0⟩
  · rintro j hj ⟨x4, J, L⟩ ⟨y1, yC⟩ again hag
    dsimp only at y1 yC ⊢
    subst y1
    exact s_drawStep ha hj hT2 yC (fun J2 hC => hag _ ⟨nI_1 j, hC⟩)
  · rintro ⟨x4, J, L⟩ ⟨y1, yC⟩ again
    dsimp only at y1 yC ⊢
    subst y1
    obtain ⟨yI, yF, y19, y20, ys, y21, y22, y23, y24⟩ := yC
    subst yF
    unfold w_X4_playDrawn_11_B32
    exact ⟨fun _ => hp J yI y19 y21 y22, fun q => absurd (Int32.le_refl _) q⟩
theorem dw_comm (x y : Int32) : x + (1 : Int32) + y = x + y + 1 := by
  rw [Int32.add_assoc, Int32.add_comm 1 y, ← Int32.add_assoc]
set_option maxHeartbeats 4000000 in
theorem m_drawnLoop {a b : Nat} {z0 a3 : Int32} {I : Nat → Int32} {F : Nat → Nat → Int32} {hz : Int64} {kk : Int32 → Int32 → Int32 → Int32 → (Nat → Int32) → (Nat → Nat → Int32) → Int64 → Prop} (hM : mTab F) (ha : a ≤ 30) (hb : b < 2187) (h12 : I 12 = z0)
    (hp : ∀ x y I2, kI [12, 13] I I2 → I2 12 = (dwS z0 b a).1 → kk x (dwS z0 b a).2.2.1 (dwS z0 b a).2.2.2 y I2 F hz) : gL (fun ag v => w_X9_drawn_B61 (nI a) a3 kk (fun b0 b1 b2 b3 b4 b5 b6 => ag (b0, b1, b2, b3, b4, b5, b6)) v.1 v.2.1 v.2.2.1 v.2.2.2.1 v.2.2.2.2.1 v.2.2.2.2.2.1 v.2.2.2.2.2.2) (nI b, (0 : Int32), (0 : Int32), (0 : Int32), I, F, hz) := by
  refine gL_inv (fun j v => v.1 = nI (dwS z0 b j).2.1 ∧ (dwS z0 b j).2.1 < 2187 ∧ v.2.1 = (dwS z0 b j).2.2.1 ∧ v.2.2.1 = (dwS z0 b j).2.2.2 ∧ v.2.2.2.1 = nI j ∧ kI [12, 13] I v.2.2.2.2.1 ∧ v.2.2.2.2.1 12 = (dwS z0 b j).1 ∧ v.2.2.2.2.2.1 = F ∧ v.2.2.2.2.2.2 = hz) a ?_ ?_ ⟨rfl, hb, rfl, rfl, rfl, fun _ _ => rfl, h12, rfl, rfl⟩
  · rintro j hj ⟨x4, x5, x6, x7, J, L, hz2⟩ ⟨y4, ys, y5, y6, y7, yI, y12, yF, yz⟩ again hag
    dsimp only at y4 ys y5 y6 y7 yI y12 yF yz ⊢
    subst y4 y5 y6 y7 yF yz
    unfold w_X9_drawn_B61 w_X9_draw
    refine ⟨fun q => absurd ((nI_leI (a := a) (b := j) (by omega) (by omega)).mp q) (by omega), fun _ I1 d1 => ⟨by decide, fun I2 d2 => ⟨by decide, fun v10 e10 => ?_⟩⟩⟩
    have n1 : I1 12 = dwN (dwS z0 b j).1 := by rw [d1, pk_us, y12, dwN]
    have n2 : I2 12 = dwN (dwN (dwS z0 b j).1) := by rw [d2, pk_us, n1]; exact (dwN.eq_1 _).symm
    have t1 : I1 12 / (65536 : Int32) - I1 12 / (65536 : Int32) / (12 : Int32) * (12 : Int32) = dwT (dwN (dwS z0 b j).1) := by rw [n1, dwT]
    have t2 : I2 12 / (65536 : Int32) - I2 12 / (65536 : Int32) / (11 : Int32) * (11 : Int32) = dwE (dwN (dwN (dwS z0 b j).1)) := by rw [n2, dwE]
    rw [t1, t2, dw_comm] at e10
    have e10' : v10 = dwO (dwS z0 b j).1 := by rw [e10, dwO]
    rw [t1, e10']
    have kk2 : kI [12, 13] I I2 := fun x hx => by rw [d2, pk_un (fun z => by subst z; exact hx (by decide)), d1, pk_un (fun z => by subst z; exact hx (by decide))]; exact yI x hx
    refine m_play (s := (dwS z0 b j).2.1) (W := dwW (dwS z0 b j).1) hM ys (fun hn I3 e3 => ?_) (fun t y hy I3 e3 => ?_)
    · refine ⟨fun q => absurd rfl q, fun _ v22 e22 => ⟨fun q => absurd rfl q, fun _ v26 e26 => ⟨fun q => absurd rfl q, fun _ => hag _ ?_⟩⟩⟩
      refine ⟨by rw [dwS_n hn], by rw [dwS_n hn]; exact ys, ?_, ?_, nI_1 j, fun x hx => ?_, ?_, rfl, rfl⟩
      · rw [dwS_n hn]; show v22 = _; rw [e22, Int32.add_zero]
      · rw [dwS_n hn]; show v26 = _; rw [e26, Int32.add_zero]
      · show I3 x = I x
        rw [e3, pk_un (fun z => by subst z; exact hx (by decide))]; exact kk2 x hx
      · rw [dwS_n hn]; show I3 12 = _; rw [e3, pk_un (by decide)]; exact n2
    · have ht := plB_lt ys hy
      have hne : ¬ nI t = (-1 : Int32) := fun q => by
        have := congrArg Int32.toInt q
        rw [nI_toInt (by omega), show (-1 : Int32).toInt = -1 by decide] at this
        omega
      refine ⟨fun _ v16 e16 => ⟨fun _ v18 e18 => ⟨fun _ => hag _ ?_, fun q => absurd q hne⟩, fun q => absurd q hne⟩, fun q => absurd q hne⟩
      refine ⟨by rw [dwS_y hy], by rw [dwS_y hy]; exact ht, ?_, ?_, nI_1 j, fun x hx => ?_, ?_, rfl, rfl⟩
      · rw [dwS_y hy]; exact e16
      · rw [dwS_y hy]; show v18 = _; rw [e18, e3, pk_us]
      · show I3 x = I x
        rw [e3, pk_un (fun z => by subst z; exact hx (by decide))]; exact kk2 x hx
      · rw [dwS_y hy]; show I3 12 = _; rw [e3, pk_un (by decide)]; exact n2
  · rintro ⟨x4, x5, x6, x7, J, L, hz2⟩ ⟨y4, ys, y5, y6, y7, yI, y12, yF, yz⟩ again
    dsimp only at y4 ys y5 y6 y7 yI y12 yF yz ⊢
    subst y4 y5 y6 y7 yF yz
    unfold w_X9_drawn_B61
    exact ⟨fun _ => hp _ _ J yI y12, fun q => absurd (Int32.le_refl _) q⟩
noncomputable def dwV (a3 z0 : Int32) (b a : Nat) : Int32 := if a3 = 0 then (dwS z0 b a).2.2.1 else if a3 = 1 then (dwS z0 b a).2.2.2 else (dwS z0 b a).1
theorem m_drawn {a b n : Nat} {a2 a3 : Int32} {I : Nat → Int32} {F : Nat → Nat → Int32} {hz : Int64} {post : Int32 → (Nat → Int32) → (Nat → Nat → Int32) → Int64 → Prop} (hM : mTab F) (ha : a ≤ 30) (hb : b < 2187) (hn : n ≤ 8) (hn1 : 0 < n) (m3 : I 3 = nI n) (m4 : I 4 = nI b) (go : ∀ post : Int32 → Prop, post 1 → w_X9_in (nI a).toInt64 1 30 I F hz post) (q3 : ¬ a2 < 0) (go2 : ∀ post : Int32 → Prop, post 1 → w_X9_in a3.toInt64 0 2 I F hz post)
    (hp : ∀ I2, kI [12, 13] I I2 → post (dwV a3 a2 b a) I2 F hz) : w_X9_drawn (nI a) a2 a3 I F hz post := by
  unfold w_X9_drawn
  refine go _ ⟨fun q => absurd q (by decide), fun _ => ⟨fun z => absurd z q3, fun _ => go2 _ ⟨fun _ => m_lacks0 m3 hn (fun _ => ⟨fun _ I35 e35 v36 e36 => ?_, fun q => absurd rfl q⟩) (fun z => absurd hn1 (by omega)), fun q => absurd q (by decide)⟩⟩⟩
  have ev : v36 = nI b := by rw [e36, e35, pk_un (by decide)]; exact m4
  subst ev
  refine m_drawnLoop (z0 := a2) hM ha hb (by rw [e35, pk_us]) (fun x y I3 k3 i12 => ?_)
  have hh := hp I3 (fun j hj => by rw [k3 j hj, e35, pk_un (fun z => by subst z; exact hj (by decide))])
  unfold dwV at hh
  refine ⟨fun n0 => ⟨fun n1 => ?_, fun e1 => ?_⟩, fun e0 => ?_⟩
  · rw [if_neg n0, if_neg n1] at hh
    rw [i12]
    exact hh
  · rw [if_neg n0, if_pos e1] at hh
    exact hh
  · rw [if_pos e0] at hh
    exact hh
set_option maxHeartbeats 4000000 in
theorem j_drawn {i : Nat} {a1 a2 a3 : Int32} {Ic Im : Nat → Int32} {Fc Fm : Nat → Nat → Int32} {hm : Int64} (h : RR i Ic Fc Im Fm) : w_X8_drawn a1 a2 a3 Ic Fc (fun r Ic2 Fc2 => w_X9_drawn a1 a2 a3 Im Fm hm (fun r2 Im2 Fm2 hm2 => r = r2 ∧ hm2 = hm ∧ RR i Ic2 Fc2 Im2 Fm2)) := by
  have h0 := h
  obtain ⟨n, b, g, w, p, s, hB, hC⟩ := h
  obtain ⟨hn, hb, hg, hw, hp, hs, ⟨c8, m3, c7, m4, hPR⟩, hPg, hSn, hCn, hKp, hT, hM⟩ := id hB
  have l2 : (2 : Int32) < a3 ↔ ¬ a3 < (3 : Int32) := by
    rw [Int32.lt_iff_toInt_lt, Int32.lt_iff_toInt_lt, show (2 : Int32).toInt = 2 by decide, show (3 : Int32).toInt = 3 by decide]
    omega
  have f1 : (a1 < (1 : Int32) ∨ (30 : Int32) < a1) → w_X9_drawn a1 a2 a3 Im Fm hm (fun r2 Im2 Fm2 hm2 => (-102 : Int32) = r2 ∧ hm2 = hm ∧ RR i Ic Fc Im2 Fm2) := by
    intro z
    unfold w_X9_drawn
    refine in_i (l2 := 1) (h2 := 30) (by decide) (by decide) (fun _ => ⟨fun _ => ⟨rfl, rfl, h0⟩, fun q => absurd rfl q⟩) (fun z1 z2 => ?_)
    rcases z with z | z
    · exact absurd z z1
    · exact absurd z z2
  unfold w_X8_drawn
  refine ⟨fun q1 => f1 (Or.inl q1), fun q1 => ⟨fun q2 => f1 (Or.inr q2), fun q2 => ?_⟩⟩
  have go : ∀ post : Int32 → Prop, post 1 → w_X9_in a1.toInt64 1 30 Im Fm hm post := fun post hp => in_i (l2 := 1) (h2 := 30) (by decide) (by decide) (fun z => by
    exfalso
    rcases z with z | z
    · exact q1 z
    · exact q2 z) (fun _ _ => hp)
  have f2 : a2 < 0 → w_X9_drawn a1 a2 a3 Im Fm hm (fun r2 Im2 Fm2 hm2 => (-102 : Int32) = r2 ∧ hm2 = hm ∧ RR i Ic Fc Im2 Fm2) := by
    intro z
    unfold w_X9_drawn
    exact go _ ⟨fun q => absurd q (by decide), fun _ => ⟨fun _ => ⟨rfl, rfl, h0⟩, fun y => absurd z y⟩⟩
  refine ⟨f2, fun q3 => ?_⟩
  have f3 : (a3 < 0 ∨ ¬ a3 < (3 : Int32)) → w_X9_drawn a1 a2 a3 Im Fm hm (fun r2 Im2 Fm2 hm2 => (-102 : Int32) = r2 ∧ hm2 = hm ∧ RR i Ic Fc Im2 Fm2) := by
    intro z
    unfold w_X9_drawn
    refine go _ ⟨fun q => absurd q (by decide), fun _ => ⟨fun y => absurd y q3, fun _ => in_i (l2 := 0) (h2 := 2) (by decide) (by decide) (fun _ => ⟨fun q => absurd rfl q, fun _ => ⟨rfl, rfl, h0⟩⟩) (fun z1 z2 => ?_)⟩⟩
    rcases z with z | z
    · exact absurd z z1
    · exact absurd (l2.mpr z) z2
  refine ⟨fun q4 => f3 (Or.inl q4), fun q4 => ⟨fun q5 => ?_, fun q5 => f3 (Or.inr q5)⟩⟩
  have go2 : ∀ post : Int32 → Prop, post 1 → w_X9_in a3.toInt64 0 2 Im Fm hm post := fun post hp => in_i (l2 := 0) (h2 := 2) (by decide) (by decide) (fun z => by
    exfalso
    rcases z with z | z
    · exact q4 z
    · exact l2.mp z q5) (fun _ _ => hp)
  rw [c8, nI_is0 (by omega), c7]
  refine ⟨fun hn0 => ?_, fun hn0 => ?_⟩
  · have hn1 : 0 < n := by omega
    obtain ⟨a, ha, ea⟩ : ∃ a, a ≤ 30 ∧ a1 = nI a := by
      rw [Int32.lt_iff_toInt_lt, show (1 : Int32).toInt = 1 by decide] at q1
      rw [Int32.lt_iff_toInt_lt, show (30 : Int32).toInt = 30 by decide] at q2
      refine ⟨a1.toInt.toNat, by omega, ?_⟩
      apply Int32.toInt_inj.mp
      rw [nI_toInt (by omega)]
      omega
    subst ea
    refine s_playDrawn ha hb hT (fun I2 k2 i19 i21 i22 => ?_)
    have hRR : ∀ I3, kI [12, 13] Im I3 → RR i I2 Fc I3 Fm := fun I3 k3 => ⟨n, b, g, w, p, s, RB_keep hB (sI_of k2 (by decide)) (fun _ _ => rfl) (sI_of k3 (by decide)) (fun _ _ => rfl), cacheF_keep (sI_of k2 (by decide)) (fun _ _ => rfl) hC.1, cacheB_keep (sI_of k2 (by decide)) (fun _ _ => rfl) hC.2.1, fun z => cacheM_keep (sI_of k3 (by decide)) (fun _ _ => rfl) (hC.2.2 z)⟩
    refine ⟨fun e => m_drawn hM ha hb hn hn1 m3 m4 go q3 go2 (fun I3 k3 => ⟨?_, rfl, hRR I3 k3⟩), fun e => m_drawn hM ha hb hn hn1 m3 m4 go q3 go2 (fun I3 k3 => ⟨?_, rfl, hRR I3 k3⟩), fun n0 n1 => m_drawn hM ha hb hn hn1 m3 m4 go q3 go2 (fun I3 k3 => ⟨?_, rfl, hRR I3 k3⟩)⟩
    · unfold dwV; rw [if_pos e]; exact i21
    · unfold dwV; rw [if_neg (fun z => absurd (z.symm.trans e) (by decide)), if_pos e]; exact i22
    · unfold dwV; rw [if_neg n0, if_neg n1]; exact i19
  · unfold w_X9_drawn
    exact go _ ⟨fun q => absurd q (by decide), fun _ => ⟨fun z => absurd z q3, fun _ => go2 _ ⟨fun _ => m_lacks0 m3 hn (fun z => absurd hn0 (by omega)) (fun _ => ⟨fun q => absurd q (by decide), fun _ => ⟨rfl, rfl, h0⟩⟩), fun q => absurd q (by decide)⟩⟩⟩
