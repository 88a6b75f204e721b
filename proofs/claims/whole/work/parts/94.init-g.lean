/-! the reference's tables as its constructor lays them -/
theorem tl_nat {j : Nat} (hj : j < 7) {P : Int32 → Prop} (h : P (nI (nt j))) : ((¬ nI j = 0 → ((¬ nI j = (1 : Int32) → ((¬ nI j = (2 : Int32) → ((¬ nI j = (3 : Int32) → ((¬ nI j = (4 : Int32) → ((¬ nI j = (5 : Int32) → P (9 : Int32)) ∧ (nI j = (5 : Int32) → P (7 : Int32)))) ∧ (nI j = (4 : Int32) → P (5 : Int32)))) ∧ (nI j = (3 : Int32) → P (4 : Int32)))) ∧ (nI j = (2 : Int32) → P (11 : Int32)))) ∧ (nI j = (1 : Int32) → P (0 : Int32)))) ∧ (nI j = 0 → P (2 : Int32))) := by
  have e : ∀ c : Nat, c < 7 → (nI j = nI c ↔ j = c) := fun c hc => nI_eq (by omega) (by omega)
  have e0 : nI j = (0 : Int32) ↔ j = 0 := e 0 (by omega)
  have e1 : nI j = (1 : Int32) ↔ j = 1 := e 1 (by omega)
  have e2 : nI j = (2 : Int32) ↔ j = 2 := e 2 (by omega)
  have e3 : nI j = (3 : Int32) ↔ j = 3 := e 3 (by omega)
  have e4 : nI j = (4 : Int32) ↔ j = 4 := e 4 (by omega)
  have e5 : nI j = (5 : Int32) ↔ j = 5 := e 5 (by omega)
  rw [e0, e1, e2, e3, e4, e5]
  refine ⟨fun z0 => ⟨fun z1 => ⟨fun z2 => ⟨fun z3 => ⟨fun z4 => ⟨fun z5 => ?_, fun q => ?_⟩, fun q => ?_⟩, fun q => ?_⟩, fun q => ?_⟩, fun q => ?_⟩, fun q => ?_⟩
  · have : j = 6 := by omega
    subst this
    exact h
  all_goals (subst q; exact h)
theorem tl_wt {j : Nat} (hj : j < 7) (h0 : 0 < j) : nI (wt (j - 1)) / (3 : Int32) = nI (wt j) := by
  rcases seven hj with rfl | rfl | rfl | rfl | rfl | rfl | rfl
  · exact absurd h0 (by decide)
  all_goals decide
theorem tl_step {j : Nat} (hj : j < 7) {I : Nat → Int32} {F : Nat → Nat → Int32} {hz : Int64} {k again : Int32 → (Nat → Int32) → (Nat → Nat → Int32) → Int64 → Prop} (hp : 0 < j → F 1 (j - 1) = nI (wt (j - 1))) (hag : ∀ F2, F2 = upF (upF F 1 (upd (F 1) j (nI (wt j)))) 2 (upd (F 2) j (nI (nt j))) → again (nI j + 1) I F2 hz) : w_X9_tail_B216 k again (nI j) I F hz := by
  have hv : vp_in (nI j) 7 := vp_in_nI hj (by decide)
  unfold w_X9_tail_B216
  rw [nI_clamp (by omega)]
  refine ⟨fun q => absurd ((nI_leI (a := 7) (by omega) (by omega)).mp q) (by omega), fun _ => ⟨fun z => ?_, fun z => ?_⟩⟩
  · have h0 : 0 < j := by
      apply Nat.pos_of_ne_zero
      intro e
      exact z ((nI_is0 (by omega)).mpr e)
    have sb : nI j - (1 : Int32) = nI (j - 1) := by rw [show (1 : Int32) = nI 1 by decide, pk_sub (by omega)]
    rw [sb, nI_clamp (by omega), hp h0, tl_wt hj h0]
    refine ⟨vp_in_nI (by omega) (by decide), hv, fun F3 e3 => tl_nat (P := fun v => vp_in (nI j) 7 ∧ ∀ G : Nat → Nat → Int32, G = upF F3 2 (upd (F3 2) j v) → again (nI j + 1) I G hz) hj ⟨hv, fun G eG => hag G ?_⟩⟩
    rw [eG, e3, upF_n _ _ (by decide)]
  · have h0 : j = 0 := (nI_is0 (by omega)).mp z
    refine ⟨hv, fun F3 e3 => tl_nat (P := fun v => vp_in (nI j) 7 ∧ ∀ G : Nat → Nat → Int32, G = upF F3 2 (upd (F3 2) j v) → again (nI j + 1) I G hz) hj ⟨hv, fun G eG => hag G ?_⟩⟩
    rw [eG, e3, upF_n _ _ (by decide), h0]
    rfl
def lO (o : Nat) : Int32 := if o % 7 = 0 then -1 else nI (lp (o % 7))
def rO (o : Nat) : Int32 := if o / 7 = 0 then -1 else nI (rp (o / 7))
def tlO (F : Nat → Nat → Int32) (n : Nat) : Prop := ∀ o, o < n → F 4 o = lO o ∧ F 5 o = nI (bk (o % 7)) ∧ F 6 o = rO o ∧ F 7 o = nI (bk (o / 7))
theorem tlO_step {o : Nat} {L F1 F2 F3 F4 : Nat → Nat → Int32} (h : tlO L o) (e1 : F1 = upF L 4 (upd (L 4) o (lO o))) (e2 : F2 = upF F1 5 (upd (F1 5) o (nI (bk (o % 7))))) (e3 : F3 = upF F2 6 (upd (F2 6) o (rO o))) (e4 : F4 = upF F3 7 (upd (F3 7) o (nI (bk (o / 7))))) : tlO F4 (o + 1) ∧ ∀ r, r ≠ 4 → r ≠ 5 → r ≠ 6 → r ≠ 7 → F4 r = L r := by
  have k4 : F4 4 = upd (L 4) o (lO o) := by rw [e4, upF_n _ _ (by decide), e3, upF_n _ _ (by decide), e2, upF_n _ _ (by decide), e1, upF_s]
  have k5 : F4 5 = upd (L 5) o (nI (bk (o % 7))) := by rw [e4, upF_n _ _ (by decide), e3, upF_n _ _ (by decide), e2, upF_s, e1, upF_n _ _ (by decide)]
  have k6 : F4 6 = upd (L 6) o (rO o) := by rw [e4, upF_n _ _ (by decide), e3, upF_s, e2, upF_n _ _ (by decide), e1, upF_n _ _ (by decide)]
  have k7 : F4 7 = upd (L 7) o (nI (bk (o / 7))) := by rw [e4, upF_s, e3, upF_n _ _ (by decide), e2, upF_n _ _ (by decide), e1, upF_n _ _ (by decide)]
  refine ⟨fun x hx => ?_, fun r h1 h2 h3 h4 => by rw [e4, upF_n _ _ h4, e3, upF_n _ _ h3, e2, upF_n _ _ h2, e1, upF_n _ _ h1]⟩
  rw [k4, k5, k6, k7]
  by_cases e : x = o
  · subst e
    rw [pk_us, pk_us, pk_us, pk_us]
    exact ⟨rfl, rfl, rfl, rfl⟩
  · rw [pk_un e, pk_un e, pk_un e, pk_un e]
    exact h x (by omega)
theorem m_layOpt {I : Nat → Int32} {F : Nat → Nat → Int32} {hz : Int64} {post : (Nat → Int32) → (Nat → Nat → Int32) → Int64 → Prop} (hp : ∀ F2, (∀ r, r ≠ 4 → r ≠ 5 → r ≠ 6 → r ≠ 7 → F2 r = F r) → tlO F2 63 → post I F2 hz) : w_X9_layOptions I F hz post := by
  unfold w_X9_layOptions
  refine gL_inv (fun o v => v.1 = nI o ∧ v.2.1 = I ∧ v.2.2.2 = hz ∧ (∀ r, r ≠ 4 → r ≠ 5 → r ≠ 6 → r ≠ 7 → v.2.2.1 r = F r) ∧ tlO v.2.2.1 o) 63 ?_ ?_ ⟨rfl, rfl, rfl, fun _ _ _ _ _ => rfl, fun x hx => absurd hx (by omega)⟩
  · rintro o ho ⟨x1, J, L, z⟩ ⟨g1, gI, gz, gF, gO⟩ again hag
    dsimp only at g1 gI gz gF gO ⊢
    subst g1 gI gz
    have hv : vp_in (nI o) 63 := vp_in_nI ho (by decide)
    unfold w_X9_layOptions_B2
    have r7 : nI o - nI o / (7 : Int32) * (7 : Int32) = nI (o % 7) := by rw [show (7 : Int32) = nI 7 by decide, pk_rem (by omega) (by omega) (by omega)]
    have d7 : nI o / (7 : Int32) = nI (o / 7) := by rw [show (7 : Int32) = nI 7 by decide, pk_div (by omega) (by omega) (by omega)]
    have bkI : ∀ a : Nat, a < 100 → (1 : Int32) + (nI a + (1 : Int32) - (nI a + (1 : Int32)) / (2 : Int32) * (2 : Int32)) = nI (bk a) := fun a ha => by
      rw [nI_1, show (2 : Int32) = nI 2 by decide, pk_rem (by omega) (by omega) (by omega), show (1 : Int32) = nI 1 by decide, nI_add]
      rfl
    have lpI : ∀ a : Nat, 0 < a → a < 100 → (nI a - (1 : Int32)) / (2 : Int32) = nI (lp a) := fun a h0 ha => by
      rw [show (1 : Int32) = nI 1 by decide, pk_sub (by omega), show (2 : Int32) = nI 2 by decide, pk_div (by omega) (by omega) (by omega)]
      rfl
    rw [r7, d7, nI_clamp (by omega)]
    refine ⟨fun q => absurd ((nI_leI (a := 63) (by omega) (by omega)).mp q) (by omega), fun _ v2 e2 v3 e3 => ?_⟩
    subst e2 e3
    rw [nI_is0 (by omega), nI_is0 (by omega), bkI _ (by omega), bkI _ (by omega)]
    have fin : ∀ F1 F2 F3 F4 : Nat → Nat → Int32, F1 = upF L 4 (upd (L 4) o (lO o)) → F2 = upF F1 5 (upd (F1 5) o (nI (bk (o % 7)))) → F3 = upF F2 6 (upd (F2 6) o (rO o)) → F4 = upF F3 7 (upd (F3 7) o (nI (bk (o / 7)))) → again (nI o + (1 : Int32), J, F4, z) := fun F1 F2 F3 F4 e1 e2 e3 e4 => by
      obtain ⟨s1, s2⟩ := tlO_step gO e1 e2 e3 e4
      exact hag _ ⟨nI_1 o, rfl, rfl, fun r h1 h2 h3 h4 => (s2 r h1 h2 h3 h4).trans (gF r h1 h2 h3 h4), s1⟩
    refine ⟨fun n2 => ?_, fun z2 => ?_⟩
    · have el : lO o = nI (lp (o % 7)) := if_neg n2
      rw [lpI _ (by omega) (by omega), ← el]
      refine ⟨hv, fun F5 e5 => ⟨hv, fun F6 e6 => ⟨fun n3 => ?_, fun z3 => ?_⟩⟩⟩
      · have er : rO o = nI (rp (o / 7)) := if_neg n3
        have e9 : (3 : Int32) + (nI (o / 7) - (1 : Int32)) / (2 : Int32) = rO o := by
          rw [lpI _ (by omega) (by omega), er, show (3 : Int32) = nI 3 by decide, nI_add]
          rfl
        rw [e9]
        exact ⟨hv, fun F8 e8 => ⟨hv, fun F9 e9 => fin F5 F6 F8 F9 e5 e6 e8 e9⟩⟩
      · have er : rO o = -1 := if_pos z3
        rw [← er]
        exact ⟨hv, fun F8 e8 => ⟨hv, fun F9 e9 => fin F5 F6 F8 F9 e5 e6 e8 e9⟩⟩
    · have el : lO o = -1 := if_pos z2
      refine ⟨hv, fun F5 e5 => ⟨hv, fun F6 e6 => ⟨fun n3 => ?_, fun z3 => ?_⟩⟩⟩
      · have er : rO o = nI (rp (o / 7)) := if_neg n3
        have e9 : (3 : Int32) + (nI (o / 7) - (1 : Int32)) / (2 : Int32) = rO o := by
          rw [lpI _ (by omega) (by omega), er, show (3 : Int32) = nI 3 by decide, nI_add]
          rfl
        rw [e9]
        exact ⟨hv, fun F8 e8 => ⟨hv, fun F9 e9 => fin F5 F6 F8 F9 (by rw [el]; exact e5) e6 e8 e9⟩⟩
      · have er : rO o = -1 := if_pos z3
        refine ⟨hv, fun F8 e8 => ⟨hv, fun F9 e9 => fin F5 F6 F8 F9 (by rw [el]; exact e5) e6 (by rw [er]; exact e8) e9⟩⟩
  · rintro ⟨x1, J, L, z⟩ ⟨g1, gI, gz, gF, gO⟩ again
    dsimp only at g1 gI gz gF gO ⊢
    subst g1 gI gz
    unfold w_X9_layOptions_B2
    exact ⟨fun _ => hp L gF gO, fun q => absurd (by decide) q⟩
theorem nI_m1 {a : Nat} (h : a < 2 ^ 31) : ¬ nI a = (-1 : Int32) := fun q => by
  have := congrArg Int32.toInt q
  rw [nI_toInt h, show (-1 : Int32).toInt = -1 by decide] at this
  omega
theorem lO_m1 {o : Nat} (ho : o < 63) : lO o = -1 ↔ o % 7 = 0 := by
  have := lp_lt (l := o % 7) (by omega)
  unfold lO
  by_cases h : o % 7 = 0
  · rw [if_pos h]; exact ⟨fun _ => h, fun _ => rfl⟩
  · rw [if_neg h]; exact ⟨fun q => absurd q (nI_m1 (by omega)), fun q => absurd q h⟩
theorem rO_m1 {o : Nat} (ho : o < 63) : rO o = -1 ↔ o / 7 = 0 := by
  have := rp_lt (r := o / 7) (by omega)
  unfold rO
  by_cases h : o / 7 = 0
  · rw [if_pos h]; exact ⟨fun _ => h, fun _ => rfl⟩
  · rw [if_neg h]; exact ⟨fun q => absurd q (nI_m1 (by omega)), fun q => absurd q h⟩
theorem tl_bits {o : Nat} (ho : o < 63) {G : Nat → Nat → Int32} {P : (Nat → Nat → Int32) → Prop} (h4 : G 4 o = lO o) (h6 : G 6 o = rO o) (h : ∀ F2, F2 = upF G 9 (upd (G 9) o (nI (bitsO o))) → P F2) : vp_in (nI o) 63 ∧ ((¬ (G 4 (nI o).toNatClampNeg) = (-1 : Int32) → vp_in (nI o) 63 ∧ vp_in (nI o) 63 ∧ ((¬ (G 6 (nI o).toNatClampNeg) = (-1 : Int32) → vp_in (nI o) 63 ∧ vp_in (nI o) 63 ∧ ∀ F24 : Nat → Nat → Int32, F24 = upF G 9 (upd (G 9) (nI o).toNatClampNeg (((1 : Int32) <<< ((G 4 (nI o).toNatClampNeg) &&& 31)) ||| ((1 : Int32) <<< ((G 6 (nI o).toNatClampNeg) &&& 31)))) → P F24) ∧ ((G 6 (nI o).toNatClampNeg) = (-1 : Int32) → vp_in (nI o) 63 ∧ ∀ F25 : Nat → Nat → Int32, F25 = upF G 9 (upd (G 9) (nI o).toNatClampNeg (((1 : Int32) <<< ((G 4 (nI o).toNatClampNeg) &&& 31)) ||| (0 : Int32))) → P F25))) ∧ ((G 4 (nI o).toNatClampNeg) = (-1 : Int32) → vp_in (nI o) 63 ∧ ((¬ (G 6 (nI o).toNatClampNeg) = (-1 : Int32) → vp_in (nI o) 63 ∧ vp_in (nI o) 63 ∧ ∀ F27 : Nat → Nat → Int32, F27 = upF G 9 (upd (G 9) (nI o).toNatClampNeg ((0 : Int32) ||| ((1 : Int32) <<< ((G 6 (nI o).toNatClampNeg) &&& 31)))) → P F27) ∧ ((G 6 (nI o).toNatClampNeg) = (-1 : Int32) → vp_in (nI o) 63 ∧ ∀ F28 : Nat → Nat → Int32, F28 = upF G 9 (upd (G 9) (nI o).toNatClampNeg ((0 : Int32) ||| (0 : Int32))) → P F28)))) := by
  have hv : vp_in (nI o) 63 := vp_in_nI ho (by decide)
  have l3 := lp_lt (l := o % 7) (by omega)
  have r7 := rp_lt (r := o / 7) (by omega)
  rw [nI_clamp (by omega), h4, h6, lO_m1 ho, rO_m1 ho]
  have z0 : (0 : Int32) = nI 0 := rfl
  refine ⟨hv, fun a => ⟨hv, hv, fun b => ⟨hv, hv, fun F24 e => h F24 ?_⟩, fun b => ⟨hv, fun F25 e => h F25 ?_⟩⟩, fun a => ⟨hv, fun b => ⟨hv, hv, fun F27 e => h F27 ?_⟩, fun b => ⟨hv, fun F28 e => h F28 ?_⟩⟩⟩
  · rw [e, show lO o = nI (lp (o % 7)) from if_neg a, show rO o = nI (rp (o / 7)) from if_neg b, pg_shl _ (by omega), pg_shl _ (by omega), fa_or]
    unfold bitsO
    rw [if_neg a, if_neg b]
  · rw [e, show lO o = nI (lp (o % 7)) from if_neg a, pg_shl _ (by omega), z0, fa_or]
    unfold bitsO
    rw [if_neg a, if_pos b]
  · rw [e, show rO o = nI (rp (o / 7)) from if_neg b, pg_shl _ (by omega), z0, fa_or]
    unfold bitsO
    rw [if_pos a, if_neg b]
  · rw [e, z0, fa_or]
    unfold bitsO
    rw [if_pos a, if_pos b]
def tlM (F : Nat → Nat → Int32) (n : Nat) : Prop := ∀ o, o < n → F 8 o = nI (mv o) ∧ F 9 o = nI (bitsO o)
theorem tl_moved {o : Nat} (ho : o < 63) {L : Nat → Nat → Int32} {J : Nat → Int32} {z : Int64} {k again : Int32 → (Nat → Int32) → (Nat → Nat → Int32) → Int64 → Prop} (h4 : L 4 o = lO o) (h6 : L 6 o = rO o) (hag : ∀ F1 F2, F1 = upF L 8 (upd (L 8) o (nI (mv o))) → F2 = upF F1 9 (upd (F1 9) o (nI (bitsO o))) → again (nI o + 1) J F2 z) : w_X9_layTables_B2 k again (nI o) J L z := by
  have hv : vp_in (nI o) 63 := vp_in_nI ho (by decide)
  have go : ∀ F1 : Nat → Nat → Int32, F1 = upF L 8 (upd (L 8) o (nI (mv o))) → F1 4 o = lO o ∧ F1 6 o = rO o := fun F1 e => by rw [e, upF_n _ _ (by decide), upF_n _ _ (by decide)]; exact ⟨h4, h6⟩
  unfold w_X9_layTables_B2
  refine ⟨fun q => absurd ((nI_leI (a := 63) (by omega) (by omega)).mp q) (by omega), fun _ => ⟨hv, fun a => ⟨hv, fun b => ⟨hv, fun F1 e1 => ?_⟩, fun b => ⟨hv, fun F1 e1 => ?_⟩⟩, fun a => ⟨hv, fun b => ⟨hv, fun F1 e1 => ?_⟩, fun b => ⟨hv, fun F1 e1 => ?_⟩⟩⟩⟩
  all_goals rw [nI_clamp (by omega), h4, lO_m1 ho] at a
  all_goals rw [nI_clamp (by omega), h6, rO_m1 ho] at b
  all_goals rw [nI_clamp (by omega)] at e1
  · have em : mv o = 2 := by unfold mv m1; rw [if_neg a, if_neg b]
    have e2 : F1 = upF L 8 (upd (L 8) o (nI (mv o))) := by rw [e1, em]; rfl
    exact tl_bits ho (go F1 e2).1 (go F1 e2).2 (fun F2 e3 => hag F1 F2 e2 e3)
  · have em : mv o = 1 := by unfold mv m1; rw [if_neg a, if_pos b]
    have e2 : F1 = upF L 8 (upd (L 8) o (nI (mv o))) := by rw [e1, em]; rfl
    exact tl_bits ho (go F1 e2).1 (go F1 e2).2 (fun F2 e3 => hag F1 F2 e2 e3)
  · have em : mv o = 1 := by unfold mv m1; rw [if_pos a, if_neg b]
    have e2 : F1 = upF L 8 (upd (L 8) o (nI (mv o))) := by rw [e1, em]; rfl
    exact tl_bits ho (go F1 e2).1 (go F1 e2).2 (fun F2 e3 => hag F1 F2 e2 e3)
  · have em : mv o = 0 := by unfold mv m1; rw [if_pos a, if_pos b]
    have e2 : F1 = upF L 8 (upd (L 8) o (nI (mv o))) := by rw [e1, em]; rfl
    exact tl_bits ho (go F1 e2).1 (go F1 e2).2 (fun F2 e3 => hag F1 F2 e2 e3)
