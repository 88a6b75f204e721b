def w_X6_nextQuestion_6_B21 (x2 : Int32) (I : Nat → Int32) (F : Nat → Nat → Int32) (k again : Int32 → Int32 → Int32 → Prop) (x3 : Int32) (x4 : Int32) (x5 : Int32) : Prop :=
  (((4 : Int32) ≤ x5 → k x3 x4 x5) ∧ (¬ (4 : Int32) ≤ x5 → vp_in x5 4 ∧ w_X6_leftAtWorst x2 (tabK (x5).toNatClampNeg) I F (fun (r2 : Int32) => ((x4 ≤ r2 → again x3 x4 (x5 + (1 : Int32))) ∧ (¬ x4 ≤ r2 → again x5 r2 (x5 + (1 : Int32)))))))
def w_X6_nextQuestion_6 (a1 : Int32) (I : Nat → Int32) (F : Nat → Nat → Int32) (post : Int32 → Prop) : Prop :=
  w_X6_sortsOf_6 a1 I F (fun (r4 : Int32) => ((¬ r4 = 0 → gL (fun ag v => w_X6_nextQuestion_6_B21 r4 I F (fun (y6 : Int32) (y7 : Int32) (y8 : Int32) => post y6) (fun b0 b1 b2 => ag (b0, b1, b2)) v.1 v.2.1 v.2.2) ((-1 : Int32), (6 : Int32), (0 : Int32))) ∧ (r4 = 0 → post (-1 : Int32))))
set_option maxHeartbeats 4000000 in
set_option maxRecDepth 100000 in
theorem c_X6_nextQuestion_6 (l : Launch) (D : va_G) (q : Nat → Nat) (cI cO : ClassId) (hq : cOk q) (a1 : Int32)  (I : Nat → Int32) (F : Nat → Nat → Int32) (post : Int32 → Prop) (h : w_X6_nextQuestion_6 a1 I F post) : Met l yX6_nextQuestion wsX6_nextQuestion ({ frames := 2, cells := 0, slots := 0, locals := 45 } : Room) (gPre D (cTys cI cO) (cW q cI cO I F) (cEnv q) [.ref (q 6), .int a1]) (va_Qi (fun r (_ : Unit) => post r) (gB D (fun _ : Unit => cW q cI cO I F)) (cA q)) 0 0 (cA q) := by
  refine gMetI (by decide) rfl (Nat.le_of_ble_eq_true rfl) ?_
  intro p e R s m args below meth c Q ls hR hx hb hml hown hts hK hE hP hl hret
  have hRf : 2 ≤ R.frames := by subst hR; exact Nat.le_refl _
  have hRl : 45 ≤ R.locals := by subst hR; exact Nat.le_refl _
  have hown : s.vm.findClass RX6 = some m.cls := hown
  have hl : lv_has ls 7 [(0, .ref (q 6)), (1, .int a1)] := hl
  have hS : va_S (cA q) s.heap s.heap [] := va_S.rf
  have hP : va_P D vwCl (cW q cI cO I F) s.heap := hP
  have L21 : ∀ (n : Nat) (x2 : Int32) (k : Int32 → Int32 → Int32 → Prop) (x3 : Int32) (x4 : Int32) (x5 : Int32) (H : Heap) (locs : List Loc) (ls : Array Slot), va_P D vwCl (cW q cI cO I F) H → va_S (cA q) s.heap H locs → lv_has ls 7 [(2, .int x2), (3, .int x3), (4, .int x4), (5, .int x5)] → gLN (fun ag v => w_X6_nextQuestion_6_B21 x2 I F k (fun b0 b1 b2 => ag (b0, b1, b2)) v.1 v.2.1 v.2.2) n (x3, x4, x5) → (∀ (x3 : Int32) (x4 : Int32) (x5 : Int32) (H : Heap) (locs : List Loc) (ls : Array Slot), va_P D vwCl (cW q cI cO I F) H → va_S (cA q) s.heap H locs → lv_has ls 7 [(3, .int x3)] → k x3 x4 x5 → W p l e R s m args below meth c H locs 0 0 Q (F0 m 59 ls [])) → W p l e R s m args below meth c H locs 0 0 Q (F0 m 21 ls []) := by
    intro n
    induction n with
    | zero =>
      intro x2 k x3 x4 x5 H locs ls  hP hS hl h K
      exact False.elim h
    | succ n ih =>
      intro x2 k x3 x4 x5 H locs ls  hP hS hl h K
      have h : w_X6_nextQuestion_6_B21 x2 I F k (fun b0 b1 b2 => gLN (fun ag v => w_X6_nextQuestion_6_B21 x2 I F k (fun b0 b1 b2 => ag (b0, b1, b2)) v.1 v.2.1 v.2.2) n (b0, b1, b2)) x3 x4 x5 := h
      refine lv_iload hx hb dX6_nextQuestion_21 (lv_at hl 3 rfl) ?_
      refine lv_iconst (v := (4 : Int32)) hx hb dX6_nextQuestion_23 (by decide) ?_
      refine lv_icmp_ge (tgt := 59) hx hb dX6_nextQuestion_24 (by decide) (fun c1 => ?_) (fun c1 => ?_)
      · have h := h.1 c1
        exact K x3 x4 x5 _ _ _  hP hS (lv_sub hl [1] rfl) h
      · have h := h.2 c1
        refine lv_iload_n hx hb dX6_nextQuestion_27 rfl (lv_at hl 0 rfl) ?_
        refine va_gets (C := "HarpPedals$Seen") (v := .ref (q 41)) hx hb hE.2.2.2.1 hS hown (hts _ (List.mem_of_getElem? (l := wsX6_nextQuestion) (i := 1) rfl)) (fun _ h9 => h9) dX6_nextQuestion_28 ?_
        refine lv_iload hx hb dX6_nextQuestion_31 (lv_at hl 3 rfl) ?_
        refine va_ti (v := .int (tabK (x5).toNatClampNeg)) hx hb hE.2.2.2.2 hS h.1 rfl dX6_nextQuestion_33 ?_
        have h := h.2
        refine gCallI (D := D) (va_runS (As := [.int x2, .int (tabK (x5).toNatClampNeg)]) (rest := []) ⟨hx, hb, hml, hown, hts⟩ (c_X6_leftAtWorst l D q cI cO hq x2 (tabK (x5).toNatClampNeg)  I F _ h) (va_cwS 2 hts gX6_nextQuestion_X6_leftAtWorst rfl rfl rfl (by decide +kernel) ⟨Nat.le_trans (Nat.le_of_ble_eq_true rfl) hRf, Nat.le_trans (Nat.le_of_ble_eq_true rfl) hRl⟩) (gPreS cEok hE hK hP hS) rfl rfl hl.1 rfl (lv_room (Nat.le_of_ble_eq_true rfl)) dX6_nextQuestion_34 ⟨Nat.zero_le _, Nat.zero_le _⟩) hS (fun r2 _ H locs hP hS h => ?_)
        have hP : va_P D vwCl (cW q cI cO I F) H := hP
        refine lv_istore (lv' := [(6, .int r2), (2, .int x2), (3, .int x3), (4, .int x4), (5, .int x5)]) hx hb dX6_nextQuestion_37 hl (by decide) rfl (fun ls hl => ?_)
        refine lv_iload hx hb dX6_nextQuestion_39 (lv_at hl 0 rfl) ?_
        refine lv_iload hx hb dX6_nextQuestion_41 (lv_at hl 3 rfl) ?_
        refine lv_icmp_ge (tgt := 53) hx hb dX6_nextQuestion_43 (by decide) (fun c3 => ?_) (fun c3 => ?_)
        · have h := h.1 c3
          refine lv_iinc (v := (x5 + (1 : Int32))) (lv' := [(5, .int (x5 + (1 : Int32))), (6, .int r2), (2, .int x2), (3, .int x3), (4, .int x4)]) hx hb dX6_nextQuestion_53 hl (k := 4) rfl rfl (by decide) rfl (fun ls hl => ?_)
          refine lv_goto (tgt := 21) hx hb dX6_nextQuestion_56 (by decide) ?_
          exact ih x2 _ x3 x4 (x5 + (1 : Int32)) _ _ _  hP hS (lv_sub hl [2, 3, 4, 0] rfl) h K
        · have h := h.2 c3
          refine lv_iload hx hb dX6_nextQuestion_46 (lv_at hl 4 rfl) ?_
          refine lv_istore_n (lv' := [(3, .int x5), (6, .int r2), (2, .int x2), (4, .int x4), (5, .int x5)]) hx hb dX6_nextQuestion_48 rfl hl (by decide) rfl (fun ls hl => ?_)
          refine lv_iload hx hb dX6_nextQuestion_49 (lv_at hl 1 rfl) ?_
          refine lv_istore (lv' := [(4, .int r2), (3, .int x5), (6, .int r2), (2, .int x2), (5, .int x5)]) hx hb dX6_nextQuestion_51 hl (by decide) rfl (fun ls hl => ?_)
          refine lv_iinc (v := (x5 + (1 : Int32))) (lv' := [(5, .int (x5 + (1 : Int32))), (4, .int r2), (3, .int x5), (6, .int r2), (2, .int x2)]) hx hb dX6_nextQuestion_53 hl (k := 4) rfl rfl (by decide) rfl (fun ls hl => ?_)
          refine lv_goto (tgt := 21) hx hb dX6_nextQuestion_56 (by decide) ?_
          exact ih x2 _ x5 r2 (x5 + (1 : Int32)) _ _ _  hP hS (lv_sub hl [4, 2, 1, 0] rfl) h K
  refine lv_aload_n hx hb dX6_nextQuestion_0 rfl (lv_at hl 0 rfl) ?_
  refine lv_iload_n hx hb dX6_nextQuestion_1 rfl (lv_at hl 1 rfl) ?_
  refine gCallI (D := D) (va_runV (As := [.int a1]) (rest := []) ⟨hx, hb, hml, hown, hts⟩ (c_X6_sortsOf_6 l D q cI cO hq a1  I F _ h) (cwV 1 hts gX6_nextQuestion_X6_sortsOf rfl rfl rfl (by decide +kernel) ⟨Nat.le_trans (Nat.le_of_ble_eq_true rfl) hRf, Nat.le_trans (Nat.le_of_ble_eq_true rfl) hRl⟩) (gPreV (ci := 6) (q0 := 6) cEok hE hK hP hS rfl cAt6) rfl rfl hl.1 rfl (lv_room (Nat.le_of_ble_eq_true rfl)) dX6_nextQuestion_2 ⟨Nat.zero_le _, Nat.zero_le _⟩) hS (fun r4 _ H locs hP hS h => ?_)
  have hP : va_P D vwCl (cW q cI cO I F) H := hP
  refine lv_istore_n (lv' := [(2, .int r4), (0, .ref (q 6)), (1, .int a1)]) hx hb dX6_nextQuestion_5 rfl hl (by decide) rfl (fun ls hl => ?_)
  refine lv_iload_n hx hb dX6_nextQuestion_6 rfl (lv_at hl 0 rfl) ?_
  refine lv_if_ne (tgt := 12) hx hb dX6_nextQuestion_7 (by decide) (fun c5 => ?_) (fun c5 => ?_)
  · have h := h.1 c5
    refine lv_iconst (v := (-1 : Int32)) hx hb dX6_nextQuestion_12 (by decide) ?_
    refine lv_istore_n (lv' := [(3, .int (-1 : Int32)), (2, .int r4), (0, .ref (q 6)), (1, .int a1)]) hx hb dX6_nextQuestion_13 rfl hl (by decide) rfl (fun ls hl => ?_)
    refine lv_bipush (v := (6 : Int32)) hx hb dX6_nextQuestion_14 (by decide) ?_
    refine lv_istore (lv' := [(4, .int (6 : Int32)), (3, .int (-1 : Int32)), (2, .int r4), (0, .ref (q 6)), (1, .int a1)]) hx hb dX6_nextQuestion_16 hl (by decide) rfl (fun ls hl => ?_)
    refine lv_iconst (v := (0 : Int32)) hx hb dX6_nextQuestion_18 (by decide) ?_
    refine lv_istore (lv' := [(5, .int (0 : Int32)), (4, .int (6 : Int32)), (3, .int (-1 : Int32)), (2, .int r4), (0, .ref (q 6)), (1, .int a1)]) hx hb dX6_nextQuestion_19 hl (by decide) rfl (fun ls hl => ?_)
    obtain ⟨n, h⟩ := h
    refine L21 n r4 _ (-1 : Int32) (6 : Int32) (0 : Int32) _ _ _  hP hS (lv_sub hl [3, 2, 1, 0] rfl) h (fun y6 y7 y8 H locs ls  hP hS hl h => ?_)
    refine lv_iload_n hx hb dX6_nextQuestion_59 rfl (lv_at hl 0 rfl) ?_
    exact hret y6 () _ _ _ _ dX6_nextQuestion_60 hP hS h
  · have h := h.2 c5
    refine lv_iconst (v := (-1 : Int32)) hx hb dX6_nextQuestion_10 (by decide) ?_
    exact hret (-1 : Int32) () _ _ _ _ dX6_nextQuestion_11 hP hS h
def w_X8_chord (a1 : Int32) (a2 : Int32) (I : Nat → Int32) (F : Nat → Nat → Int32) (post : Int32 → Prop) : Prop :=
  w_X2_has_4 a1 I F (fun (r1 : Int32) => ((¬ r1 = 0 → ((a2 = (0 : Int32) → vp_in a1 8 ∧ post (F 17 (a1).toNatClampNeg)) ∧ (a2 = (1 : Int32) → vp_in a1 8 ∧ post (F 18 (a1).toNatClampNeg)) ∧ (a2 = (2 : Int32) → vp_in a1 8 ∧ vp_in a1 8 ∧ w_X7_howManyFit_8 (F 17 (a1).toNatClampNeg) (F 18 (a1).toNatClampNeg) I F (fun (r4 : Int32) => post r4)) ∧ (a2 = (3 : Int32) → vp_in a1 8 ∧ vp_in a1 8 ∧ w_X7_leastThatFits_8 (F 17 (a1).toNatClampNeg) (F 18 (a1).toNatClampNeg) I F (fun (r5 : Int32) => post r5)) ∧ (a2 = (4 : Int32) → w_X6_sortsOf_6 a1 I F (fun (r6 : Int32) => post r6)) ∧ (a2 = (5 : Int32) → w_X6_nextQuestion_6 a1 I F (fun (r7 : Int32) => post r7)) ∧ (¬ a2 = (0 : Int32) → ¬ a2 = (1 : Int32) → ¬ a2 = (2 : Int32) → ¬ a2 = (3 : Int32) → ¬ a2 = (4 : Int32) → ¬ a2 = (5 : Int32) → post (-102 : Int32)))) ∧ (r1 = 0 → post (-101 : Int32))))
set_option maxHeartbeats 4000000 in
set_option maxRecDepth 100000 in
theorem c_X8_chord (l : Launch) (D : va_G) (q : Nat → Nat) (cI cO : ClassId) (hq : cOk q) (a1 : Int32) (a2 : Int32)  (I : Nat → Int32) (F : Nat → Nat → Int32) (post : Int32 → Prop) (h : w_X8_chord a1 a2 I F post) : Met l yX8_chord wsX8_chord ({ frames := 3, cells := 0, slots := 0, locals := 71 } : Room) (gPre D (cTys cI cO) (cW q cI cO I F) (cEnv q) [.ref (q 0), .int a1, .int a2]) (va_Qi (fun r (_ : Unit) => post r) (gB D (fun _ : Unit => cW q cI cO I F)) (cA q)) 0 0 (cA q) := by
  refine gMetI (by decide) rfl (Nat.le_of_ble_eq_true rfl) ?_
  intro p e R s m args below meth c Q ls hR hx hb hml hown hts hK hE hP hl hret
  have hRf : 3 ≤ R.frames := by subst hR; exact Nat.le_refl _
  have hRl : 71 ≤ R.locals := by subst hR; exact Nat.le_refl _
  have hown : s.vm.findClass RX8 = some m.cls := hown
  have hl : lv_has ls 3 [(0, .ref (q 0)), (1, .int a1), (2, .int a2)] := hl
  have hS : va_S (cA q) s.heap s.heap [] := va_S.rf
  have hP : va_P D vwCl (cW q cI cO I F) s.heap := hP
  refine lv_aload_n hx hb dX8_chord_0 rfl (lv_at hl 0 rfl) ?_
  refine va_get (D := D) (ci := 8) (v := .ref (q 4)) (C := RX8) (T := TX8) (N := 11) hx hb hts (fun _ h9 => List.mem_cons_of_mem _ (List.mem_append_left _ (List.mem_append_left _ (List.mem_append_left _ (List.mem_append_right _ h9))))) hown hK hP 0 cAt0 rfl 2 (by decide) (hts _ (List.mem_of_getElem? (l := wsX8_chord) (i := 1) rfl)) (fun _ h9 => h9) rfl dX8_chord_1 ?_
  refine lv_iload_n hx hb dX8_chord_4 rfl (lv_at hl 1 rfl) ?_
  refine gCallI (D := D) (va_runV (As := [.int a1]) (rest := []) ⟨hx, hb, hml, hown, hts⟩ (c_X2_has_4 l D q cI cO hq a1  I F _ h) (cwV 1 hts gX8_chord_X2_has rfl rfl rfl (by decide +kernel) ⟨Nat.le_trans (Nat.le_of_ble_eq_true rfl) hRf, Nat.le_trans (Nat.le_of_ble_eq_true rfl) hRl⟩) (gPreV (ci := 2) (q0 := 4) cEok hE hK hP hS rfl cAt4) rfl rfl hl.1 rfl (lv_room (Nat.le_of_ble_eq_true rfl)) dX8_chord_5 ⟨Nat.zero_le _, Nat.zero_le _⟩) hS (fun r1 _ H locs hP hS h => ?_)
  have hP : va_P D vwCl (cW q cI cO I F) H := hP
  refine lv_if_ne (tgt := 14) hx hb dX8_chord_8 (by decide) (fun c2 => ?_) (fun c2 => ?_)
  · have h := h.1 c2
    refine lv_iload_n hx hb dX8_chord_14 rfl (lv_at hl 2 rfl) ?_
    by_cases c3_0 : a2 = (0 : Int32)
    · have h := h.1 c3_0
      refine lv_tableIn (tgt := 52) (off := 37) hx hb dX8_chord_15 (by rw [c3_0]; decide) (by rw [c3_0]; decide) (by rw [c3_0]; rfl) (by decide) ?_
      refine lv_aload_n hx hb dX8_chord_52 rfl (lv_at hl 0 rfl) ?_
      refine va_get (D := D) (ci := 8) (v := .ref (q 4)) (C := RX8) (T := TX8) (N := 11) hx hb hts (fun _ h9 => List.mem_cons_of_mem _ (List.mem_append_left _ (List.mem_append_left _ (List.mem_append_left _ (List.mem_append_right _ h9))))) hown hK hP 0 cAt0 rfl 2 (by decide) (hts _ (List.mem_of_getElem? (l := wsX8_chord) (i := 1) rfl)) (fun _ h9 => h9) rfl dX8_chord_53 ?_
      refine va_getN (D := D) (ci := 2) (v := .ref (q 17)) (C := RX2) (T := TX2) (N := 4) hx hb hts (fun _ h9 => List.mem_cons_of_mem _ (List.mem_append_left _ (List.mem_append_left _ (List.mem_append_right _ h9)))) hown hK hP 4 cAt4 rfl 2 (by decide) (va_Nw.use rfl (hE.1.1 _ (List.mem_of_getElem? (l := cNF) (i := 8) rfl))) (fun _ h9 => h9) rfl dX8_chord_56 ?_
      refine lv_iload_n hx hb dX8_chord_59 rfl (lv_at hl 1 rfl) ?_
      refine va_iald (D := D) hx hb hK hP 17 0 cAr17 rfl h.1 dX8_chord_60 ?_
      have h := h.2
      exact hret (F 17 (a1).toNatClampNeg) () _ _ _ _ dX8_chord_61 hP hS h
    by_cases c3_1 : a2 = (1 : Int32)
    · have h := h.2.1 c3_1
      refine lv_tableIn (tgt := 62) (off := 47) hx hb dX8_chord_15 (by rw [c3_1]; decide) (by rw [c3_1]; decide) (by rw [c3_1]; rfl) (by decide) ?_
      refine lv_aload_n hx hb dX8_chord_62 rfl (lv_at hl 0 rfl) ?_
      refine va_get (D := D) (ci := 8) (v := .ref (q 4)) (C := RX8) (T := TX8) (N := 11) hx hb hts (fun _ h9 => List.mem_cons_of_mem _ (List.mem_append_left _ (List.mem_append_left _ (List.mem_append_left _ (List.mem_append_right _ h9))))) hown hK hP 0 cAt0 rfl 2 (by decide) (hts _ (List.mem_of_getElem? (l := wsX8_chord) (i := 1) rfl)) (fun _ h9 => h9) rfl dX8_chord_63 ?_
      refine va_getN (D := D) (ci := 2) (v := .ref (q 18)) (C := RX2) (T := TX2) (N := 4) hx hb hts (fun _ h9 => List.mem_cons_of_mem _ (List.mem_append_left _ (List.mem_append_left _ (List.mem_append_right _ h9)))) hown hK hP 4 cAt4 rfl 3 (by decide) (va_Nw.use rfl (hE.1.1 _ (List.mem_of_getElem? (l := cNF) (i := 10) rfl))) (fun _ h9 => h9) rfl dX8_chord_66 ?_
      refine lv_iload_n hx hb dX8_chord_69 rfl (lv_at hl 1 rfl) ?_
      refine va_iald (D := D) hx hb hK hP 18 0 cAr18 rfl h.1 dX8_chord_70 ?_
      have h := h.2
      exact hret (F 18 (a1).toNatClampNeg) () _ _ _ _ dX8_chord_71 hP hS h
    by_cases c3_2 : a2 = (2 : Int32)
    · have h := h.2.2.1 c3_2
      refine lv_tableIn (tgt := 72) (off := 57) hx hb dX8_chord_15 (by rw [c3_2]; decide) (by rw [c3_2]; decide) (by rw [c3_2]; rfl) (by decide) ?_
      refine lv_aload_n hx hb dX8_chord_72 rfl (lv_at hl 0 rfl) ?_
      refine va_get (D := D) (ci := 8) (v := .ref (q 8)) (C := RX8) (T := TX8) (N := 11) hx hb hts (fun _ h9 => List.mem_cons_of_mem _ (List.mem_append_left _ (List.mem_append_left _ (List.mem_append_left _ (List.mem_append_right _ h9))))) hown hK hP 0 cAt0 rfl 6 (by decide) (hts _ (List.mem_of_getElem? (l := wsX8_chord) (i := 2) rfl)) (fun _ h9 => h9) rfl dX8_chord_73 ?_
      refine lv_aload_n hx hb dX8_chord_76 rfl (lv_at hl 0 rfl) ?_
      refine va_get (D := D) (ci := 8) (v := .ref (q 4)) (C := RX8) (T := TX8) (N := 11) hx hb hts (fun _ h9 => List.mem_cons_of_mem _ (List.mem_append_left _ (List.mem_append_left _ (List.mem_append_left _ (List.mem_append_right _ h9))))) hown hK hP 0 cAt0 rfl 2 (by decide) (hts _ (List.mem_of_getElem? (l := wsX8_chord) (i := 1) rfl)) (fun _ h9 => h9) rfl dX8_chord_77 ?_
      refine va_getN (D := D) (ci := 2) (v := .ref (q 17)) (C := RX2) (T := TX2) (N := 4) hx hb hts (fun _ h9 => List.mem_cons_of_mem _ (List.mem_append_left _ (List.mem_append_left _ (List.mem_append_right _ h9)))) hown hK hP 4 cAt4 rfl 2 (by decide) (va_Nw.use rfl (hE.1.1 _ (List.mem_of_getElem? (l := cNF) (i := 8) rfl))) (fun _ h9 => h9) rfl dX8_chord_80 ?_
      refine lv_iload_n hx hb dX8_chord_83 rfl (lv_at hl 1 rfl) ?_
      refine va_iald (D := D) hx hb hK hP 17 0 cAr17 rfl h.1 dX8_chord_84 ?_
      have h := h.2
      refine lv_aload_n hx hb dX8_chord_85 rfl (lv_at hl 0 rfl) ?_
      refine va_get (D := D) (ci := 8) (v := .ref (q 4)) (C := RX8) (T := TX8) (N := 11) hx hb hts (fun _ h9 => List.mem_cons_of_mem _ (List.mem_append_left _ (List.mem_append_left _ (List.mem_append_left _ (List.mem_append_right _ h9))))) hown hK hP 0 cAt0 rfl 2 (by decide) (hts _ (List.mem_of_getElem? (l := wsX8_chord) (i := 1) rfl)) (fun _ h9 => h9) rfl dX8_chord_86 ?_
      refine va_getN (D := D) (ci := 2) (v := .ref (q 18)) (C := RX2) (T := TX2) (N := 4) hx hb hts (fun _ h9 => List.mem_cons_of_mem _ (List.mem_append_left _ (List.mem_append_left _ (List.mem_append_right _ h9)))) hown hK hP 4 cAt4 rfl 3 (by decide) (va_Nw.use rfl (hE.1.1 _ (List.mem_of_getElem? (l := cNF) (i := 10) rfl))) (fun _ h9 => h9) rfl dX8_chord_89 ?_
      refine lv_iload_n hx hb dX8_chord_92 rfl (lv_at hl 1 rfl) ?_
      refine va_iald (D := D) hx hb hK hP 18 0 cAr18 rfl h.1 dX8_chord_93 ?_
      have h := h.2
      refine gCallI (D := D) (va_runV (As := [.int (F 17 (a1).toNatClampNeg), .int (F 18 (a1).toNatClampNeg)]) (rest := []) ⟨hx, hb, hml, hown, hts⟩ (c_X7_howManyFit_8 l D q cI cO hq (F 17 (a1).toNatClampNeg) (F 18 (a1).toNatClampNeg)  I F _ h) (cwV 2 hts gX8_chord_X7_howManyFit rfl rfl rfl (by decide +kernel) ⟨Nat.le_trans (Nat.le_of_ble_eq_true rfl) hRf, Nat.le_trans (Nat.le_of_ble_eq_true rfl) hRl⟩) (gPreV (ci := 7) (q0 := 8) cEok hE hK hP hS rfl cAt8) rfl rfl hl.1 rfl (lv_room (Nat.le_of_ble_eq_true rfl)) dX8_chord_94 ⟨Nat.zero_le _, Nat.zero_le _⟩) hS (fun r4 _ H locs hP hS h => ?_)
      have hP : va_P D vwCl (cW q cI cO I F) H := hP
      exact hret r4 () _ _ _ _ dX8_chord_97 hP hS h
    by_cases c3_3 : a2 = (3 : Int32)
    · have h := h.2.2.2.1 c3_3
      refine lv_tableIn (tgt := 98) (off := 83) hx hb dX8_chord_15 (by rw [c3_3]; decide) (by rw [c3_3]; decide) (by rw [c3_3]; rfl) (by decide) ?_
      refine lv_aload_n hx hb dX8_chord_98 rfl (lv_at hl 0 rfl) ?_
      refine va_get (D := D) (ci := 8) (v := .ref (q 8)) (C := RX8) (T := TX8) (N := 11) hx hb hts (fun _ h9 => List.mem_cons_of_mem _ (List.mem_append_left _ (List.mem_append_left _ (List.mem_append_left _ (List.mem_append_right _ h9))))) hown hK hP 0 cAt0 rfl 6 (by decide) (hts _ (List.mem_of_getElem? (l := wsX8_chord) (i := 2) rfl)) (fun _ h9 => h9) rfl dX8_chord_99 ?_
      refine lv_aload_n hx hb dX8_chord_102 rfl (lv_at hl 0 rfl) ?_
      refine va_get (D := D) (ci := 8) (v := .ref (q 4)) (C := RX8) (T := TX8) (N := 11) hx hb hts (fun _ h9 => List.mem_cons_of_mem _ (List.mem_append_left _ (List.mem_append_left _ (List.mem_append_left _ (List.mem_append_right _ h9))))) hown hK hP 0 cAt0 rfl 2 (by decide) (hts _ (List.mem_of_getElem? (l := wsX8_chord) (i := 1) rfl)) (fun _ h9 => h9) rfl dX8_chord_103 ?_
      refine va_getN (D := D) (ci := 2) (v := .ref (q 17)) (C := RX2) (T := TX2) (N := 4) hx hb hts (fun _ h9 => List.mem_cons_of_mem _ (List.mem_append_left _ (List.mem_append_left _ (List.mem_append_right _ h9)))) hown hK hP 4 cAt4 rfl 2 (by decide) (va_Nw.use rfl (hE.1.1 _ (List.mem_of_getElem? (l := cNF) (i := 8) rfl))) (fun _ h9 => h9) rfl dX8_chord_106 ?_
      refine lv_iload_n hx hb dX8_chord_109 rfl (lv_at hl 1 rfl) ?_
      refine va_iald (D := D) hx hb hK hP 17 0 cAr17 rfl h.1 dX8_chord_110 ?_
      have h := h.2
      refine lv_aload_n hx hb dX8_chord_111 rfl (lv_at hl 0 rfl) ?_
      refine va_get (D := D) (ci := 8) (v := .ref (q 4)) (C := RX8) (T := TX8) (N := 11) hx hb hts (fun _ h9 => List.mem_cons_of_mem _ (List.mem_append_left _ (List.mem_append_left _ (List.mem_append_left _ (List.mem_append_right _ h9))))) hown hK hP 0 cAt0 rfl 2 (by decide) (hts _ (List.mem_of_getElem? (l := wsX8_chord) (i := 1) rfl)) (fun _ h9 => h9) rfl dX8_chord_112 ?_
      refine va_getN (D := D) (ci := 2) (v := .ref (q 18)) (C := RX2) (T := TX2) (N := 4) hx hb hts (fun _ h9 => List.mem_cons_of_mem _ (List.mem_append_left _ (List.mem_append_left _ (List.mem_append_right _ h9)))) hown hK hP 4 cAt4 rfl 3 (by decide) (va_Nw.use rfl (hE.1.1 _ (List.mem_of_getElem? (l := cNF) (i := 10) rfl))) (fun _ h9 => h9) rfl dX8_chord_115 ?_
      refine lv_iload_n hx hb dX8_chord_118 rfl (lv_at hl 1 rfl) ?_
      refine va_iald (D := D) hx hb hK hP 18 0 cAr18 rfl h.1 dX8_chord_119 ?_
      have h := h.2
      refine gCallI (D := D) (va_runV (As := [.int (F 17 (a1).toNatClampNeg), .int (F 18 (a1).toNatClampNeg)]) (rest := []) ⟨hx, hb, hml, hown, hts⟩ (c_X7_leastThatFits_8 l D q cI cO hq (F 17 (a1).toNatClampNeg) (F 18 (a1).toNatClampNeg)  I F _ h) (cwV 2 hts gX8_chord_X7_leastThatFits rfl rfl rfl (by decide +kernel) ⟨Nat.le_trans (Nat.le_of_ble_eq_true rfl) hRf, Nat.le_trans (Nat.le_of_ble_eq_true rfl) hRl⟩) (gPreV (ci := 7) (q0 := 8) cEok hE hK hP hS rfl cAt8) rfl rfl hl.1 rfl (lv_room (Nat.le_of_ble_eq_true rfl)) dX8_chord_120 ⟨Nat.zero_le _, Nat.zero_le _⟩) hS (fun r5 _ H locs hP hS h => ?_)
      have hP : va_P D vwCl (cW q cI cO I F) H := hP
      exact hret r5 () _ _ _ _ dX8_chord_123 hP hS h
    by_cases c3_4 : a2 = (4 : Int32)
    · have h := h.2.2.2.2.1 c3_4
      refine lv_tableIn (tgt := 124) (off := 109) hx hb dX8_chord_15 (by rw [c3_4]; decide) (by rw [c3_4]; decide) (by rw [c3_4]; rfl) (by decide) ?_
      refine lv_aload_n hx hb dX8_chord_124 rfl (lv_at hl 0 rfl) ?_
      refine va_get (D := D) (ci := 8) (v := .ref (q 6)) (C := RX8) (T := TX8) (N := 11) hx hb hts (fun _ h9 => List.mem_cons_of_mem _ (List.mem_append_left _ (List.mem_append_left _ (List.mem_append_left _ (List.mem_append_right _ h9))))) hown hK hP 0 cAt0 rfl 4 (by decide) (hts _ (List.mem_of_getElem? (l := wsX8_chord) (i := 3) rfl)) (fun _ h9 => h9) rfl dX8_chord_125 ?_
      refine lv_iload_n hx hb dX8_chord_128 rfl (lv_at hl 1 rfl) ?_
      refine gCallI (D := D) (va_runV (As := [.int a1]) (rest := []) ⟨hx, hb, hml, hown, hts⟩ (c_X6_sortsOf_6 l D q cI cO hq a1  I F _ h) (cwV 1 hts gX8_chord_X6_sortsOf rfl rfl rfl (by decide +kernel) ⟨Nat.le_trans (Nat.le_of_ble_eq_true rfl) hRf, Nat.le_trans (Nat.le_of_ble_eq_true rfl) hRl⟩) (gPreV (ci := 6) (q0 := 6) cEok hE hK hP hS rfl cAt6) rfl rfl hl.1 rfl (lv_room (Nat.le_of_ble_eq_true rfl)) dX8_chord_129 ⟨Nat.zero_le _, Nat.zero_le _⟩) hS (fun r6 _ H locs hP hS h => ?_)
      have hP : va_P D vwCl (cW q cI cO I F) H := hP
      exact hret r6 () _ _ _ _ dX8_chord_132 hP hS h
    by_cases c3_5 : a2 = (5 : Int32)
    · have h := h.2.2.2.2.2.1 c3_5
      refine lv_tableIn (tgt := 133) (off := 118) hx hb dX8_chord_15 (by rw [c3_5]; decide) (by rw [c3_5]; decide) (by rw [c3_5]; rfl) (by decide) ?_
      refine lv_aload_n hx hb dX8_chord_133 rfl (lv_at hl 0 rfl) ?_
      refine va_get (D := D) (ci := 8) (v := .ref (q 6)) (C := RX8) (T := TX8) (N := 11) hx hb hts (fun _ h9 => List.mem_cons_of_mem _ (List.mem_append_left _ (List.mem_append_left _ (List.mem_append_left _ (List.mem_append_right _ h9))))) hown hK hP 0 cAt0 rfl 4 (by decide) (hts _ (List.mem_of_getElem? (l := wsX8_chord) (i := 3) rfl)) (fun _ h9 => h9) rfl dX8_chord_134 ?_
      refine lv_iload_n hx hb dX8_chord_137 rfl (lv_at hl 1 rfl) ?_
      refine gCallI (D := D) (va_runV (As := [.int a1]) (rest := []) ⟨hx, hb, hml, hown, hts⟩ (c_X6_nextQuestion_6 l D q cI cO hq a1  I F _ h) (cwV 1 hts gX8_chord_X6_nextQuestion rfl rfl rfl (by decide +kernel) ⟨Nat.le_trans (Nat.le_of_ble_eq_true rfl) hRf, Nat.le_trans (Nat.le_of_ble_eq_true rfl) hRl⟩) (gPreV (ci := 6) (q0 := 6) cEok hE hK hP hS rfl cAt6) rfl rfl hl.1 rfl (lv_room (Nat.le_of_ble_eq_true rfl)) dX8_chord_138 ⟨Nat.zero_le _, Nat.zero_le _⟩) hS (fun r7 _ H locs hP hS h => ?_)
      have hP : va_P D vwCl (cW q cI cO I F) H := hP
      exact hret r7 () _ _ _ _ dX8_chord_141 hP hS h
    have h := h.2.2.2.2.2.2 c3_0 c3_1 c3_2 c3_3 c3_4 c3_5
    have tc3_0 := lv_neT (a := 0) c3_0 rfl
    have tc3_1 := lv_neT (a := 1) c3_1 rfl
    have tc3_2 := lv_neT (a := 2) c3_2 rfl
    have tc3_3 := lv_neT (a := 3) c3_3 rfl
    have tc3_4 := lv_neT (a := 4) c3_4 rfl
    have tc3_5 := lv_neT (a := 5) c3_5 rfl
    refine lv_tableOut (tgt := 142) hx hb dX8_chord_15 (by omega) (by decide) ?_
    refine lv_bipush (v := (-102 : Int32)) hx hb dX8_chord_142 (by decide) ?_
    exact hret (-102 : Int32) () _ _ _ _ dX8_chord_144 hP hS h
  · have h := h.2 c2
    refine lv_bipush (v := (-101 : Int32)) hx hb dX8_chord_11 (by decide) ?_
    exact hret (-101 : Int32) () _ _ _ _ dX8_chord_13 hP hS h
def w_X8_isKind (a0 : Int32) (I : Nat → Int32) (F : Nat → Nat → Int32) (post : Int32 → Prop) : Prop :=
  ((a0 < 0 → post (0 : Int32)) ∧ (¬ a0 < 0 → (((5 : Int32) ≤ a0 → post (0 : Int32)) ∧ (¬ (5 : Int32) ≤ a0 → post (1 : Int32)))))
set_option maxHeartbeats 4000000 in
set_option maxRecDepth 100000 in
theorem c_X8_isKind (l : Launch) (D : va_G) (q : Nat → Nat) (cI cO : ClassId) (hq : cOk q) (a0 : Int32)  (I : Nat → Int32) (F : Nat → Nat → Int32) (post : Int32 → Prop) (h : w_X8_isKind a0 I F post) : Met l yX8_isKind wsX8_isKind ({ frames := 0, cells := 0, slots := 0, locals := 0 } : Room) (gPre D (cTys cI cO) (cW q cI cO I F) (cEnv q) [.int a0]) (va_Qi (fun r (_ : Unit) => post r) (gB D (fun _ : Unit => cW q cI cO I F)) (cA q)) 0 0 (cA q) := by
  refine gMetZ (by decide) rfl (Nat.le_of_ble_eq_true rfl) ?_
  intro p e R s m args below meth c Q ls hR hx hb hml hown hts hK hE hP hl hret
  have hRf : 0 ≤ R.frames := by subst hR; exact Nat.le_refl _
  have hRl : 0 ≤ R.locals := by subst hR; exact Nat.le_refl _
  have hown : s.vm.findClass RX8 = some m.cls := hown
  have hl : lv_has ls 1 [(0, .int a0)] := hl
  have hS : va_S (cA q) s.heap s.heap [] := va_S.rf
  have hP : va_P D vwCl (cW q cI cO I F) s.heap := hP
  refine lv_iload_n hx hb dX8_isKind_0 rfl (lv_at hl 0 rfl) ?_
  refine lv_if_lt (tgt := 13) hx hb dX8_isKind_1 (by decide) (fun c1 => ?_) (fun c1 => ?_)
  · have h := h.1 c1
    refine lv_iconst (v := (0 : Int32)) hx hb dX8_isKind_13 (by decide) ?_
    exact hret (0 : Int32) () _ _ _ _ dX8_isKind_14 hP hS (by decide) h
  · have h := h.2 c1
    refine lv_iload_n hx hb dX8_isKind_4 rfl (lv_at hl 0 rfl) ?_
    refine lv_iconst (v := (5 : Int32)) hx hb dX8_isKind_5 (by decide) ?_
    refine lv_icmp_ge (tgt := 13) hx hb dX8_isKind_6 (by decide) (fun c2 => ?_) (fun c2 => ?_)
    · have h := h.1 c2
      refine lv_iconst (v := (0 : Int32)) hx hb dX8_isKind_13 (by decide) ?_
      exact hret (0 : Int32) () _ _ _ _ dX8_isKind_14 hP hS (by decide) h
    · have h := h.2 c2
      refine lv_iconst (v := (1 : Int32)) hx hb dX8_isKind_9 (by decide) ?_
      refine lv_goto (tgt := 14) hx hb dX8_isKind_10 (by decide) ?_
      exact hret (1 : Int32) () _ _ _ _ dX8_isKind_14 hP hS (by decide) h
def w_X8_isHeld (a0 : Int32) (I : Nat → Int32) (F : Nat → Nat → Int32) (post : Int32 → Prop) : Prop :=
  ((a0 = (2 : Int32) → post (1 : Int32)) ∧ (¬ a0 = (2 : Int32) → ((¬ a0 = (4 : Int32) → post (0 : Int32)) ∧ (a0 = (4 : Int32) → post (1 : Int32)))))
set_option maxHeartbeats 4000000 in
set_option maxRecDepth 100000 in
theorem c_X8_isHeld (l : Launch) (D : va_G) (q : Nat → Nat) (cI cO : ClassId) (hq : cOk q) (a0 : Int32)  (I : Nat → Int32) (F : Nat → Nat → Int32) (post : Int32 → Prop) (h : w_X8_isHeld a0 I F post) : Met l yX8_isHeld wsX8_isHeld ({ frames := 0, cells := 0, slots := 0, locals := 0 } : Room) (gPre D (cTys cI cO) (cW q cI cO I F) (cEnv q) [.int a0]) (va_Qi (fun r (_ : Unit) => post r) (gB D (fun _ : Unit => cW q cI cO I F)) (cA q)) 0 0 (cA q) := by
  refine gMetZ (by decide) rfl (Nat.le_of_ble_eq_true rfl) ?_
  intro p e R s m args below meth c Q ls hR hx hb hml hown hts hK hE hP hl hret
  have hRf : 0 ≤ R.frames := by subst hR; exact Nat.le_refl _
  have hRl : 0 ≤ R.locals := by subst hR; exact Nat.le_refl _
  have hown : s.vm.findClass RX8 = some m.cls := hown
  have hl : lv_has ls 1 [(0, .int a0)] := hl
  have hS : va_S (cA q) s.heap s.heap [] := va_S.rf
  have hP : va_P D vwCl (cW q cI cO I F) s.heap := hP
  refine lv_iload_n hx hb dX8_isHeld_0 rfl (lv_at hl 0 rfl) ?_
  refine lv_iconst (v := (2 : Int32)) hx hb dX8_isHeld_1 (by decide) ?_
  refine lv_icmp_eq (tgt := 10) hx hb dX8_isHeld_2 (by decide) (fun c1 => ?_) (fun c1 => ?_)
  · have h := h.1 c1
    refine lv_iconst (v := (1 : Int32)) hx hb dX8_isHeld_10 (by decide) ?_
    refine lv_goto (tgt := 15) hx hb dX8_isHeld_11 (by decide) ?_
    exact hret (1 : Int32) () _ _ _ _ dX8_isHeld_15 hP hS (by decide) h
  · have h := h.2 c1
    refine lv_iload_n hx hb dX8_isHeld_5 rfl (lv_at hl 0 rfl) ?_
    refine lv_iconst (v := (4 : Int32)) hx hb dX8_isHeld_6 (by decide) ?_
    refine lv_icmp_ne (tgt := 14) hx hb dX8_isHeld_7 (by decide) (fun c2 => ?_) (fun c2 => ?_)
    · have h := h.1 c2
      refine lv_iconst (v := (0 : Int32)) hx hb dX8_isHeld_14 (by decide) ?_
      exact hret (0 : Int32) () _ _ _ _ dX8_isHeld_15 hP hS (by decide) h
    · have h := h.2 c2
      refine lv_iconst (v := (1 : Int32)) hx hb dX8_isHeld_10 (by decide) ?_
      refine lv_goto (tgt := 15) hx hb dX8_isHeld_11 (by decide) ?_
      exact hret (1 : Int32) () _ _ _ _ dX8_isHeld_15 hP hS (by decide) h
def w_X8_as_J60 (x1 : Int32) (z0 : Int32) (I : Nat → Int32) (F : Nat → Nat → Int32) (post : Int32 → Prop) : Prop :=
  ((z0 = 0 → post (-1 : Int32)) ∧ (¬ z0 = 0 → post x1))
def w_X8_as_J59 (x1 : Int32) (I : Nat → Int32) (F : Nat → Nat → Int32) (post : Int32 → Prop) : Prop :=
  w_X8_as_J60 x1 (0 : Int32) I F post
def w_X8_as_J55 (x1 : Int32) (I : Nat → Int32) (F : Nat → Nat → Int32) (post : Int32 → Prop) : Prop :=
  w_X8_as_J60 x1 (1 : Int32) I F post
def w_X8_as (a1 : Int32) (a2 : Int32) (I : Nat → Int32) (F : Nat → Nat → Int32) (post : Int32 → Prop) : Prop :=
  w_X2_has_4 a1 I F (fun (r2 : Int32) => ((¬ r2 = 0 → w_X8_isKind a2 I F (fun (r4 : Int32) => ((¬ r4 = 0 → vp_in a1 8 ∧ ∀ v6 : Int32, v6 = (F 17 (a1).toNatClampNeg) → ((a2 = 0 → w_X8_as_J55 a1 I F post) ∧ (¬ a2 = 0 → ((a2 = v6 → w_X8_as_J55 a1 I F post) ∧ (¬ a2 = v6 → ((¬ a2 = (2 : Int32) → w_X8_as_J59 a1 I F post) ∧ (a2 = (2 : Int32) → w_X8_isHeld v6 I F (fun (r10 : Int32) => ((r10 = 0 → w_X8_as_J59 a1 I F post) ∧ (¬ r10 = 0 → w_X8_as_J55 a1 I F post)))))))))) ∧ (r4 = 0 → post (-102 : Int32))))) ∧ (r2 = 0 → post (-101 : Int32))))
set_option maxHeartbeats 4000000 in
set_option maxRecDepth 100000 in
theorem c_X8_as (l : Launch) (D : va_G) (q : Nat → Nat) (cI cO : ClassId) (hq : cOk q) (a1 : Int32) (a2 : Int32)  (I : Nat → Int32) (F : Nat → Nat → Int32) (post : Int32 → Prop) (h : w_X8_as a1 a2 I F post) : Met l yX8_as wsX8_as ({ frames := 1, cells := 0, slots := 0, locals := 21 } : Room) (gPre D (cTys cI cO) (cW q cI cO I F) (cEnv q) [.ref (q 0), .int a1, .int a2]) (va_Qi (fun r (_ : Unit) => post r) (gB D (fun _ : Unit => cW q cI cO I F)) (cA q)) 0 0 (cA q) := by
  refine gMetI (by decide) rfl (Nat.le_of_ble_eq_true rfl) ?_
  intro p e R s m args below meth c Q ls hR hx hb hml hown hts hK hE hP hl hret
  have hRf : 1 ≤ R.frames := by subst hR; exact Nat.le_refl _
  have hRl : 21 ≤ R.locals := by subst hR; exact Nat.le_refl _
  have hown : s.vm.findClass RX8 = some m.cls := hown
  have hl : lv_has ls 5 [(0, .ref (q 0)), (1, .int a1), (2, .int a2)] := hl
  have hS : va_S (cA q) s.heap s.heap [] := va_S.rf
  have hP : va_P D vwCl (cW q cI cO I F) s.heap := hP
  have J60 : ∀ (x1 : Int32) (z0 : Int32) (H : Heap) (locs : List Loc) (ls : Array Slot), va_P D vwCl (cW q cI cO I F) H → va_S (cA q) s.heap H locs → lv_has ls 5 [(1, .int x1)] → w_X8_as_J60 x1 z0 I F post → W p l e R s m args below meth c H locs 0 0 Q (F0 m 60 ls [.int z0]) := by
    intro x1 z0 H locs ls  hP hS hl h
    refine lv_istore (lv' := [(4, .int z0), (1, .int x1)]) hx hb dX8_as_60 hl (by decide) rfl (fun ls hl => ?_)
    refine lv_iload hx hb dX8_as_62 (lv_at hl 0 rfl) ?_
    refine lv_if_eq (tgt := 71) hx hb dX8_as_64 (by decide) (fun c1 => ?_) (fun c1 => ?_)
    · have h := h.1 c1
      refine lv_iconst (v := (-1 : Int32)) hx hb dX8_as_71 (by decide) ?_
      exact hret (-1 : Int32) () _ _ _ _ dX8_as_72 hP hS h
    · have h := h.2 c1
      refine lv_iload_n hx hb dX8_as_67 rfl (lv_at hl 1 rfl) ?_
      refine lv_goto (tgt := 72) hx hb dX8_as_68 (by decide) ?_
      exact hret x1 () _ _ _ _ dX8_as_72 hP hS h
  have J59 : ∀ (x1 : Int32) (H : Heap) (locs : List Loc) (ls : Array Slot), va_P D vwCl (cW q cI cO I F) H → va_S (cA q) s.heap H locs → lv_has ls 5 [(1, .int x1)] → w_X8_as_J59 x1 I F post → W p l e R s m args below meth c H locs 0 0 Q (F0 m 59 ls []) := by
    intro x1 H locs ls  hP hS hl h
    refine lv_iconst (v := (0 : Int32)) hx hb dX8_as_59 (by decide) ?_
    exact J60 x1 (0 : Int32) _ _ _  hP hS (lv_sub hl [0] rfl) h
  have J55 : ∀ (x1 : Int32) (H : Heap) (locs : List Loc) (ls : Array Slot), va_P D vwCl (cW q cI cO I F) H → va_S (cA q) s.heap H locs → lv_has ls 5 [(1, .int x1)] → w_X8_as_J55 x1 I F post → W p l e R s m args below meth c H locs 0 0 Q (F0 m 55 ls []) := by
    intro x1 H locs ls  hP hS hl h
    refine lv_iconst (v := (1 : Int32)) hx hb dX8_as_55 (by decide) ?_
    refine lv_goto (tgt := 60) hx hb dX8_as_56 (by decide) ?_
    exact J60 x1 (1 : Int32) _ _ _  hP hS (lv_sub hl [0] rfl) h
  refine lv_aload_n hx hb dX8_as_0 rfl (lv_at hl 0 rfl) ?_
  refine va_get (D := D) (ci := 8) (v := .ref (q 4)) (C := RX8) (T := TX8) (N := 11) hx hb hts (fun _ h9 => List.mem_cons_of_mem _ (List.mem_append_left _ (List.mem_append_right _ h9))) hown hK hP 0 cAt0 rfl 2 (by decide) (hts _ (List.mem_of_getElem? (l := wsX8_as) (i := 1) rfl)) (fun _ h9 => h9) rfl dX8_as_1 ?_
  refine lv_iload_n hx hb dX8_as_4 rfl (lv_at hl 1 rfl) ?_
  refine gCallI (D := D) (va_runV (As := [.int a1]) (rest := []) ⟨hx, hb, hml, hown, hts⟩ (c_X2_has_4 l D q cI cO hq a1  I F _ h) (cwV 1 hts gX8_as_X2_has rfl rfl rfl (by decide +kernel) ⟨Nat.le_trans (Nat.le_of_ble_eq_true rfl) hRf, Nat.le_trans (Nat.le_of_ble_eq_true rfl) hRl⟩) (gPreV (ci := 2) (q0 := 4) cEok hE hK hP hS rfl cAt4) rfl rfl hl.1 rfl (lv_room (Nat.le_of_ble_eq_true rfl)) dX8_as_5 ⟨Nat.zero_le _, Nat.zero_le _⟩) hS (fun r2 _ H locs hP hS h => ?_)
  have hP : va_P D vwCl (cW q cI cO I F) H := hP
  refine lv_if_ne (tgt := 14) hx hb dX8_as_8 (by decide) (fun c3 => ?_) (fun c3 => ?_)
  · have h := h.1 c3
    refine lv_iload_n hx hb dX8_as_14 rfl (lv_at hl 2 rfl) ?_
    refine gCallI (D := D) (va_runS (As := [.int a2]) (rest := []) ⟨hx, hb, hml, hown, hts⟩ (c_X8_isKind l D q cI cO hq a2  I F _ h) (va_cwS 1 hts gX8_as_X8_isKind rfl rfl rfl (by decide +kernel) ⟨Nat.le_trans (Nat.le_of_ble_eq_true rfl) hRf, Nat.le_trans (Nat.le_of_ble_eq_true rfl) hRl⟩) (gPreS cEok hE hK hP hS) rfl rfl hl.1 rfl (lv_room (Nat.le_of_ble_eq_true rfl)) dX8_as_15 ⟨Nat.zero_le _, Nat.zero_le _⟩) hS (fun r4 _ H locs hP hS h => ?_)
    have hP : va_P D vwCl (cW q cI cO I F) H := hP
    refine lv_if_ne (tgt := 24) hx hb dX8_as_18 (by decide) (fun c5 => ?_) (fun c5 => ?_)
    · have h := h.1 c5
      refine lv_aload_n hx hb dX8_as_24 rfl (lv_at hl 0 rfl) ?_
      refine va_get (D := D) (ci := 8) (v := .ref (q 4)) (C := RX8) (T := TX8) (N := 11) hx hb hts (fun _ h9 => List.mem_cons_of_mem _ (List.mem_append_left _ (List.mem_append_right _ h9))) hown hK hP 0 cAt0 rfl 2 (by decide) (hts _ (List.mem_of_getElem? (l := wsX8_as) (i := 1) rfl)) (fun _ h9 => h9) rfl dX8_as_25 ?_
      refine va_getN (D := D) (ci := 2) (v := .ref (q 17)) (C := RX2) (T := TX2) (N := 4) hx hb hts (fun _ h9 => List.mem_cons_of_mem _ (List.mem_append_right _ h9)) hown hK hP 4 cAt4 rfl 2 (by decide) (va_Nw.use rfl (hE.1.1 _ (List.mem_of_getElem? (l := cNF) (i := 8) rfl))) (fun _ h9 => h9) rfl dX8_as_28 ?_
      refine lv_iload_n hx hb dX8_as_31 rfl (lv_at hl 1 rfl) ?_
      refine va_iald (D := D) hx hb hK hP 17 0 cAr17 rfl h.1 dX8_as_32 ?_
      have h := h.2
      refine lv_topi (fun v6 ev6 => ?_)
      have h := h v6 ev6
      refine lv_istore_n (lv' := [(3, .int v6), (0, .ref (q 0)), (1, .int a1), (2, .int a2)]) hx hb dX8_as_33 rfl hl (by decide) rfl (fun ls hl => ?_)
      refine lv_iload_n hx hb dX8_as_34 rfl (lv_at hl 3 rfl) ?_
      refine lv_if_eq (tgt := 55) hx hb dX8_as_35 (by decide) (fun c7 => ?_) (fun c7 => ?_)
      · have h := h.1 c7
        exact J55 a1 _ _ _  hP hS (lv_sub hl [2] rfl) h
      · have h := h.2 c7
        refine lv_iload_n hx hb dX8_as_38 rfl (lv_at hl 3 rfl) ?_
        refine lv_iload_n hx hb dX8_as_39 rfl (lv_at hl 0 rfl) ?_
        refine lv_icmp_eq (tgt := 55) hx hb dX8_as_40 (by decide) (fun c8 => ?_) (fun c8 => ?_)
        · have h := h.1 c8
          exact J55 a1 _ _ _  hP hS (lv_sub hl [2] rfl) h
        · have h := h.2 c8
          refine lv_iload_n hx hb dX8_as_43 rfl (lv_at hl 3 rfl) ?_
          refine lv_iconst (v := (2 : Int32)) hx hb dX8_as_44 (by decide) ?_
          refine lv_icmp_ne (tgt := 59) hx hb dX8_as_45 (by decide) (fun c9 => ?_) (fun c9 => ?_)
          · have h := h.1 c9
            exact J59 a1 _ _ _  hP hS (lv_sub hl [2] rfl) h
          · have h := h.2 c9
            refine lv_iload_n hx hb dX8_as_48 rfl (lv_at hl 0 rfl) ?_
            refine gCallI (D := D) (va_runS (As := [.int v6]) (rest := []) ⟨hx, hb, hml, hown, hts⟩ (c_X8_isHeld l D q cI cO hq v6  I F _ h) (va_cwS 1 hts gX8_as_X8_isHeld rfl rfl rfl (by decide +kernel) ⟨Nat.le_trans (Nat.le_of_ble_eq_true rfl) hRf, Nat.le_trans (Nat.le_of_ble_eq_true rfl) hRl⟩) (gPreS cEok hE hK hP hS) rfl rfl hl.1 rfl (lv_room (Nat.le_of_ble_eq_true rfl)) dX8_as_49 ⟨Nat.zero_le _, Nat.zero_le _⟩) hS (fun r10 _ H locs hP hS h => ?_)
            have hP : va_P D vwCl (cW q cI cO I F) H := hP
            refine lv_if_eq (tgt := 59) hx hb dX8_as_52 (by decide) (fun c11 => ?_) (fun c11 => ?_)
            · have h := h.1 c11
              exact J59 a1 _ _ _  hP hS (lv_sub hl [2] rfl) h
            · have h := h.2 c11
              exact J55 a1 _ _ _  hP hS (lv_sub hl [2] rfl) h
    · have h := h.2 c5
      refine lv_bipush (v := (-102 : Int32)) hx hb dX8_as_21 (by decide) ?_
      exact hret (-102 : Int32) () _ _ _ _ dX8_as_23 hP hS h
  · have h := h.2 c3
    refine lv_bipush (v := (-101 : Int32)) hx hb dX8_as_11 (by decide) ?_
    exact hret (-101 : Int32) () _ _ _ _ dX8_as_13 hP hS h
def w_X8_isPedal (a0 : Int32) (I : Nat → Int32) (F : Nat → Nat → Int32) (post : Int32 → Prop) : Prop :=
  ((a0 < 0 → post (0 : Int32)) ∧ (¬ a0 < 0 → (((7 : Int32) ≤ a0 → post (0 : Int32)) ∧ (¬ (7 : Int32) ≤ a0 → post (1 : Int32)))))
set_option maxHeartbeats 4000000 in
set_option maxRecDepth 100000 in
theorem c_X8_isPedal (l : Launch) (D : va_G) (q : Nat → Nat) (cI cO : ClassId) (hq : cOk q) (a0 : Int32)  (I : Nat → Int32) (F : Nat → Nat → Int32) (post : Int32 → Prop) (h : w_X8_isPedal a0 I F post) : Met l yX8_isPedal wsX8_isPedal ({ frames := 0, cells := 0, slots := 0, locals := 0 } : Room) (gPre D (cTys cI cO) (cW q cI cO I F) (cEnv q) [.int a0]) (va_Qi (fun r (_ : Unit) => post r) (gB D (fun _ : Unit => cW q cI cO I F)) (cA q)) 0 0 (cA q) := by
  refine gMetZ (by decide) rfl (Nat.le_of_ble_eq_true rfl) ?_
  intro p e R s m args below meth c Q ls hR hx hb hml hown hts hK hE hP hl hret
  have hRf : 0 ≤ R.frames := by subst hR; exact Nat.le_refl _
  have hRl : 0 ≤ R.locals := by subst hR; exact Nat.le_refl _
  have hown : s.vm.findClass RX8 = some m.cls := hown
  have hl : lv_has ls 1 [(0, .int a0)] := hl
  have hS : va_S (cA q) s.heap s.heap [] := va_S.rf
  have hP : va_P D vwCl (cW q cI cO I F) s.heap := hP
  refine lv_iload_n hx hb dX8_isPedal_0 rfl (lv_at hl 0 rfl) ?_
  refine lv_if_lt (tgt := 14) hx hb dX8_isPedal_1 (by decide) (fun c1 => ?_) (fun c1 => ?_)
  · have h := h.1 c1
    refine lv_iconst (v := (0 : Int32)) hx hb dX8_isPedal_14 (by decide) ?_
    exact hret (0 : Int32) () _ _ _ _ dX8_isPedal_15 hP hS (by decide) h
  · have h := h.2 c1
    refine lv_iload_n hx hb dX8_isPedal_4 rfl (lv_at hl 0 rfl) ?_
    refine lv_bipush (v := (7 : Int32)) hx hb dX8_isPedal_5 (by decide) ?_
    refine lv_icmp_ge (tgt := 14) hx hb dX8_isPedal_7 (by decide) (fun c2 => ?_) (fun c2 => ?_)
    · have h := h.1 c2
      refine lv_iconst (v := (0 : Int32)) hx hb dX8_isPedal_14 (by decide) ?_
      exact hret (0 : Int32) () _ _ _ _ dX8_isPedal_15 hP hS (by decide) h
    · have h := h.2 c2
      refine lv_iconst (v := (1 : Int32)) hx hb dX8_isPedal_10 (by decide) ?_
      refine lv_goto (tgt := 15) hx hb dX8_isPedal_11 (by decide) ?_
      exact hret (1 : Int32) () _ _ _ _ dX8_isPedal_15 hP hS (by decide) h
def w_X7_toneAt (a0 : Int32) (a1 : Int32) (I : Nat → Int32) (F : Nat → Nat → Int32) (post : Int32 → Prop) : Prop :=
  vp_in a0 7 ∧ post (((((tabN (a0).toNatClampNeg) + a1) + (12 : Int32)) - (1 : Int32)) - ((((tabN (a0).toNatClampNeg) + a1) + (12 : Int32)) - (1 : Int32)) / (12 : Int32) * (12 : Int32))
set_option maxHeartbeats 4000000 in
set_option maxRecDepth 100000 in
theorem c_X7_toneAt (l : Launch) (D : va_G) (q : Nat → Nat) (cI cO : ClassId) (hq : cOk q) (a0 : Int32) (a1 : Int32)  (I : Nat → Int32) (F : Nat → Nat → Int32) (post : Int32 → Prop) (h : w_X7_toneAt a0 a1 I F post) : Met l yX7_toneAt wsX7_toneAt ({ frames := 0, cells := 0, slots := 0, locals := 0 } : Room) (gPre D (cTys cI cO) (cW q cI cO I F) (cEnv q) [.int a0, .int a1]) (va_Qi (fun r (_ : Unit) => post r) (gB D (fun _ : Unit => cW q cI cO I F)) (cA q)) 0 0 (cA q) := by
  refine gMetI (by decide) rfl (Nat.le_of_ble_eq_true rfl) ?_
  intro p e R s m args below meth c Q ls hR hx hb hml hown hts hK hE hP hl hret
  have hRf : 0 ≤ R.frames := by subst hR; exact Nat.le_refl _
  have hRl : 0 ≤ R.locals := by subst hR; exact Nat.le_refl _
  have hown : s.vm.findClass RX7 = some m.cls := hown
  have hl : lv_has ls 2 [(0, .int a0), (1, .int a1)] := hl
  have hS : va_S (cA q) s.heap s.heap [] := va_S.rf
  have hP : va_P D vwCl (cW q cI cO I F) s.heap := hP
  refine va_gets (C := "HarpPedals$Settings") (v := .ref (q 39)) hx hb hE.2.1.1 hS hown (hts _ (List.mem_of_getElem? (l := wsX7_toneAt) (i := 1) rfl)) (fun _ h9 => h9) dX7_toneAt_0 ?_
  refine lv_iload_n hx hb dX7_toneAt_3 rfl (lv_at hl 0 rfl) ?_
  refine va_ti (v := .int (tabN (a0).toNatClampNeg)) hx hb hE.2.1.2 hS h.1 rfl dX7_toneAt_4 ?_
  have h := h.2
  refine lv_iload_n hx hb dX7_toneAt_5 rfl (lv_at hl 1 rfl) ?_
  refine lv_iadd hx hb dX7_toneAt_6 ?_
  refine lv_bipush (v := (12 : Int32)) hx hb dX7_toneAt_7 (by decide) ?_
  refine lv_iadd hx hb dX7_toneAt_9 ?_
  refine lv_iconst (v := (1 : Int32)) hx hb dX7_toneAt_10 (by decide) ?_
  refine lv_isub hx hb dX7_toneAt_11 ?_
  refine lv_bipush (v := (12 : Int32)) hx hb dX7_toneAt_12 (by decide) ?_
  refine lv_irem hx hb dX7_toneAt_14 (by decide) ?_
  exact hret (((((tabN (a0).toNatClampNeg) + a1) + (12 : Int32)) - (1 : Int32)) - ((((tabN (a0).toNatClampNeg) + a1) + (12 : Int32)) - (1 : Int32)) / (12 : Int32) * (12 : Int32)) () _ _ _ _ dX7_toneAt_15 hP hS h
def w_X8_tone (a1 : Int32) (a2 : Int32) (I : Nat → Int32) (F : Nat → Nat → Int32) (post : Int32 → Prop) : Prop :=
  w_X8_isPedal a1 I F (fun (r1 : Int32) => ((¬ r1 = 0 → w_X8_isPosition a2 I F (fun (r3 : Int32) => ((r3 = 0 → post (-102 : Int32)) ∧ (¬ r3 = 0 → w_X7_toneAt a1 a2 I F (fun (r5 : Int32) => post r5))))) ∧ (r1 = 0 → post (-101 : Int32))))
set_option maxHeartbeats 4000000 in
set_option maxRecDepth 100000 in
theorem c_X8_tone (l : Launch) (D : va_G) (q : Nat → Nat) (cI cO : ClassId) (hq : cOk q) (a1 : Int32) (a2 : Int32)  (I : Nat → Int32) (F : Nat → Nat → Int32) (post : Int32 → Prop) (h : w_X8_tone a1 a2 I F post) : Met l yX8_tone wsX8_tone ({ frames := 1, cells := 0, slots := 0, locals := 21 } : Room) (gPre D (cTys cI cO) (cW q cI cO I F) (cEnv q) [.ref (q 0), .int a1, .int a2]) (va_Qi (fun r (_ : Unit) => post r) (gB D (fun _ : Unit => cW q cI cO I F)) (cA q)) 0 0 (cA q) := by
  refine gMetI (by decide) rfl (Nat.le_of_ble_eq_true rfl) ?_
  intro p e R s m args below meth c Q ls hR hx hb hml hown hts hK hE hP hl hret
  have hRf : 1 ≤ R.frames := by subst hR; exact Nat.le_refl _
  have hRl : 21 ≤ R.locals := by subst hR; exact Nat.le_refl _
  have hown : s.vm.findClass RX8 = some m.cls := hown
  have hl : lv_has ls 3 [(0, .ref (q 0)), (1, .int a1), (2, .int a2)] := hl
  have hS : va_S (cA q) s.heap s.heap [] := va_S.rf
  have hP : va_P D vwCl (cW q cI cO I F) s.heap := hP
  refine lv_iload_n hx hb dX8_tone_0 rfl (lv_at hl 1 rfl) ?_
  refine gCallI (D := D) (va_runS (As := [.int a1]) (rest := []) ⟨hx, hb, hml, hown, hts⟩ (c_X8_isPedal l D q cI cO hq a1  I F _ h) (va_cwS 1 hts gX8_tone_X8_isPedal rfl rfl rfl (by decide +kernel) ⟨Nat.le_trans (Nat.le_of_ble_eq_true rfl) hRf, Nat.le_trans (Nat.le_of_ble_eq_true rfl) hRl⟩) (gPreS cEok hE hK hP hS) rfl rfl hl.1 rfl (lv_room (Nat.le_of_ble_eq_true rfl)) dX8_tone_1 ⟨Nat.zero_le _, Nat.zero_le _⟩) hS (fun r1 _ H locs hP hS h => ?_)
  have hP : va_P D vwCl (cW q cI cO I F) H := hP
  refine lv_if_ne (tgt := 10) hx hb dX8_tone_4 (by decide) (fun c2 => ?_) (fun c2 => ?_)
  · have h := h.1 c2
    refine lv_iload_n hx hb dX8_tone_10 rfl (lv_at hl 2 rfl) ?_
    refine gCallI (D := D) (va_runS (As := [.int a2]) (rest := []) ⟨hx, hb, hml, hown, hts⟩ (c_X8_isPosition l D q cI cO hq a2  I F _ h) (va_cwS 1 hts gX8_tone_X8_isPosition rfl rfl rfl (by decide +kernel) ⟨Nat.le_trans (Nat.le_of_ble_eq_true rfl) hRf, Nat.le_trans (Nat.le_of_ble_eq_true rfl) hRl⟩) (gPreS cEok hE hK hP hS) rfl rfl hl.1 rfl (lv_room (Nat.le_of_ble_eq_true rfl)) dX8_tone_11 ⟨Nat.zero_le _, Nat.zero_le _⟩) hS (fun r3 _ H locs hP hS h => ?_)
    have hP : va_P D vwCl (cW q cI cO I F) H := hP
    refine lv_if_eq (tgt := 25) hx hb dX8_tone_14 (by decide) (fun c4 => ?_) (fun c4 => ?_)
    · have h := h.1 c4
      refine lv_bipush (v := (-102 : Int32)) hx hb dX8_tone_25 (by decide) ?_
      exact hret (-102 : Int32) () _ _ _ _ dX8_tone_27 hP hS h
    · have h := h.2 c4
      refine lv_iload_n hx hb dX8_tone_17 rfl (lv_at hl 1 rfl) ?_
      refine lv_iload_n hx hb dX8_tone_18 rfl (lv_at hl 2 rfl) ?_
      refine gCallI (D := D) (va_runS (As := [.int a1, .int a2]) (rest := []) ⟨hx, hb, hml, hown, hts⟩ (c_X7_toneAt l D q cI cO hq a1 a2  I F _ h) (va_cwS 2 hts gX8_tone_X7_toneAt rfl rfl rfl (by decide +kernel) ⟨Nat.le_trans (Nat.le_of_ble_eq_true rfl) hRf, Nat.le_trans (Nat.le_of_ble_eq_true rfl) hRl⟩) (gPreS cEok hE hK hP hS) rfl rfl hl.1 rfl (lv_room (Nat.le_of_ble_eq_true rfl)) dX8_tone_19 ⟨Nat.zero_le _, Nat.zero_le _⟩) hS (fun r5 _ H locs hP hS h => ?_)
      have hP : va_P D vwCl (cW q cI cO I F) H := hP
      refine lv_goto (tgt := 27) hx hb dX8_tone_22 (by decide) ?_
      exact hret r5 () _ _ _ _ dX8_tone_27 hP hS h
  · have h := h.2 c2
    refine lv_bipush (v := (-101 : Int32)) hx hb dX8_tone_7 (by decide) ?_
    exact hret (-101 : Int32) () _ _ _ _ dX8_tone_9 hP hS h
def w_X7_moved (a0 : Int32) (a1 : Int32) (a2 : Int32) (I : Nat → Int32) (F : Nat → Nat → Int32) (post : Int32 → Prop) : Prop :=
  w_X7_positionAt a0 a1 I F (fun (r1 : Int32) => vp_in a1 7 ∧ post (a0 + ((a2 - r1) * (tabW (a1).toNatClampNeg))))
set_option maxHeartbeats 4000000 in
set_option maxRecDepth 100000 in
theorem c_X7_moved (l : Launch) (D : va_G) (q : Nat → Nat) (cI cO : ClassId) (hq : cOk q) (a0 : Int32) (a1 : Int32) (a2 : Int32)  (I : Nat → Int32) (F : Nat → Nat → Int32) (post : Int32 → Prop) (h : w_X7_moved a0 a1 a2 I F post) : Met l yX7_moved wsX7_moved ({ frames := 1, cells := 0, slots := 0, locals := 21 } : Room) (gPre D (cTys cI cO) (cW q cI cO I F) (cEnv q) [.int a0, .int a1, .int a2]) (va_Qi (fun r (_ : Unit) => post r) (gB D (fun _ : Unit => cW q cI cO I F)) (cA q)) 0 0 (cA q) := by
  refine gMetI (by decide) rfl (Nat.le_of_ble_eq_true rfl) ?_
  intro p e R s m args below meth c Q ls hR hx hb hml hown hts hK hE hP hl hret
  have hRf : 1 ≤ R.frames := by subst hR; exact Nat.le_refl _
  have hRl : 21 ≤ R.locals := by subst hR; exact Nat.le_refl _
  have hown : s.vm.findClass RX7 = some m.cls := hown
  have hl : lv_has ls 3 [(0, .int a0), (1, .int a1), (2, .int a2)] := hl
  have hS : va_S (cA q) s.heap s.heap [] := va_S.rf
  have hP : va_P D vwCl (cW q cI cO I F) s.heap := hP
  refine lv_iload_n hx hb dX7_moved_0 rfl (lv_at hl 0 rfl) ?_
  refine lv_iload_n hx hb dX7_moved_1 rfl (lv_at hl 2 rfl) ?_
  refine lv_iload_n hx hb dX7_moved_2 rfl (lv_at hl 0 rfl) ?_
  refine lv_iload_n hx hb dX7_moved_3 rfl (lv_at hl 1 rfl) ?_
  refine gCallI (D := D) (va_runS (As := [.int a0, .int a1]) (rest := [.int a2, .int a0]) ⟨hx, hb, hml, hown, hts⟩ (c_X7_positionAt l D q cI cO hq a0 a1  I F _ h) (va_cwS 2 hts gX7_moved_X7_positionAt rfl rfl rfl (by decide +kernel) ⟨Nat.le_trans (Nat.le_of_ble_eq_true rfl) hRf, Nat.le_trans (Nat.le_of_ble_eq_true rfl) hRl⟩) (gPreS cEok hE hK hP hS) rfl rfl hl.1 rfl (lv_room (Nat.le_of_ble_eq_true rfl)) dX7_moved_4 ⟨Nat.zero_le _, Nat.zero_le _⟩) hS (fun r1 _ H locs hP hS h => ?_)
  have hP : va_P D vwCl (cW q cI cO I F) H := hP
  refine lv_isub hx hb dX7_moved_7 ?_
  refine va_gets (C := "HarpPedals$Settings") (v := .ref (q 40)) hx hb hE.2.2.1.1 hS hown (hts _ (List.mem_of_getElem? (l := wsX7_moved) (i := 1) rfl)) (fun _ h9 => h9) dX7_moved_8 ?_
  refine lv_iload_n hx hb dX7_moved_11 rfl (lv_at hl 1 rfl) ?_
  refine va_ti (v := .int (tabW (a1).toNatClampNeg)) hx hb hE.2.2.1.2 hS h.1 rfl dX7_moved_12 ?_
  have h := h.2
  refine lv_imul hx hb dX7_moved_13 ?_
  refine lv_iadd hx hb dX7_moved_14 ?_
  exact hret (a0 + ((a2 - r1) * (tabW (a1).toNatClampNeg))) () _ _ _ _ dX7_moved_15 hP hS h
def w_X8_press (a1 : Int32) (a2 : Int32) (I : Nat → Int32) (F : Nat → Nat → Int32) (post : Int32 → (Nat → Int32) → (Nat → Nat → Int32) → Prop) : Prop :=
  w_X8_isPedal a1 I F (fun (r1 : Int32) => ((¬ r1 = 0 → w_X8_isPosition a2 I F (fun (r3 : Int32) => ((¬ r3 = 0 → ((¬ (I 8) = 0 → w_X7_moved (I 7) a1 a2 I F (fun (r6 : Int32) => ∀ I7 : Nat → Int32, I7 = upd I 7 r6 → w_X3_makeStale_9 I7 F (fun (I8 : Nat → Int32) (F9 : Nat → Nat → Int32) => w_X7_numberOf (I8 7) I8 F9 (fun (r10 : Int32) => post r10 I8 F9)))) ∧ ((I 8) = 0 → post (-103 : Int32) I F))) ∧ (r3 = 0 → post (-102 : Int32) I F)))) ∧ (r1 = 0 → post (-101 : Int32) I F)))
set_option maxHeartbeats 4000000 in
set_option maxRecDepth 100000 in
theorem c_X8_press (l : Launch) (D : va_G) (q : Nat → Nat) (cI cO : ClassId) (hq : cOk q) (a1 : Int32) (a2 : Int32)  (I : Nat → Int32) (F : Nat → Nat → Int32) (post : Int32 → (Nat → Int32) → (Nat → Nat → Int32) → Prop) (h : w_X8_press a1 a2 I F post) : Met l yX8_press wsX8_press ({ frames := 2, cells := 0, slots := 0, locals := 43 } : Room) (gPre D (cTys cI cO) (cW q cI cO I F) (cEnv q) [.ref (q 0), .int a1, .int a2]) (va_Qi (fun r (u : cS) => post r u.1 u.2) (gB D (fun u : cS => cW q cI cO u.1 u.2)) (cA q)) 0 0 (cA q) := by
  refine gMetI (by decide) rfl (Nat.le_of_ble_eq_true rfl) ?_
  intro p e R s m args below meth c Q ls hR hx hb hml hown hts hK hE hP hl hret
  have hRf : 2 ≤ R.frames := by subst hR; exact Nat.le_refl _
  have hRl : 43 ≤ R.locals := by subst hR; exact Nat.le_refl _
  have hown : s.vm.findClass RX8 = some m.cls := hown
  have hl : lv_has ls 3 [(0, .ref (q 0)), (1, .int a1), (2, .int a2)] := hl
  have hS : va_S (cA q) s.heap s.heap [] := va_S.rf
  have hP : va_P D vwCl (cW q cI cO I F) s.heap := hP
  refine lv_iload_n hx hb dX8_press_0 rfl (lv_at hl 1 rfl) ?_
  refine gCallI (D := D) (va_runS (As := [.int a1]) (rest := []) ⟨hx, hb, hml, hown, hts⟩ (c_X8_isPedal l D q cI cO hq a1  I F _ h) (va_cwS 1 hts gX8_press_X8_isPedal rfl rfl rfl (by decide +kernel) ⟨Nat.le_trans (Nat.le_of_ble_eq_true rfl) hRf, Nat.le_trans (Nat.le_of_ble_eq_true rfl) hRl⟩) (gPreS cEok hE hK hP hS) rfl rfl hl.1 rfl (lv_room (Nat.le_of_ble_eq_true rfl)) dX8_press_1 ⟨Nat.zero_le _, Nat.zero_le _⟩) hS (fun r1 _ H locs hP hS h => ?_)
  have hP : va_P D vwCl (cW q cI cO I F) H := hP
  refine lv_if_ne (tgt := 10) hx hb dX8_press_4 (by decide) (fun c2 => ?_) (fun c2 => ?_)
  · have h := h.1 c2
    refine lv_iload_n hx hb dX8_press_10 rfl (lv_at hl 2 rfl) ?_
    refine gCallI (D := D) (va_runS (As := [.int a2]) (rest := []) ⟨hx, hb, hml, hown, hts⟩ (c_X8_isPosition l D q cI cO hq a2  I F _ h) (va_cwS 1 hts gX8_press_X8_isPosition rfl rfl rfl (by decide +kernel) ⟨Nat.le_trans (Nat.le_of_ble_eq_true rfl) hRf, Nat.le_trans (Nat.le_of_ble_eq_true rfl) hRl⟩) (gPreS cEok hE hK hP hS) rfl rfl hl.1 rfl (lv_room (Nat.le_of_ble_eq_true rfl)) dX8_press_11 ⟨Nat.zero_le _, Nat.zero_le _⟩) hS (fun r3 _ H locs hP hS h => ?_)
    have hP : va_P D vwCl (cW q cI cO I F) H := hP
    refine lv_if_ne (tgt := 20) hx hb dX8_press_14 (by decide) (fun c4 => ?_) (fun c4 => ?_)
    · have h := h.1 c4
      refine lv_aload_n hx hb dX8_press_20 rfl (lv_at hl 0 rfl) ?_
      refine va_get (D := D) (ci := 8) (v := .ref (q 4)) (C := RX8) (T := TX8) (N := 11) hx hb hts (fun _ h9 => List.mem_cons_of_mem _ (List.mem_append_left _ (List.mem_append_left _ (List.mem_append_right _ h9)))) hown hK hP 0 cAt0 rfl 2 (by decide) (hts _ (List.mem_of_getElem? (l := wsX8_press) (i := 1) rfl)) (fun _ h9 => h9) rfl dX8_press_21 ?_
      refine va_getN (D := D) (ci := 2) (v := .int (I 8)) (C := RX2) (T := TX2) (N := 4) hx hb hts (fun _ h9 => List.mem_cons_of_mem _ (List.mem_append_left _ (List.mem_append_right _ h9))) hown hK hP 4 cAt4 rfl 1 (by decide) (va_Nw.use rfl (hE.1.1 _ (List.mem_of_getElem? (l := cNF) (i := 6) rfl))) (fun _ h9 => h9) rfl dX8_press_24 ?_
      refine lv_if_ne (tgt := 33) hx hb dX8_press_27 (by decide) (fun c5 => ?_) (fun c5 => ?_)
      · have h := h.1 c5
        refine lv_aload_n hx hb dX8_press_33 rfl (lv_at hl 0 rfl) ?_
        refine va_get (D := D) (ci := 8) (v := .ref (q 4)) (C := RX8) (T := TX8) (N := 11) hx hb hts (fun _ h9 => List.mem_cons_of_mem _ (List.mem_append_left _ (List.mem_append_left _ (List.mem_append_right _ h9)))) hown hK hP 0 cAt0 rfl 2 (by decide) (hts _ (List.mem_of_getElem? (l := wsX8_press) (i := 1) rfl)) (fun _ h9 => h9) rfl dX8_press_34 ?_
        refine lv_aload_n hx hb dX8_press_37 rfl (lv_at hl 0 rfl) ?_
        refine va_get (D := D) (ci := 8) (v := .ref (q 4)) (C := RX8) (T := TX8) (N := 11) hx hb hts (fun _ h9 => List.mem_cons_of_mem _ (List.mem_append_left _ (List.mem_append_left _ (List.mem_append_right _ h9)))) hown hK hP 0 cAt0 rfl 2 (by decide) (hts _ (List.mem_of_getElem? (l := wsX8_press) (i := 1) rfl)) (fun _ h9 => h9) rfl dX8_press_38 ?_
        refine va_getN (D := D) (ci := 2) (v := .int (I 7)) (C := RX2) (T := TX2) (N := 4) hx hb hts (fun _ h9 => List.mem_cons_of_mem _ (List.mem_append_left _ (List.mem_append_right _ h9))) hown hK hP 4 cAt4 rfl 0 (by decide) (va_Nw.use rfl (hE.1.1 _ (List.mem_of_getElem? (l := cNF) (i := 4) rfl))) (fun _ h9 => h9) rfl dX8_press_41 ?_
        refine lv_iload_n hx hb dX8_press_44 rfl (lv_at hl 1 rfl) ?_
        refine lv_iload_n hx hb dX8_press_45 rfl (lv_at hl 2 rfl) ?_
        refine gCallI (D := D) (va_runS (As := [.int (I 7), .int a1, .int a2]) (rest := [.ref (q 4)]) ⟨hx, hb, hml, hown, hts⟩ (c_X7_moved l D q cI cO hq (I 7) a1 a2  I F _ h) (va_cwS 3 hts gX8_press_X7_moved rfl rfl rfl (by decide +kernel) ⟨Nat.le_trans (Nat.le_of_ble_eq_true rfl) hRf, Nat.le_trans (Nat.le_of_ble_eq_true rfl) hRl⟩) (gPreS cEok hE hK hP hS) rfl rfl hl.1 rfl (lv_room (Nat.le_of_ble_eq_true rfl)) dX8_press_46 ⟨Nat.zero_le _, Nat.zero_le _⟩) hS (fun r6 _ H locs hP hS h => ?_)
        have hP : va_P D vwCl (cW q cI cO I F) H := hP
        refine gPutN (D := D) (ci := 2) (ty := .int) (C := RX2) (T := TX2) (N := 4) hx hb hts (fun _ h9 => List.mem_cons_of_mem _ (List.mem_append_left _ (List.mem_append_right _ h9))) tyX2 tyX2_ok nmX2 hown hK hP (cD hq) hS 4 cAt4 rfl 0 (by decide) (va_Nw.use rfl (hE.1.1 _ (List.mem_of_getElem? (l := cNF) (i := 4) rfl))) (fun _ h9 => h9) rfl (by decide +kernel) rfl rfl (Nat.le_of_ble_eq_true rfl) dX8_press_49 (cSet7 r6) (fun H locs hP hS => ?_)
        obtain ⟨I7, eI7⟩ : ∃ z : Nat → Int32, z = upd I 7 r6 := ⟨_, rfl⟩
        rw [← eI7] at hP
        have h := h I7 eI7
        refine lv_aload_n hx hb dX8_press_52 rfl (lv_at hl 0 rfl) ?_
        refine va_get (D := D) (ci := 8) (v := .ref (q 9)) (C := RX8) (T := TX8) (N := 11) hx hb hts (fun _ h9 => List.mem_cons_of_mem _ (List.mem_append_left _ (List.mem_append_left _ (List.mem_append_right _ h9)))) hown hK hP 0 cAt0 rfl 7 (by decide) (hts _ (List.mem_of_getElem? (l := wsX8_press) (i := 2) rfl)) (fun _ h9 => h9) rfl dX8_press_53 ?_
        refine gCallV (D := D) (va_runV (As := []) (rest := []) ⟨hx, hb, hml, hown, hts⟩ (c_X3_makeStale_9 l D q cI cO hq   I7 F _ h) (cwV 0 hts gX8_press_X3_makeStale rfl rfl rfl (by decide +kernel) ⟨Nat.le_trans (Nat.le_of_ble_eq_true rfl) hRf, Nat.le_trans (Nat.le_of_ble_eq_true rfl) hRl⟩) (gPreV (ci := 3) (q0 := 9) cEok hE hK hP hS rfl cAt9) rfl rfl hl.1 rfl (lv_room (Nat.le_of_ble_eq_true rfl)) dX8_press_56 ⟨Nat.zero_le _, Nat.zero_le _⟩) hS (fun u H locs hP hS h => ?_)
        obtain ⟨I8, F9⟩ := u
        have hP : va_P D vwCl (cW q cI cO I8 F9) H := hP
        refine lv_aload_n hx hb dX8_press_59 rfl (lv_at hl 0 rfl) ?_
        refine va_get (D := D) (ci := 8) (v := .ref (q 4)) (C := RX8) (T := TX8) (N := 11) hx hb hts (fun _ h9 => List.mem_cons_of_mem _ (List.mem_append_left _ (List.mem_append_left _ (List.mem_append_right _ h9)))) hown hK hP 0 cAt0 rfl 2 (by decide) (hts _ (List.mem_of_getElem? (l := wsX8_press) (i := 1) rfl)) (fun _ h9 => h9) rfl dX8_press_60 ?_
        refine va_getN (D := D) (ci := 2) (v := .int (I8 7)) (C := RX2) (T := TX2) (N := 4) hx hb hts (fun _ h9 => List.mem_cons_of_mem _ (List.mem_append_left _ (List.mem_append_right _ h9))) hown hK hP 4 cAt4 rfl 0 (by decide) (va_Nw.use rfl (hE.1.1 _ (List.mem_of_getElem? (l := cNF) (i := 4) rfl))) (fun _ h9 => h9) rfl dX8_press_63 ?_
        refine gCallI (D := D) (va_runS (As := [.int (I8 7)]) (rest := []) ⟨hx, hb, hml, hown, hts⟩ (c_X7_numberOf l D q cI cO hq (I8 7)  I8 F9 _ h) (va_cwS 1 hts gX8_press_X7_numberOf rfl rfl rfl (by decide +kernel) ⟨Nat.le_trans (Nat.le_of_ble_eq_true rfl) hRf, Nat.le_trans (Nat.le_of_ble_eq_true rfl) hRl⟩) (gPreS cEok hE hK hP hS) rfl rfl hl.1 rfl (lv_room (Nat.le_of_ble_eq_true rfl)) dX8_press_66 ⟨Nat.zero_le _, Nat.zero_le _⟩) hS (fun r10 _ H locs hP hS h => ?_)
        have hP : va_P D vwCl (cW q cI cO I8 F9) H := hP
        exact hret r10 (I8, F9) _ _ _ _ dX8_press_69 hP hS h
      · have h := h.2 c5
        refine lv_bipush (v := (-103 : Int32)) hx hb dX8_press_30 (by decide) ?_
        exact hret (-103 : Int32) (I, F) _ _ _ _ dX8_press_32 hP hS h
    · have h := h.2 c4
      refine lv_bipush (v := (-102 : Int32)) hx hb dX8_press_17 (by decide) ?_
      exact hret (-102 : Int32) (I, F) _ _ _ _ dX8_press_19 hP hS h
  · have h := h.2 c2
    refine lv_bipush (v := (-101 : Int32)) hx hb dX8_press_7 (by decide) ?_
    exact hret (-101 : Int32) (I, F) _ _ _ _ dX8_press_9 hP hS h
def w_X8_areTones (a0 : Int32) (I : Nat → Int32) (F : Nat → Nat → Int32) (post : Int32 → Prop) : Prop :=
  ((a0 ≤ 0 → post (0 : Int32)) ∧ (¬ a0 ≤ 0 → (((4095 : Int32) < a0 → post (0 : Int32)) ∧ (¬ (4095 : Int32) < a0 → w_J6_bitCount_0f7a4 a0 I F (fun (r3 : Int32) => (((4 : Int32) < r3 → post (0 : Int32)) ∧ (¬ (4 : Int32) < r3 → post (1 : Int32))))))))
set_option maxHeartbeats 4000000 in
set_option maxRecDepth 100000 in
theorem c_X8_areTones (l : Launch) (D : va_G) (q : Nat → Nat) (cI cO : ClassId) (hq : cOk q) (a0 : Int32)  (I : Nat → Int32) (F : Nat → Nat → Int32) (post : Int32 → Prop) (h : w_X8_areTones a0 I F post) : Met l yX8_areTones wsX8_areTones ({ frames := 1, cells := 0, slots := 0, locals := 20 } : Room) (gPre D (cTys cI cO) (cW q cI cO I F) (cEnv q) [.int a0]) (va_Qi (fun r (_ : Unit) => post r) (gB D (fun _ : Unit => cW q cI cO I F)) (cA q)) 0 0 (cA q) := by
  refine gMetZ (by decide) rfl (Nat.le_of_ble_eq_true rfl) ?_
  intro p e R s m args below meth c Q ls hR hx hb hml hown hts hK hE hP hl hret
  have hRf : 1 ≤ R.frames := by subst hR; exact Nat.le_refl _
  have hRl : 20 ≤ R.locals := by subst hR; exact Nat.le_refl _
  have hown : s.vm.findClass RX8 = some m.cls := hown
  have hl : lv_has ls 1 [(0, .int a0)] := hl
  have hS : va_S (cA q) s.heap s.heap [] := va_S.rf
  have hP : va_P D vwCl (cW q cI cO I F) s.heap := hP
  refine lv_iload_n hx hb dX8_areTones_0 rfl (lv_at hl 0 rfl) ?_
  refine lv_if_le (tgt := 23) hx hb dX8_areTones_1 (by decide) (fun c1 => ?_) (fun c1 => ?_)
  · have h := h.1 c1
    refine lv_iconst (v := (0 : Int32)) hx hb dX8_areTones_23 (by decide) ?_
    exact hret (0 : Int32) () _ _ _ _ dX8_areTones_24 hP hS (by decide) h
  · have h := h.2 c1
    refine lv_iload_n hx hb dX8_areTones_4 rfl (lv_at hl 0 rfl) ?_
    refine lv_sipush (v := (4095 : Int32)) hx hb dX8_areTones_5 (by decide) ?_
    refine lv_icmp_gt (tgt := 23) hx hb dX8_areTones_8 (by decide) (fun c2 => ?_) (fun c2 => ?_)
    · have h := h.1 c2
      refine lv_iconst (v := (0 : Int32)) hx hb dX8_areTones_23 (by decide) ?_
      exact hret (0 : Int32) () _ _ _ _ dX8_areTones_24 hP hS (by decide) h
    · have h := h.2 c2
      refine lv_iload_n hx hb dX8_areTones_11 rfl (lv_at hl 0 rfl) ?_
      refine gCallI (D := D) (va_runS (As := [.int a0]) (rest := []) ⟨hx, hb, hml, hown, hts⟩ (c_J6_bitCount_0f7a4 l D q cI cO hq a0  I F _ h) (va_cwS 1 hts gX8_areTones_J6_bitCount_0f7a4 rfl rfl rfl (by decide +kernel) ⟨Nat.le_trans (Nat.le_of_ble_eq_true rfl) hRf, Nat.le_trans (Nat.le_of_ble_eq_true rfl) hRl⟩) (gPreS cEok hE hK hP hS) rfl rfl hl.1 rfl (lv_room (Nat.le_of_ble_eq_true rfl)) dX8_areTones_12 ⟨Nat.zero_le _, Nat.zero_le _⟩) hS (fun r3 _ H locs hP hS h => ?_)
      have hP : va_P D vwCl (cW q cI cO I F) H := hP
      refine lv_iconst (v := (4 : Int32)) hx hb dX8_areTones_15 (by decide) ?_
      refine lv_icmp_gt (tgt := 23) hx hb dX8_areTones_16 (by decide) (fun c4 => ?_) (fun c4 => ?_)
      · have h := h.1 c4
        refine lv_iconst (v := (0 : Int32)) hx hb dX8_areTones_23 (by decide) ?_
        exact hret (0 : Int32) () _ _ _ _ dX8_areTones_24 hP hS (by decide) h
      · have h := h.2 c4
        refine lv_iconst (v := (1 : Int32)) hx hb dX8_areTones_19 (by decide) ?_
        refine lv_goto (tgt := 24) hx hb dX8_areTones_20 (by decide) ?_
        exact hret (1 : Int32) () _ _ _ _ dX8_areTones_24 hP hS (by decide) h
def w_X2_insert_4_B29 (x1 : Int32) (x2 : Int32) (x3 : Int32) (k again : Int32 → (Nat → Int32) → (Nat → Nat → Int32) → Prop) (x4 : Int32) (I : Nat → Int32) (F : Nat → Nat → Int32) : Prop :=
  ((x4 ≤ x1 → k x4 I F) ∧ (¬ x4 ≤ x1 → vp_in (x4 - (1 : Int32)) 8 ∧ vp_in x4 8 ∧ ∀ F2 : Nat → Nat → Int32, F2 = upF F 17 (upd (F 17) (x4).toNatClampNeg (F 17 ((x4 - (1 : Int32))).toNatClampNeg)) → vp_in (x4 - (1 : Int32)) 8 ∧ vp_in x4 8 ∧ ∀ F3 : Nat → Nat → Int32, F3 = upF F2 18 (upd (F2 18) (x4).toNatClampNeg (F2 18 ((x4 - (1 : Int32))).toNatClampNeg)) → again (x4 + (-1 : Int32)) I F3))
def w_X2_insert_4 (a1 : Int32) (a2 : Int32) (a3 : Int32) (I : Nat → Int32) (F : Nat → Nat → Int32) (post : Int32 → (Nat → Int32) → (Nat → Nat → Int32) → Prop) : Prop :=
  (((8 : Int32) ≤ (I 8) → post (0 : Int32) I F) ∧ (¬ (8 : Int32) ≤ (I 8) → ((a1 < 0 → post (0 : Int32) I F) ∧ (¬ a1 < 0 → ((a1 ≤ (I 8) → ∀ v7 : Int32, v7 = (I 8) → gL (fun ag v => w_X2_insert_4_B29 a1 a2 a3 (fun (y8 : Int32) (I9 : Nat → Int32) (F10 : Nat → Nat → Int32) => vp_in a1 8 ∧ ∀ F11 : Nat → Nat → Int32, F11 = upF F10 17 (upd (F10 17) (a1).toNatClampNeg a2) → vp_in a1 8 ∧ ∀ F12 : Nat → Nat → Int32, F12 = upF F11 18 (upd (F11 18) (a1).toNatClampNeg a3) → ∀ I13 : Nat → Int32, I13 = upd I9 8 ((I9 8) + (1 : Int32)) → post (1 : Int32) I13 F12) (fun b0 b1 b2 => ag (b0, b1, b2)) v.1 v.2.1 v.2.2) (v7, I, F)) ∧ (¬ a1 ≤ (I 8) → post (0 : Int32) I F))))))
set_option maxHeartbeats 4000000 in
set_option maxRecDepth 100000 in
theorem c_X2_insert_4 (l : Launch) (D : va_G) (q : Nat → Nat) (cI cO : ClassId) (hq : cOk q) (a1 : Int32) (a2 : Int32) (a3 : Int32)  (I : Nat → Int32) (F : Nat → Nat → Int32) (post : Int32 → (Nat → Int32) → (Nat → Nat → Int32) → Prop) (h : w_X2_insert_4 a1 a2 a3 I F post) : Met l yX2_insert wsX2_insert ({ frames := 0, cells := 0, slots := 0, locals := 0 } : Room) (gPre D (cTys cI cO) (cW q cI cO I F) (cEnv q) [.ref (q 4), .int a1, .int a2, .int a3]) (va_Qi (fun r (u : cS) => post r u.1 u.2) (gB D (fun u : cS => cW q cI cO u.1 u.2)) (cA q)) 0 0 (cA q) := by
  refine gMetZ (by decide) rfl (Nat.le_of_ble_eq_true rfl) ?_
  intro p e R s m args below meth c Q ls hR hx hb hml hown hts hK hE hP hl hret
  have hRf : 0 ≤ R.frames := by subst hR; exact Nat.le_refl _
  have hRl : 0 ≤ R.locals := by subst hR; exact Nat.le_refl _
  have hown : s.vm.findClass RX2 = some m.cls := hown
  have hl : lv_has ls 5 [(0, .ref (q 4)), (1, .int a1), (2, .int a2), (3, .int a3)] := hl
  have hS : va_S (cA q) s.heap s.heap [] := va_S.rf
  have hP : va_P D vwCl (cW q cI cO I F) s.heap := hP
  have L29 : ∀ (n : Nat) (x1 : Int32) (x2 : Int32) (x3 : Int32) (k : Int32 → (Nat → Int32) → (Nat → Nat → Int32) → Prop) (x4 : Int32) (I : Nat → Int32) (F : Nat → Nat → Int32) (H : Heap) (locs : List Loc) (ls : Array Slot), va_P D vwCl (cW q cI cO I F) H → va_S (cA q) s.heap H locs → lv_has ls 5 [(0, .ref (q 4)), (1, .int x1), (2, .int x2), (3, .int x3), (4, .int x4)] → gLN (fun ag v => w_X2_insert_4_B29 x1 x2 x3 k (fun b0 b1 b2 => ag (b0, b1, b2)) v.1 v.2.1 v.2.2) n (x4, I, F) → (∀ (x4 : Int32) (I : Nat → Int32) (F : Nat → Nat → Int32) (H : Heap) (locs : List Loc) (ls : Array Slot), va_P D vwCl (cW q cI cO I F) H → va_S (cA q) s.heap H locs → lv_has ls 5 [(0, .ref (q 4)), (1, .int x1), (2, .int x2), (3, .int x3)] → k x4 I F → W p l e R s m args below meth c H locs 0 0 Q (F0 m 73 ls [])) → W p l e R s m args below meth c H locs 0 0 Q (F0 m 29 ls []) := by
    intro n
    induction n with
    | zero =>
      intro x1 x2 x3 k x4 I F H locs ls  hP hS hl h K
      exact False.elim h
    | succ n ih =>
      intro x1 x2 x3 k x4 I F H locs ls  hP hS hl h K
      have h : w_X2_insert_4_B29 x1 x2 x3 k (fun b0 b1 b2 => gLN (fun ag v => w_X2_insert_4_B29 x1 x2 x3 k (fun b0 b1 b2 => ag (b0, b1, b2)) v.1 v.2.1 v.2.2) n (b0, b1, b2)) x4 I F := h
      refine lv_iload hx hb dX2_insert_29 (lv_at hl 4 rfl) ?_
      refine lv_iload_n hx hb dX2_insert_31 rfl (lv_at hl 1 rfl) ?_
      refine lv_icmp_le (tgt := 73) hx hb dX2_insert_32 (by decide) (fun c1 => ?_) (fun c1 => ?_)
      · have h := h.1 c1
        exact K x4 I F _ _ _  hP hS (lv_sub hl [0, 1, 2, 3] rfl) h
      · have h := h.2 c1
        refine lv_aload_n hx hb dX2_insert_35 rfl (lv_at hl 0 rfl) ?_
        refine va_get (D := D) (ci := 2) (v := .ref (q 17)) (C := RX2) (T := TX2) (N := 4) hx hb hts (fun _ h9 => List.mem_cons_of_mem _ (List.mem_append_right _ h9)) hown hK hP 4 cAt4 rfl 2 (by decide) (hts _ (List.mem_of_getElem? (l := wsX2_insert) (i := 2) rfl)) (fun _ h9 => h9) rfl dX2_insert_36 ?_
        refine lv_iload hx hb dX2_insert_39 (lv_at hl 4 rfl) ?_
        refine lv_aload_n hx hb dX2_insert_41 rfl (lv_at hl 0 rfl) ?_
        refine va_get (D := D) (ci := 2) (v := .ref (q 17)) (C := RX2) (T := TX2) (N := 4) hx hb hts (fun _ h9 => List.mem_cons_of_mem _ (List.mem_append_right _ h9)) hown hK hP 4 cAt4 rfl 2 (by decide) (hts _ (List.mem_of_getElem? (l := wsX2_insert) (i := 2) rfl)) (fun _ h9 => h9) rfl dX2_insert_42 ?_
        refine lv_iload hx hb dX2_insert_45 (lv_at hl 4 rfl) ?_
        refine lv_iconst (v := (1 : Int32)) hx hb dX2_insert_47 (by decide) ?_
        refine lv_isub hx hb dX2_insert_48 ?_
        refine va_iald (D := D) hx hb hK hP 17 0 cAr17 rfl h.1 dX2_insert_49 ?_
        have h := h.2
        refine gAst (D := D) hx hb hK hP (cD hq) hS 17 0 cAr17 rfl h.1 dX2_insert_50 (cSA17 _) (fun H locs hP hS => ?_)
        obtain ⟨F2, eF2⟩ : ∃ z : Nat → Nat → Int32, z = upF F 17 (upd (F 17) (x4).toNatClampNeg (F 17 ((x4 - (1 : Int32))).toNatClampNeg)) := ⟨_, rfl⟩
        rw [← eF2] at hP
        have h := h.2 F2 eF2
        refine lv_aload_n hx hb dX2_insert_51 rfl (lv_at hl 0 rfl) ?_
        refine va_get (D := D) (ci := 2) (v := .ref (q 18)) (C := RX2) (T := TX2) (N := 4) hx hb hts (fun _ h9 => List.mem_cons_of_mem _ (List.mem_append_right _ h9)) hown hK hP 4 cAt4 rfl 3 (by decide) (hts _ (List.mem_of_getElem? (l := wsX2_insert) (i := 3) rfl)) (fun _ h9 => h9) rfl dX2_insert_52 ?_
        refine lv_iload hx hb dX2_insert_55 (lv_at hl 4 rfl) ?_
        refine lv_aload_n hx hb dX2_insert_57 rfl (lv_at hl 0 rfl) ?_
        refine va_get (D := D) (ci := 2) (v := .ref (q 18)) (C := RX2) (T := TX2) (N := 4) hx hb hts (fun _ h9 => List.mem_cons_of_mem _ (List.mem_append_right _ h9)) hown hK hP 4 cAt4 rfl 3 (by decide) (hts _ (List.mem_of_getElem? (l := wsX2_insert) (i := 3) rfl)) (fun _ h9 => h9) rfl dX2_insert_58 ?_
        refine lv_iload hx hb dX2_insert_61 (lv_at hl 4 rfl) ?_
        refine lv_iconst (v := (1 : Int32)) hx hb dX2_insert_63 (by decide) ?_
        refine lv_isub hx hb dX2_insert_64 ?_
        refine va_iald (D := D) hx hb hK hP 18 0 cAr18 rfl h.1 dX2_insert_65 ?_
        have h := h.2
        refine gAst (D := D) hx hb hK hP (cD hq) hS 18 0 cAr18 rfl h.1 dX2_insert_66 (cSA18 _) (fun H locs hP hS => ?_)
        obtain ⟨F3, eF3⟩ : ∃ z : Nat → Nat → Int32, z = upF F2 18 (upd (F2 18) (x4).toNatClampNeg (F2 18 ((x4 - (1 : Int32))).toNatClampNeg)) := ⟨_, rfl⟩
        rw [← eF3] at hP
        have h := h.2 F3 eF3
        refine lv_iinc (v := (x4 + (-1 : Int32))) (lv' := [(4, .int (x4 + (-1 : Int32))), (0, .ref (q 4)), (1, .int x1), (2, .int x2), (3, .int x3)]) hx hb dX2_insert_67 hl (k := 4) rfl rfl (by decide) rfl (fun ls hl => ?_)
        refine lv_goto (tgt := 29) hx hb dX2_insert_70 (by decide) ?_
        exact ih x1 x2 x3 _ (x4 + (-1 : Int32)) I F3 _ _ _  hP hS (lv_sub hl [1, 2, 3, 4, 0] rfl) h K
  refine lv_aload_n hx hb dX2_insert_0 rfl (lv_at hl 0 rfl) ?_
  refine va_get (D := D) (ci := 2) (v := .int (I 8)) (C := RX2) (T := TX2) (N := 4) hx hb hts (fun _ h9 => List.mem_cons_of_mem _ (List.mem_append_right _ h9)) hown hK hP 4 cAt4 rfl 1 (by decide) (hts _ (List.mem_of_getElem? (l := wsX2_insert) (i := 1) rfl)) (fun _ h9 => h9) rfl dX2_insert_1 ?_
  refine lv_bipush (v := (8 : Int32)) hx hb dX2_insert_4 (by decide) ?_
  refine lv_icmp_ge (tgt := 21) hx hb dX2_insert_6 (by decide) (fun c4 => ?_) (fun c4 => ?_)
  · have h := h.1 c4
    refine lv_iconst (v := (0 : Int32)) hx hb dX2_insert_21 (by decide) ?_
    exact hret (0 : Int32) (I, F) _ _ _ _ dX2_insert_22 hP hS (by decide) h
  · have h := h.2 c4
    refine lv_iload_n hx hb dX2_insert_9 rfl (lv_at hl 1 rfl) ?_
    refine lv_if_lt (tgt := 21) hx hb dX2_insert_10 (by decide) (fun c5 => ?_) (fun c5 => ?_)
    · have h := h.1 c5
      refine lv_iconst (v := (0 : Int32)) hx hb dX2_insert_21 (by decide) ?_
      exact hret (0 : Int32) (I, F) _ _ _ _ dX2_insert_22 hP hS (by decide) h
    · have h := h.2 c5
      refine lv_iload_n hx hb dX2_insert_13 rfl (lv_at hl 1 rfl) ?_
      refine lv_aload_n hx hb dX2_insert_14 rfl (lv_at hl 0 rfl) ?_
      refine va_get (D := D) (ci := 2) (v := .int (I 8)) (C := RX2) (T := TX2) (N := 4) hx hb hts (fun _ h9 => List.mem_cons_of_mem _ (List.mem_append_right _ h9)) hown hK hP 4 cAt4 rfl 1 (by decide) (hts _ (List.mem_of_getElem? (l := wsX2_insert) (i := 1) rfl)) (fun _ h9 => h9) rfl dX2_insert_15 ?_
      refine lv_icmp_le (tgt := 23) hx hb dX2_insert_18 (by decide) (fun c6 => ?_) (fun c6 => ?_)
      · have h := h.1 c6
        refine lv_aload_n hx hb dX2_insert_23 rfl (lv_at hl 0 rfl) ?_
        refine va_get (D := D) (ci := 2) (v := .int (I 8)) (C := RX2) (T := TX2) (N := 4) hx hb hts (fun _ h9 => List.mem_cons_of_mem _ (List.mem_append_right _ h9)) hown hK hP 4 cAt4 rfl 1 (by decide) (hts _ (List.mem_of_getElem? (l := wsX2_insert) (i := 1) rfl)) (fun _ h9 => h9) rfl dX2_insert_24 ?_
        refine lv_topi (fun v7 ev7 => ?_)
        have h := h v7 ev7
        refine lv_istore (lv' := [(4, .int v7), (0, .ref (q 4)), (1, .int a1), (2, .int a2), (3, .int a3)]) hx hb dX2_insert_27 hl (by decide) rfl (fun ls hl => ?_)
        obtain ⟨n, h⟩ := h
        refine L29 n a1 a2 a3 _ v7 I F _ _ _  hP hS (lv_sub hl [1, 2, 3, 4, 0] rfl) h (fun y8 I9 F10 H locs ls  hP hS hl h => ?_)
        refine lv_aload_n hx hb dX2_insert_73 rfl (lv_at hl 0 rfl) ?_
        refine va_get (D := D) (ci := 2) (v := .ref (q 17)) (C := RX2) (T := TX2) (N := 4) hx hb hts (fun _ h9 => List.mem_cons_of_mem _ (List.mem_append_right _ h9)) hown hK hP 4 cAt4 rfl 2 (by decide) (hts _ (List.mem_of_getElem? (l := wsX2_insert) (i := 2) rfl)) (fun _ h9 => h9) rfl dX2_insert_74 ?_
        refine lv_iload_n hx hb dX2_insert_77 rfl (lv_at hl 1 rfl) ?_
        refine lv_iload_n hx hb dX2_insert_78 rfl (lv_at hl 2 rfl) ?_
        refine gAst (D := D) hx hb hK hP (cD hq) hS 17 0 cAr17 rfl h.1 dX2_insert_79 (cSA17 _) (fun H locs hP hS => ?_)
        obtain ⟨F11, eF11⟩ : ∃ z : Nat → Nat → Int32, z = upF F10 17 (upd (F10 17) (a1).toNatClampNeg a2) := ⟨_, rfl⟩
        rw [← eF11] at hP
        have h := h.2 F11 eF11
        refine lv_aload_n hx hb dX2_insert_80 rfl (lv_at hl 0 rfl) ?_
        refine va_get (D := D) (ci := 2) (v := .ref (q 18)) (C := RX2) (T := TX2) (N := 4) hx hb hts (fun _ h9 => List.mem_cons_of_mem _ (List.mem_append_right _ h9)) hown hK hP 4 cAt4 rfl 3 (by decide) (hts _ (List.mem_of_getElem? (l := wsX2_insert) (i := 3) rfl)) (fun _ h9 => h9) rfl dX2_insert_81 ?_
        refine lv_iload_n hx hb dX2_insert_84 rfl (lv_at hl 1 rfl) ?_
        refine lv_iload_n hx hb dX2_insert_85 rfl (lv_at hl 3 rfl) ?_
        refine gAst (D := D) hx hb hK hP (cD hq) hS 18 0 cAr18 rfl h.1 dX2_insert_86 (cSA18 _) (fun H locs hP hS => ?_)
        obtain ⟨F12, eF12⟩ : ∃ z : Nat → Nat → Int32, z = upF F11 18 (upd (F11 18) (a1).toNatClampNeg a3) := ⟨_, rfl⟩
        rw [← eF12] at hP
        have h := h.2 F12 eF12
        refine lv_aload_n hx hb dX2_insert_87 rfl (lv_at hl 0 rfl) ?_
        refine lv_dup hx hb dX2_insert_88 rfl ?_
        refine va_get (D := D) (ci := 2) (v := .int (I9 8)) (C := RX2) (T := TX2) (N := 4) hx hb hts (fun _ h9 => List.mem_cons_of_mem _ (List.mem_append_right _ h9)) hown hK hP 4 cAt4 rfl 1 (by decide) (hts _ (List.mem_of_getElem? (l := wsX2_insert) (i := 1) rfl)) (fun _ h9 => h9) rfl dX2_insert_89 ?_
        refine lv_iconst (v := (1 : Int32)) hx hb dX2_insert_92 (by decide) ?_
        refine lv_iadd hx hb dX2_insert_93 ?_
        refine gPut (D := D) (ci := 2) (ty := .int) (C := RX2) (T := TX2) (N := 4) hx hb hts (fun _ h9 => List.mem_cons_of_mem _ (List.mem_append_right _ h9)) tyX2 tyX2_ok nmX2 hown hK hP (cD hq) hS 4 cAt4 rfl 1 (by decide) (hts _ (List.mem_of_getElem? (l := wsX2_insert) (i := 1) rfl)) (fun _ h9 => h9) rfl (by decide +kernel) rfl rfl (Nat.le_of_ble_eq_true rfl) dX2_insert_94 (cSet8 ((I9 8) + (1 : Int32))) (fun H locs hP hS => ?_)
        obtain ⟨I13, eI13⟩ : ∃ z : Nat → Int32, z = upd I9 8 ((I9 8) + (1 : Int32)) := ⟨_, rfl⟩
        rw [← eI13] at hP
        have h := h I13 eI13
        refine lv_iconst (v := (1 : Int32)) hx hb dX2_insert_97 (by decide) ?_
        exact hret (1 : Int32) (I13, F12) _ _ _ _ dX2_insert_98 hP hS (by decide) h
      · have h := h.2 c6
        refine lv_iconst (v := (0 : Int32)) hx hb dX2_insert_21 (by decide) ?_
        exact hret (0 : Int32) (I, F) _ _ _ _ dX2_insert_22 hP hS (by decide) h
def w_X8_put (a1 : Int32) (a2 : Int32) (a3 : Int32) (I : Nat → Int32) (F : Nat → Nat → Int32) (post : Int32 → (Nat → Int32) → (Nat → Nat → Int32) → Prop) : Prop :=
  ((a1 < 0 → post (-101 : Int32) I F) ∧ (¬ a1 < 0 → ((a1 ≤ (I 8) → w_X8_isKind a2 I F (fun (r3 : Int32) => ((r3 = 0 → post (-102 : Int32) I F) ∧ (¬ r3 = 0 → w_X8_areTones a3 I F (fun (r5 : Int32) => ((¬ r5 = 0 → ((¬ (I 8) = 0 → w_X2_insert_4 a1 a2 a3 I F (fun (r8 : Int32) (I9 : Nat → Int32) (F10 : Nat → Nat → Int32) => ((¬ r8 = 0 → w_X3_makeStale_9 I9 F10 (fun (I12 : Nat → Int32) (F13 : Nat → Nat → Int32) => post (I12 8) I12 F13)) ∧ (r8 = 0 → post (-104 : Int32) I9 F10)))) ∧ ((I 8) = 0 → post (-103 : Int32) I F))) ∧ (r5 = 0 → post (-102 : Int32) I F))))))) ∧ (¬ a1 ≤ (I 8) → post (-101 : Int32) I F))))
set_option maxHeartbeats 4000000 in
set_option maxRecDepth 100000 in
theorem c_X8_put (l : Launch) (D : va_G) (q : Nat → Nat) (cI cO : ClassId) (hq : cOk q) (a1 : Int32) (a2 : Int32) (a3 : Int32)  (I : Nat → Int32) (F : Nat → Nat → Int32) (post : Int32 → (Nat → Int32) → (Nat → Nat → Int32) → Prop) (h : w_X8_put a1 a2 a3 I F post) : Met l yX8_put wsX8_put ({ frames := 2, cells := 0, slots := 0, locals := 40 } : Room) (gPre D (cTys cI cO) (cW q cI cO I F) (cEnv q) [.ref (q 0), .int a1, .int a2, .int a3]) (va_Qi (fun r (u : cS) => post r u.1 u.2) (gB D (fun u : cS => cW q cI cO u.1 u.2)) (cA q)) 0 0 (cA q) := by
  refine gMetI (by decide) rfl (Nat.le_of_ble_eq_true rfl) ?_
  intro p e R s m args below meth c Q ls hR hx hb hml hown hts hK hE hP hl hret
  have hRf : 2 ≤ R.frames := by subst hR; exact Nat.le_refl _
  have hRl : 40 ≤ R.locals := by subst hR; exact Nat.le_refl _
  have hown : s.vm.findClass RX8 = some m.cls := hown
  have hl : lv_has ls 4 [(0, .ref (q 0)), (1, .int a1), (2, .int a2), (3, .int a3)] := hl
  have hS : va_S (cA q) s.heap s.heap [] := va_S.rf
  have hP : va_P D vwCl (cW q cI cO I F) s.heap := hP
  refine lv_iload_n hx hb dX8_put_0 rfl (lv_at hl 1 rfl) ?_
  refine lv_if_lt (tgt := 15) hx hb dX8_put_1 (by decide) (fun c1 => ?_) (fun c1 => ?_)
  · have h := h.1 c1
    refine lv_bipush (v := (-101 : Int32)) hx hb dX8_put_15 (by decide) ?_
    exact hret (-101 : Int32) (I, F) _ _ _ _ dX8_put_17 hP hS h
  · have h := h.2 c1
    refine lv_iload_n hx hb dX8_put_4 rfl (lv_at hl 1 rfl) ?_
    refine lv_aload_n hx hb dX8_put_5 rfl (lv_at hl 0 rfl) ?_
    refine va_get (D := D) (ci := 8) (v := .ref (q 4)) (C := RX8) (T := TX8) (N := 11) hx hb hts (fun _ h9 => List.mem_cons_of_mem _ (List.mem_append_left _ (List.mem_append_left _ (List.mem_append_right _ h9)))) hown hK hP 0 cAt0 rfl 2 (by decide) (hts _ (List.mem_of_getElem? (l := wsX8_put) (i := 1) rfl)) (fun _ h9 => h9) rfl dX8_put_6 ?_
    refine va_getN (D := D) (ci := 2) (v := .int (I 8)) (C := RX2) (T := TX2) (N := 4) hx hb hts (fun _ h9 => List.mem_cons_of_mem _ (List.mem_append_left _ (List.mem_append_right _ h9))) hown hK hP 4 cAt4 rfl 1 (by decide) (va_Nw.use rfl (hE.1.1 _ (List.mem_of_getElem? (l := cNF) (i := 6) rfl))) (fun _ h9 => h9) rfl dX8_put_9 ?_
    refine lv_icmp_le (tgt := 18) hx hb dX8_put_12 (by decide) (fun c2 => ?_) (fun c2 => ?_)
    · have h := h.1 c2
      refine lv_iload_n hx hb dX8_put_18 rfl (lv_at hl 2 rfl) ?_
      refine gCallI (D := D) (va_runS (As := [.int a2]) (rest := []) ⟨hx, hb, hml, hown, hts⟩ (c_X8_isKind l D q cI cO hq a2  I F _ h) (va_cwS 1 hts gX8_put_X8_isKind rfl rfl rfl (by decide +kernel) ⟨Nat.le_trans (Nat.le_of_ble_eq_true rfl) hRf, Nat.le_trans (Nat.le_of_ble_eq_true rfl) hRl⟩) (gPreS cEok hE hK hP hS) rfl rfl hl.1 rfl (lv_room (Nat.le_of_ble_eq_true rfl)) dX8_put_19 ⟨Nat.zero_le _, Nat.zero_le _⟩) hS (fun r3 _ H locs hP hS h => ?_)
      have hP : va_P D vwCl (cW q cI cO I F) H := hP
      refine lv_if_eq (tgt := 32) hx hb dX8_put_22 (by decide) (fun c4 => ?_) (fun c4 => ?_)
      · have h := h.1 c4
        refine lv_bipush (v := (-102 : Int32)) hx hb dX8_put_32 (by decide) ?_
        exact hret (-102 : Int32) (I, F) _ _ _ _ dX8_put_34 hP hS h
      · have h := h.2 c4
        refine lv_iload_n hx hb dX8_put_25 rfl (lv_at hl 3 rfl) ?_
        refine gCallI (D := D) (va_runS (As := [.int a3]) (rest := []) ⟨hx, hb, hml, hown, hts⟩ (c_X8_areTones l D q cI cO hq a3  I F _ h) (va_cwS 1 hts gX8_put_X8_areTones rfl rfl rfl (by decide +kernel) ⟨Nat.le_trans (Nat.le_of_ble_eq_true rfl) hRf, Nat.le_trans (Nat.le_of_ble_eq_true rfl) hRl⟩) (gPreS cEok hE hK hP hS) rfl rfl hl.1 rfl (lv_room (Nat.le_of_ble_eq_true rfl)) dX8_put_26 ⟨Nat.zero_le _, Nat.zero_le _⟩) hS (fun r5 _ H locs hP hS h => ?_)
        have hP : va_P D vwCl (cW q cI cO I F) H := hP
        refine lv_if_ne (tgt := 35) hx hb dX8_put_29 (by decide) (fun c6 => ?_) (fun c6 => ?_)
        · have h := h.1 c6
          refine lv_aload_n hx hb dX8_put_35 rfl (lv_at hl 0 rfl) ?_
          refine va_get (D := D) (ci := 8) (v := .ref (q 4)) (C := RX8) (T := TX8) (N := 11) hx hb hts (fun _ h9 => List.mem_cons_of_mem _ (List.mem_append_left _ (List.mem_append_left _ (List.mem_append_right _ h9)))) hown hK hP 0 cAt0 rfl 2 (by decide) (hts _ (List.mem_of_getElem? (l := wsX8_put) (i := 1) rfl)) (fun _ h9 => h9) rfl dX8_put_36 ?_
          refine va_getN (D := D) (ci := 2) (v := .int (I 8)) (C := RX2) (T := TX2) (N := 4) hx hb hts (fun _ h9 => List.mem_cons_of_mem _ (List.mem_append_left _ (List.mem_append_right _ h9))) hown hK hP 4 cAt4 rfl 1 (by decide) (va_Nw.use rfl (hE.1.1 _ (List.mem_of_getElem? (l := cNF) (i := 6) rfl))) (fun _ h9 => h9) rfl dX8_put_39 ?_
          refine lv_if_ne (tgt := 48) hx hb dX8_put_42 (by decide) (fun c7 => ?_) (fun c7 => ?_)
          · have h := h.1 c7
            refine lv_aload_n hx hb dX8_put_48 rfl (lv_at hl 0 rfl) ?_
            refine va_get (D := D) (ci := 8) (v := .ref (q 4)) (C := RX8) (T := TX8) (N := 11) hx hb hts (fun _ h9 => List.mem_cons_of_mem _ (List.mem_append_left _ (List.mem_append_left _ (List.mem_append_right _ h9)))) hown hK hP 0 cAt0 rfl 2 (by decide) (hts _ (List.mem_of_getElem? (l := wsX8_put) (i := 1) rfl)) (fun _ h9 => h9) rfl dX8_put_49 ?_
            refine lv_iload_n hx hb dX8_put_52 rfl (lv_at hl 1 rfl) ?_
            refine lv_iload_n hx hb dX8_put_53 rfl (lv_at hl 2 rfl) ?_
            refine lv_iload_n hx hb dX8_put_54 rfl (lv_at hl 3 rfl) ?_
            refine gCallI (D := D) (va_runV (As := [.int a1, .int a2, .int a3]) (rest := []) ⟨hx, hb, hml, hown, hts⟩ (c_X2_insert_4 l D q cI cO hq a1 a2 a3  I F _ h) (cwV 3 hts gX8_put_X2_insert rfl rfl rfl (by decide +kernel) ⟨Nat.le_trans (Nat.le_of_ble_eq_true rfl) hRf, Nat.le_trans (Nat.le_of_ble_eq_true rfl) hRl⟩) (gPreV (ci := 2) (q0 := 4) cEok hE hK hP hS rfl cAt4) rfl rfl hl.1 rfl (lv_room (Nat.le_of_ble_eq_true rfl)) dX8_put_55 ⟨Nat.zero_le _, Nat.zero_le _⟩) hS (fun r8 u H locs hP hS h => ?_)
            obtain ⟨I9, F10⟩ := u
            have hP : va_P D vwCl (cW q cI cO I9 F10) H := hP
            refine lv_if_ne (tgt := 64) hx hb dX8_put_58 (by decide) (fun c11 => ?_) (fun c11 => ?_)
            · have h := h.1 c11
              refine lv_aload_n hx hb dX8_put_64 rfl (lv_at hl 0 rfl) ?_
              refine va_get (D := D) (ci := 8) (v := .ref (q 9)) (C := RX8) (T := TX8) (N := 11) hx hb hts (fun _ h9 => List.mem_cons_of_mem _ (List.mem_append_left _ (List.mem_append_left _ (List.mem_append_right _ h9)))) hown hK hP 0 cAt0 rfl 7 (by decide) (hts _ (List.mem_of_getElem? (l := wsX8_put) (i := 2) rfl)) (fun _ h9 => h9) rfl dX8_put_65 ?_
              refine gCallV (D := D) (va_runV (As := []) (rest := []) ⟨hx, hb, hml, hown, hts⟩ (c_X3_makeStale_9 l D q cI cO hq   I9 F10 _ h) (cwV 0 hts gX8_put_X3_makeStale rfl rfl rfl (by decide +kernel) ⟨Nat.le_trans (Nat.le_of_ble_eq_true rfl) hRf, Nat.le_trans (Nat.le_of_ble_eq_true rfl) hRl⟩) (gPreV (ci := 3) (q0 := 9) cEok hE hK hP hS rfl cAt9) rfl rfl hl.1 rfl (lv_room (Nat.le_of_ble_eq_true rfl)) dX8_put_68 ⟨Nat.zero_le _, Nat.zero_le _⟩) hS (fun u H locs hP hS h => ?_)
              obtain ⟨I12, F13⟩ := u
              have hP : va_P D vwCl (cW q cI cO I12 F13) H := hP
              refine lv_aload_n hx hb dX8_put_71 rfl (lv_at hl 0 rfl) ?_
              refine va_get (D := D) (ci := 8) (v := .ref (q 4)) (C := RX8) (T := TX8) (N := 11) hx hb hts (fun _ h9 => List.mem_cons_of_mem _ (List.mem_append_left _ (List.mem_append_left _ (List.mem_append_right _ h9)))) hown hK hP 0 cAt0 rfl 2 (by decide) (hts _ (List.mem_of_getElem? (l := wsX8_put) (i := 1) rfl)) (fun _ h9 => h9) rfl dX8_put_72 ?_
              refine va_getN (D := D) (ci := 2) (v := .int (I12 8)) (C := RX2) (T := TX2) (N := 4) hx hb hts (fun _ h9 => List.mem_cons_of_mem _ (List.mem_append_left _ (List.mem_append_right _ h9))) hown hK hP 4 cAt4 rfl 1 (by decide) (va_Nw.use rfl (hE.1.1 _ (List.mem_of_getElem? (l := cNF) (i := 6) rfl))) (fun _ h9 => h9) rfl dX8_put_75 ?_
              exact hret (I12 8) (I12, F13) _ _ _ _ dX8_put_78 hP hS h
            · have h := h.2 c11
              refine lv_bipush (v := (-104 : Int32)) hx hb dX8_put_61 (by decide) ?_
              exact hret (-104 : Int32) (I9, F10) _ _ _ _ dX8_put_63 hP hS h
          · have h := h.2 c7
            refine lv_bipush (v := (-103 : Int32)) hx hb dX8_put_45 (by decide) ?_
            exact hret (-103 : Int32) (I, F) _ _ _ _ dX8_put_47 hP hS h
        · have h := h.2 c6
          refine lv_bipush (v := (-102 : Int32)) hx hb dX8_put_32 (by decide) ?_
          exact hret (-102 : Int32) (I, F) _ _ _ _ dX8_put_34 hP hS h
    · have h := h.2 c2
      refine lv_bipush (v := (-101 : Int32)) hx hb dX8_put_15 (by decide) ?_
      exact hret (-101 : Int32) (I, F) _ _ _ _ dX8_put_17 hP hS h
