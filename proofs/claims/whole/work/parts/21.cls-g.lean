def w_X3_goBackward_9_4_B70  (k again : Int32 → (Nat → Int32) → (Nat → Nat → Int32) → Prop) (x3 : Int32) (I : Nat → Int32) (F : Nat → Nat → Int32) : Prop :=
  ((x3 ≤ 0 → k x3 I F) ∧ (¬ x3 ≤ 0 → w_X3_setGapAheadOf_9_4 x3 (0 : Int32) I F (fun (I2 : Nat → Int32) (F3 : Nat → Nat → Int32) => vp_in x3 8 ∧ vp_in (x3 - (1 : Int32)) 8 ∧ vp_in (x3 - (1 : Int32)) 8 ∧ vp_in (x3 - (1 : Int32)) 8 ∧ w_X3_cross_9_r_r (31 + (x3).toNatClampNeg) (31 + ((x3 - (1 : Int32))).toNatClampNeg) (F3 17 ((x3 - (1 : Int32))).toNatClampNeg) (F3 18 ((x3 - (1 : Int32))).toNatClampNeg) (0 : Int32) I2 F3 (fun (I6 : Nat → Int32) (F7 : Nat → Nat → Int32) => again (x3 + (-1 : Int32)) I6 F7))))
def w_X3_goBackward_9_4_B14 (x2 : Int32) (k again : Int32 → (Nat → Int32) → (Nat → Nat → Int32) → Prop) (x3 : Int32) (I : Nat → Int32) (F : Nat → Nat → Int32) : Prop :=
  (((2187 : Int32) ≤ x3 → k x3 I F) ∧ (¬ (2187 : Int32) ≤ x3 → vp_in x2 8 ∧ vp_in x2 8 ∧ w_X7_fits_8 x3 (F 17 (x2).toNatClampNeg) (F 18 (x2).toNatClampNeg) I F (fun (r9 : Int32) => vp_in x2 8 ∧ ((r9 = 0 → vp_in x3 2187 ∧ ∀ F12 : Nat → Nat → Int32, F12 = upF F (31 + (x2).toNatClampNeg) (upd (F (31 + (x2).toNatClampNeg)) (x3).toNatClampNeg (1073741824 : Int32)) → again (x3 + (1 : Int32)) I F12) ∧ (¬ r9 = 0 → vp_in x3 2187 ∧ ∀ F13 : Nat → Nat → Int32, F13 = upF F (31 + (x2).toNatClampNeg) (upd (F (31 + (x2).toNatClampNeg)) (x3).toNatClampNeg (1 : Int32)) → again (x3 + (1 : Int32)) I F13)))))
def w_X3_goBackward_9_4  (I : Nat → Int32) (F : Nat → Nat → Int32) (post : (Nat → Int32) → (Nat → Nat → Int32) → Prop) : Prop :=
  ∀ v14 : Int32, v14 = ((I 8) - (1 : Int32)) → ((0 ≤ v14 → gL (fun ag v => w_X3_goBackward_9_4_B14 v14 (fun (y16 : Int32) (I17 : Nat → Int32) (F18 : Nat → Nat → Int32) => gL (fun ag v => w_X3_goBackward_9_4_B70  (fun (y19 : Int32) (I20 : Nat → Int32) (F21 : Nat → Nat → Int32) => post I20 F21) (fun b0 b1 b2 => ag (b0, b1, b2)) v.1 v.2.1 v.2.2) (v14, I17, F18)) (fun b0 b1 b2 => ag (b0, b1, b2)) v.1 v.2.1 v.2.2) ((0 : Int32), I, F)) ∧ (¬ 0 ≤ v14 → post I F))
set_option maxHeartbeats 4000000 in
set_option maxRecDepth 100000 in
theorem c_X3_goBackward_9_4 (l : Launch) (D : va_G) (q : Nat → Nat) (cI cO : ClassId) (hq : cOk q)   (I : Nat → Int32) (F : Nat → Nat → Int32) (post : (Nat → Int32) → (Nat → Nat → Int32) → Prop) (h : w_X3_goBackward_9_4  I F post) : Met l yX3_goBackward wsX3_goBackward ({ frames := 3, cells := 0, slots := 0, locals := 81 } : Room) (gPre D (cTys cI cO) (cW q cI cO I F) (cEnv q) [.ref (q 9), .ref (q 4)]) (va_Qv (fun (u : cS) => post u.1 u.2) (gB D (fun u : cS => cW q cI cO u.1 u.2)) (cA q)) 0 0 (cA q) := by
  refine gMetV (by decide) rfl (Nat.le_of_ble_eq_true rfl) ?_
  intro p e R s m args below meth c Q ls hR hx hb hml hown hts hK hE hP hl hret
  have hRf : 3 ≤ R.frames := by subst hR; exact Nat.le_refl _
  have hRl : 81 ≤ R.locals := by subst hR; exact Nat.le_refl _
  have hown : s.vm.findClass RX3 = some m.cls := hown
  have hl : lv_has ls 5 [(0, .ref (q 9)), (1, .ref (q 4))] := hl
  have hS : va_S (cA q) s.heap s.heap [] := va_S.rf
  have hP : va_P D vwCl (cW q cI cO I F) s.heap := hP
  have L70 : ∀ (n : Nat)  (k : Int32 → (Nat → Int32) → (Nat → Nat → Int32) → Prop) (x3 : Int32) (I : Nat → Int32) (F : Nat → Nat → Int32) (H : Heap) (locs : List Loc) (ls : Array Slot), va_P D vwCl (cW q cI cO I F) H → va_S (cA q) s.heap H locs → lv_has ls 5 [(0, .ref (q 9)), (1, .ref (q 4)), (3, .int x3)] → gLN (fun ag v => w_X3_goBackward_9_4_B70  k (fun b0 b1 b2 => ag (b0, b1, b2)) v.1 v.2.1 v.2.2) n (x3, I, F) → (∀ (x3 : Int32) (I : Nat → Int32) (F : Nat → Nat → Int32) (H : Heap) (locs : List Loc) (ls : Array Slot), va_P D vwCl (cW q cI cO I F) H → va_S (cA q) s.heap H locs → lv_has ls 5 [] → k x3 I F → W p l e R s m args below meth c H locs 0 0 Q (F0 m 122 ls [])) → W p l e R s m args below meth c H locs 0 0 Q (F0 m 70 ls []) := by
    intro n
    induction n with
    | zero =>
      intro  k x3 I F H locs ls  hP hS hl h K
      exact False.elim h
    | succ n ih =>
      intro  k x3 I F H locs ls  hP hS hl h K
      have h : w_X3_goBackward_9_4_B70  k (fun b0 b1 b2 => gLN (fun ag v => w_X3_goBackward_9_4_B70  k (fun b0 b1 b2 => ag (b0, b1, b2)) v.1 v.2.1 v.2.2) n (b0, b1, b2)) x3 I F := h
      refine lv_iload_n hx hb dX3_goBackward_70 rfl (lv_at hl 2 rfl) ?_
      refine lv_if_le (tgt := 122) hx hb dX3_goBackward_71 (by decide) (fun c1 => ?_) (fun c1 => ?_)
      · have h := h.1 c1
        exact K x3 I F _ _ _  hP hS (lv_sub hl [] rfl) h
      · have h := h.2 c1
        refine lv_aload_n hx hb dX3_goBackward_74 rfl (lv_at hl 0 rfl) ?_
        refine lv_aload_n hx hb dX3_goBackward_75 rfl (lv_at hl 1 rfl) ?_
        refine lv_iload_n hx hb dX3_goBackward_76 rfl (lv_at hl 2 rfl) ?_
        refine lv_iconst (v := (0 : Int32)) hx hb dX3_goBackward_77 (by decide) ?_
        refine gCallV (D := D) (va_runV (As := [.ref (q 4), .int x3, .int (0 : Int32)]) (rest := []) ⟨hx, hb, hml, hown, hts⟩ (c_X3_setGapAheadOf_9_4 l D q cI cO hq x3 (0 : Int32)  I F _ h) (cwV 3 hts gX3_goBackward_X3_setGapAheadOf rfl rfl rfl (by decide +kernel) ⟨Nat.le_trans (Nat.le_of_ble_eq_true rfl) hRf, Nat.le_trans (Nat.le_of_ble_eq_true rfl) hRl⟩) (gPreV (ci := 3) (q0 := 9) cEok hE hK hP hS rfl cAt9) rfl rfl hl.1 rfl (lv_room (Nat.le_of_ble_eq_true rfl)) dX3_goBackward_78 ⟨Nat.zero_le _, Nat.zero_le _⟩) hS (fun u H locs hP hS h => ?_)
        obtain ⟨I2, F3⟩ := u
        have hP : va_P D vwCl (cW q cI cO I2 F3) H := hP
        refine lv_aload_n hx hb dX3_goBackward_81 rfl (lv_at hl 0 rfl) ?_
        refine lv_aload_n hx hb dX3_goBackward_82 rfl (lv_at hl 0 rfl) ?_
        refine va_get (D := D) (ci := 3) (v := .ref (q 13)) (C := RX3) (T := TX3) (N := 12) hx hb hts (fun _ h9 => List.mem_cons_of_mem _ (List.mem_append_left _ (List.mem_append_left _ (List.mem_append_right _ h9)))) hown hK hP 9 cAt9 rfl 5 (by decide) (hts _ (List.mem_of_getElem? (l := wsX3_goBackward) (i := 2) rfl)) (fun _ h9 => h9) rfl dX3_goBackward_83 ?_
        refine lv_iload_n hx hb dX3_goBackward_86 rfl (lv_at hl 2 rfl) ?_
        have ho4 := h.1
        refine gAldA (D := D) hx hb hK hP 13 1 cOut rfl ho4 dX3_goBackward_87 (cOutAt ho4) ?_
        have h := h.2
        refine lv_aload_n hx hb dX3_goBackward_88 rfl (lv_at hl 0 rfl) ?_
        refine va_get (D := D) (ci := 3) (v := .ref (q 13)) (C := RX3) (T := TX3) (N := 12) hx hb hts (fun _ h9 => List.mem_cons_of_mem _ (List.mem_append_left _ (List.mem_append_left _ (List.mem_append_right _ h9)))) hown hK hP 9 cAt9 rfl 5 (by decide) (hts _ (List.mem_of_getElem? (l := wsX3_goBackward) (i := 2) rfl)) (fun _ h9 => h9) rfl dX3_goBackward_89 ?_
        refine lv_iload_n hx hb dX3_goBackward_92 rfl (lv_at hl 2 rfl) ?_
        refine lv_iconst (v := (1 : Int32)) hx hb dX3_goBackward_93 (by decide) ?_
        refine lv_isub hx hb dX3_goBackward_94 ?_
        have ho5 := h.1
        refine gAldA (D := D) hx hb hK hP 13 1 cOut rfl ho5 dX3_goBackward_95 (cOutAt ho5) ?_
        have h := h.2
        refine lv_aload_n hx hb dX3_goBackward_96 rfl (lv_at hl 1 rfl) ?_
        refine va_getN (D := D) (ci := 2) (v := .ref (q 17)) (C := RX2) (T := TX2) (N := 4) hx hb hts (fun _ h9 => List.mem_cons_of_mem _ (List.mem_append_left _ (List.mem_append_left _ (List.mem_append_left _ (List.mem_append_right _ h9))))) hown hK hP 4 cAt4 rfl 2 (by decide) (va_Nw.use rfl (hE.1.1 _ (List.mem_of_getElem? (l := cNF) (i := 9) rfl))) (fun _ h9 => h9) rfl dX3_goBackward_97 ?_
        refine lv_iload_n hx hb dX3_goBackward_100 rfl (lv_at hl 2 rfl) ?_
        refine lv_iconst (v := (1 : Int32)) hx hb dX3_goBackward_101 (by decide) ?_
        refine lv_isub hx hb dX3_goBackward_102 ?_
        refine va_iald (D := D) hx hb hK hP 17 0 cAr17 rfl h.1 dX3_goBackward_103 ?_
        have h := h.2
        refine lv_aload_n hx hb dX3_goBackward_104 rfl (lv_at hl 1 rfl) ?_
        refine va_getN (D := D) (ci := 2) (v := .ref (q 18)) (C := RX2) (T := TX2) (N := 4) hx hb hts (fun _ h9 => List.mem_cons_of_mem _ (List.mem_append_left _ (List.mem_append_left _ (List.mem_append_left _ (List.mem_append_right _ h9))))) hown hK hP 4 cAt4 rfl 3 (by decide) (va_Nw.use rfl (hE.1.1 _ (List.mem_of_getElem? (l := cNF) (i := 11) rfl))) (fun _ h9 => h9) rfl dX3_goBackward_105 ?_
        refine lv_iload_n hx hb dX3_goBackward_108 rfl (lv_at hl 2 rfl) ?_
        refine lv_iconst (v := (1 : Int32)) hx hb dX3_goBackward_109 (by decide) ?_
        refine lv_isub hx hb dX3_goBackward_110 ?_
        refine va_iald (D := D) hx hb hK hP 18 0 cAr18 rfl h.1 dX3_goBackward_111 ?_
        have h := h.2
        refine lv_iconst (v := (0 : Int32)) hx hb dX3_goBackward_112 (by decide) ?_
        refine gCallV (D := D) (va_runV (As := [.ref (q (31 + (x3).toNatClampNeg)), .ref (q (31 + ((x3 - (1 : Int32))).toNatClampNeg)), .int (F3 17 ((x3 - (1 : Int32))).toNatClampNeg), .int (F3 18 ((x3 - (1 : Int32))).toNatClampNeg), .int (0 : Int32)]) (rest := []) ⟨hx, hb, hml, hown, hts⟩ (c_X3_cross_9_r_r l D q cI cO hq (31 + (x3).toNatClampNeg) (31 + ((x3 - (1 : Int32))).toNatClampNeg) (F3 17 ((x3 - (1 : Int32))).toNatClampNeg) (F3 18 ((x3 - (1 : Int32))).toNatClampNeg) (0 : Int32) (cOutRow ho4) (cOutRow ho5) I2 F3 _ h) (cwV 5 hts gX3_goBackward_X3_cross rfl rfl rfl (by decide +kernel) ⟨Nat.le_trans (Nat.le_of_ble_eq_true rfl) hRf, Nat.le_trans (Nat.le_of_ble_eq_true rfl) hRl⟩) (gPreV (ci := 3) (q0 := 9) cEok hE hK hP hS rfl cAt9) rfl rfl hl.1 rfl (lv_room (Nat.le_of_ble_eq_true rfl)) dX3_goBackward_113 ⟨Nat.zero_le _, Nat.zero_le _⟩) hS (fun u H locs hP hS h => ?_)
        obtain ⟨I6, F7⟩ := u
        have hP : va_P D vwCl (cW q cI cO I6 F7) H := hP
        refine lv_iinc (v := (x3 + (-1 : Int32))) (lv' := [(3, .int (x3 + (-1 : Int32))), (0, .ref (q 9)), (1, .ref (q 4))]) hx hb dX3_goBackward_116 hl (k := 2) rfl rfl (by decide) rfl (fun ls hl => ?_)
        refine lv_goto (tgt := 70) hx hb dX3_goBackward_119 (by decide) ?_
        exact ih  _ (x3 + (-1 : Int32)) I6 F7 _ _ _  hP hS (lv_sub hl [1, 2, 0] rfl) h K
  have L14 : ∀ (n : Nat) (x2 : Int32) (k : Int32 → (Nat → Int32) → (Nat → Nat → Int32) → Prop) (x3 : Int32) (I : Nat → Int32) (F : Nat → Nat → Int32) (H : Heap) (locs : List Loc) (ls : Array Slot), va_P D vwCl (cW q cI cO I F) H → va_S (cA q) s.heap H locs → lv_has ls 5 [(0, .ref (q 9)), (1, .ref (q 4)), (2, .int x2), (3, .int x3)] → gLN (fun ag v => w_X3_goBackward_9_4_B14 x2 k (fun b0 b1 b2 => ag (b0, b1, b2)) v.1 v.2.1 v.2.2) n (x3, I, F) → (∀ (x3 : Int32) (I : Nat → Int32) (F : Nat → Nat → Int32) (H : Heap) (locs : List Loc) (ls : Array Slot), va_P D vwCl (cW q cI cO I F) H → va_S (cA q) s.heap H locs → lv_has ls 5 [(0, .ref (q 9)), (1, .ref (q 4)), (2, .int x2)] → k x3 I F → W p l e R s m args below meth c H locs 0 0 Q (F0 m 68 ls [])) → W p l e R s m args below meth c H locs 0 0 Q (F0 m 14 ls []) := by
    intro n
    induction n with
    | zero =>
      intro x2 k x3 I F H locs ls  hP hS hl h K
      exact False.elim h
    | succ n ih =>
      intro x2 k x3 I F H locs ls  hP hS hl h K
      have h : w_X3_goBackward_9_4_B14 x2 k (fun b0 b1 b2 => gLN (fun ag v => w_X3_goBackward_9_4_B14 x2 k (fun b0 b1 b2 => ag (b0, b1, b2)) v.1 v.2.1 v.2.2) n (b0, b1, b2)) x3 I F := h
      refine lv_iload_n hx hb dX3_goBackward_14 rfl (lv_at hl 3 rfl) ?_
      refine lv_sipush (v := (2187 : Int32)) hx hb dX3_goBackward_15 (by decide) ?_
      refine lv_icmp_ge (tgt := 68) hx hb dX3_goBackward_18 (by decide) (fun c8 => ?_) (fun c8 => ?_)
      · have h := h.1 c8
        exact K x3 I F _ _ _  hP hS (lv_sub hl [0, 1, 2] rfl) h
      · have h := h.2 c8
        refine lv_aload_n hx hb dX3_goBackward_21 rfl (lv_at hl 0 rfl) ?_
        refine va_get (D := D) (ci := 3) (v := .ref (q 8)) (C := RX3) (T := TX3) (N := 12) hx hb hts (fun _ h9 => List.mem_cons_of_mem _ (List.mem_append_left _ (List.mem_append_left _ (List.mem_append_right _ h9)))) hown hK hP 9 cAt9 rfl 0 (by decide) (hts _ (List.mem_of_getElem? (l := wsX3_goBackward) (i := 1) rfl)) (fun _ h9 => h9) rfl dX3_goBackward_22 ?_
        refine lv_iload_n hx hb dX3_goBackward_25 rfl (lv_at hl 3 rfl) ?_
        refine lv_aload_n hx hb dX3_goBackward_26 rfl (lv_at hl 1 rfl) ?_
        refine va_getN (D := D) (ci := 2) (v := .ref (q 17)) (C := RX2) (T := TX2) (N := 4) hx hb hts (fun _ h9 => List.mem_cons_of_mem _ (List.mem_append_left _ (List.mem_append_left _ (List.mem_append_left _ (List.mem_append_right _ h9))))) hown hK hP 4 cAt4 rfl 2 (by decide) (va_Nw.use rfl (hE.1.1 _ (List.mem_of_getElem? (l := cNF) (i := 9) rfl))) (fun _ h9 => h9) rfl dX3_goBackward_27 ?_
        refine lv_iload_n hx hb dX3_goBackward_30 rfl (lv_at hl 2 rfl) ?_
        refine va_iald (D := D) hx hb hK hP 17 0 cAr17 rfl h.1 dX3_goBackward_31 ?_
        have h := h.2
        refine lv_aload_n hx hb dX3_goBackward_32 rfl (lv_at hl 1 rfl) ?_
        refine va_getN (D := D) (ci := 2) (v := .ref (q 18)) (C := RX2) (T := TX2) (N := 4) hx hb hts (fun _ h9 => List.mem_cons_of_mem _ (List.mem_append_left _ (List.mem_append_left _ (List.mem_append_left _ (List.mem_append_right _ h9))))) hown hK hP 4 cAt4 rfl 3 (by decide) (va_Nw.use rfl (hE.1.1 _ (List.mem_of_getElem? (l := cNF) (i := 11) rfl))) (fun _ h9 => h9) rfl dX3_goBackward_33 ?_
        refine lv_iload_n hx hb dX3_goBackward_36 rfl (lv_at hl 2 rfl) ?_
        refine va_iald (D := D) hx hb hK hP 18 0 cAr18 rfl h.1 dX3_goBackward_37 ?_
        have h := h.2
        refine gCallI (D := D) (va_runV (As := [.int x3, .int (F 17 (x2).toNatClampNeg), .int (F 18 (x2).toNatClampNeg)]) (rest := []) ⟨hx, hb, hml, hown, hts⟩ (c_X7_fits_8 l D q cI cO hq x3 (F 17 (x2).toNatClampNeg) (F 18 (x2).toNatClampNeg)  I F _ h) (cwV 3 hts gX3_goBackward_X7_fits rfl rfl rfl (by decide +kernel) ⟨Nat.le_trans (Nat.le_of_ble_eq_true rfl) hRf, Nat.le_trans (Nat.le_of_ble_eq_true rfl) hRl⟩) (gPreV (ci := 7) (q0 := 8) cEok hE hK hP hS rfl cAt8) rfl rfl hl.1 rfl (lv_room (Nat.le_of_ble_eq_true rfl)) dX3_goBackward_38 ⟨Nat.zero_le _, Nat.zero_le _⟩) hS (fun r9 _ H locs hP hS h => ?_)
        have hP : va_P D vwCl (cW q cI cO I F) H := hP
        refine lv_istore (lv' := [(4, .int r9), (0, .ref (q 9)), (1, .ref (q 4)), (2, .int x2), (3, .int x3)]) hx hb dX3_goBackward_41 hl (by decide) rfl (fun ls hl => ?_)
        refine lv_aload_n hx hb dX3_goBackward_43 rfl (lv_at hl 1 rfl) ?_
        refine va_get (D := D) (ci := 3) (v := .ref (q 13)) (C := RX3) (T := TX3) (N := 12) hx hb hts (fun _ h9 => List.mem_cons_of_mem _ (List.mem_append_left _ (List.mem_append_left _ (List.mem_append_right _ h9)))) hown hK hP 9 cAt9 rfl 5 (by decide) (hts _ (List.mem_of_getElem? (l := wsX3_goBackward) (i := 2) rfl)) (fun _ h9 => h9) rfl dX3_goBackward_44 ?_
        refine lv_iload_n hx hb dX3_goBackward_47 rfl (lv_at hl 3 rfl) ?_
        have ho10 := h.1
        refine gAldA (D := D) hx hb hK hP 13 1 cOut rfl ho10 dX3_goBackward_48 (cOutAt ho10) ?_
        have h := h.2
        refine lv_iload_n hx hb dX3_goBackward_49 rfl (lv_at hl 4 rfl) ?_
        refine lv_iload hx hb dX3_goBackward_50 (lv_at hl 0 rfl) ?_
        refine lv_if_eq (tgt := 59) hx hb dX3_goBackward_52 (by decide) (fun c11 => ?_) (fun c11 => ?_)
        · have h := h.1 c11
          refine lv_ldc (v := (1073741824 : Int32)) hx hb hown (hts _ (List.mem_of_getElem? (l := wsX3_goBackward) (i := 3) rfl)) dX3_goBackward_59 ?_
          refine gAst (D := D) hx hb hK hP (cD hq) hS (31 + (x2).toNatClampNeg) 0 (cRow (cOutRow ho10)) rfl h.1 dX3_goBackward_61 (cSetRow (cOutRow ho10) _) (fun H locs hP hS => ?_)
          obtain ⟨F12, eF12⟩ : ∃ z : Nat → Nat → Int32, z = upF F (31 + (x2).toNatClampNeg) (upd (F (31 + (x2).toNatClampNeg)) (x3).toNatClampNeg (1073741824 : Int32)) := ⟨_, rfl⟩
          rw [← eF12] at hP
          have h := h.2 F12 eF12
          refine lv_iinc (v := (x3 + (1 : Int32))) (lv' := [(3, .int (x3 + (1 : Int32))), (4, .int r9), (0, .ref (q 9)), (1, .ref (q 4)), (2, .int x2)]) hx hb dX3_goBackward_62 hl (k := 4) rfl rfl (by decide) rfl (fun ls hl => ?_)
          refine lv_goto (tgt := 14) hx hb dX3_goBackward_65 (by decide) ?_
          exact ih x2 _ (x3 + (1 : Int32)) I F12 _ _ _  hP hS (lv_sub hl [2, 3, 4, 0] rfl) h K
        · have h := h.2 c11
          refine lv_iconst (v := (1 : Int32)) hx hb dX3_goBackward_55 (by decide) ?_
          refine lv_goto (tgt := 61) hx hb dX3_goBackward_56 (by decide) ?_
          refine gAst (D := D) hx hb hK hP (cD hq) hS (31 + (x2).toNatClampNeg) 0 (cRow (cOutRow ho10)) rfl h.1 dX3_goBackward_61 (cSetRow (cOutRow ho10) _) (fun H locs hP hS => ?_)
          obtain ⟨F13, eF13⟩ : ∃ z : Nat → Nat → Int32, z = upF F (31 + (x2).toNatClampNeg) (upd (F (31 + (x2).toNatClampNeg)) (x3).toNatClampNeg (1 : Int32)) := ⟨_, rfl⟩
          rw [← eF13] at hP
          have h := h.2 F13 eF13
          refine lv_iinc (v := (x3 + (1 : Int32))) (lv' := [(3, .int (x3 + (1 : Int32))), (4, .int r9), (0, .ref (q 9)), (1, .ref (q 4)), (2, .int x2)]) hx hb dX3_goBackward_62 hl (k := 4) rfl rfl (by decide) rfl (fun ls hl => ?_)
          refine lv_goto (tgt := 14) hx hb dX3_goBackward_65 (by decide) ?_
          exact ih x2 _ (x3 + (1 : Int32)) I F13 _ _ _  hP hS (lv_sub hl [2, 3, 4, 0] rfl) h K
  refine lv_aload_n hx hb dX3_goBackward_0 rfl (lv_at hl 1 rfl) ?_
  refine va_getN (D := D) (ci := 2) (v := .int (I 8)) (C := RX2) (T := TX2) (N := 4) hx hb hts (fun _ h9 => List.mem_cons_of_mem _ (List.mem_append_left _ (List.mem_append_left _ (List.mem_append_left _ (List.mem_append_right _ h9))))) hown hK hP 4 cAt4 rfl 1 (by decide) (va_Nw.use rfl (hE.1.1 _ (List.mem_of_getElem? (l := cNF) (i := 5) rfl))) (fun _ h9 => h9) rfl dX3_goBackward_1 ?_
  refine lv_iconst (v := (1 : Int32)) hx hb dX3_goBackward_4 (by decide) ?_
  refine lv_isub hx hb dX3_goBackward_5 ?_
  refine lv_topi (fun v14 ev14 => ?_)
  have h := h v14 ev14
  refine lv_istore_n (lv' := [(2, .int v14), (0, .ref (q 9)), (1, .ref (q 4))]) hx hb dX3_goBackward_6 rfl hl (by decide) rfl (fun ls hl => ?_)
  refine lv_iload_n hx hb dX3_goBackward_7 rfl (lv_at hl 0 rfl) ?_
  refine lv_if_ge (tgt := 12) hx hb dX3_goBackward_8 (by decide) (fun c15 => ?_) (fun c15 => ?_)
  · have h := h.1 c15
    refine lv_iconst (v := (0 : Int32)) hx hb dX3_goBackward_12 (by decide) ?_
    refine lv_istore_n (lv' := [(3, .int (0 : Int32)), (2, .int v14), (0, .ref (q 9)), (1, .ref (q 4))]) hx hb dX3_goBackward_13 rfl hl (by decide) rfl (fun ls hl => ?_)
    obtain ⟨n, h⟩ := h
    refine L14 n v14 _ (0 : Int32) I F _ _ _  hP hS (lv_sub hl [2, 3, 1, 0] rfl) h (fun y16 I17 F18 H locs ls  hP hS hl h => ?_)
    refine lv_iload_n hx hb dX3_goBackward_68 rfl (lv_at hl 2 rfl) ?_
    refine lv_istore_n (lv' := [(3, .int v14), (0, .ref (q 9)), (1, .ref (q 4)), (2, .int v14)]) hx hb dX3_goBackward_69 rfl hl (by decide) rfl (fun ls hl => ?_)
    obtain ⟨n, h⟩ := h
    refine L70 n  _ v14 I17 F18 _ _ _  hP hS (lv_sub hl [1, 2, 0] rfl) h (fun y19 I20 F21 H locs ls  hP hS hl h => ?_)
    exact hret (I20, F21) _ _ _ _ dX3_goBackward_122 hP hS h
  · have h := h.2 c15
    exact hret (I, F) _ _ _ _ dX3_goBackward_11 hP hS h
def w_X3_settingOfBestScore_r_B8 (x0 : Nat) (I : Nat → Int32) (F : Nat → Nat → Int32) (k again : Int32 → Int32 → Int32 → Prop) (x1 : Int32) (x2 : Int32) (x3 : Int32) : Prop :=
  (((2187 : Int32) ≤ x3 → k x1 x2 x3) ∧ (¬ (2187 : Int32) ≤ x3 → vp_in x3 2187 ∧ ((x2 ≤ ((F x0 (x3).toNatClampNeg) >>> ((20 : Int32) &&& 31)) → again x1 x2 (x3 + (1 : Int32))) ∧ (¬ x2 ≤ ((F x0 (x3).toNatClampNeg) >>> ((20 : Int32) &&& 31)) → vp_in x3 2187 ∧ ∀ v3 : Int32, v3 = ((F x0 (x3).toNatClampNeg) >>> ((20 : Int32) &&& 31)) → again x3 v3 (x3 + (1 : Int32))))))
def w_X3_settingOfBestScore_r (r1 : Nat) (I : Nat → Int32) (F : Nat → Nat → Int32) (post : Int32 → Prop) : Prop :=
  gL (fun ag v => w_X3_settingOfBestScore_r_B8 r1 I F (fun (y4 : Int32) (y5 : Int32) (y6 : Int32) => post y4) (fun b0 b1 b2 => ag (b0, b1, b2)) v.1 v.2.1 v.2.2) ((-1 : Int32), (1024 : Int32), (0 : Int32))
set_option maxHeartbeats 4000000 in
set_option maxRecDepth 100000 in
theorem c_X3_settingOfBestScore_r (l : Launch) (D : va_G) (q : Nat → Nat) (cI cO : ClassId) (hq : cOk q) (r1 : Nat) (hr1 : 28 ≤ r1 ∧ r1 < 39) (I : Nat → Int32) (F : Nat → Nat → Int32) (post : Int32 → Prop) (h : w_X3_settingOfBestScore_r r1 I F post) : Met l yX3_settingOfBestScore wsX3_settingOfBestScore ({ frames := 0, cells := 0, slots := 0, locals := 0 } : Room) (gPre D (cTys cI cO) (cW q cI cO I F) (cEnv q) [.ref (q r1)]) (va_Qi (fun r (_ : Unit) => post r) (gB D (fun _ : Unit => cW q cI cO I F)) (cA q)) 0 0 (cA q) := by
  refine gMetI (by decide) rfl (Nat.le_of_ble_eq_true rfl) ?_
  intro p e R s m args below meth c Q ls hR hx hb hml hown hts hK hE hP hl hret
  have hRf : 0 ≤ R.frames := by subst hR; exact Nat.le_refl _
  have hRl : 0 ≤ R.locals := by subst hR; exact Nat.le_refl _
  have hown : s.vm.findClass RX3 = some m.cls := hown
  have hl : lv_has ls 4 [(0, .ref (q r1))] := hl
  have hS : va_S (cA q) s.heap s.heap [] := va_S.rf
  have hP : va_P D vwCl (cW q cI cO I F) s.heap := hP
  have L8 : ∀ (n : Nat) (x0 : Nat) (k : Int32 → Int32 → Int32 → Prop) (x1 : Int32) (x2 : Int32) (x3 : Int32) (H : Heap) (locs : List Loc) (ls : Array Slot), 28 ≤ x0 ∧ x0 < 39 → va_P D vwCl (cW q cI cO I F) H → va_S (cA q) s.heap H locs → lv_has ls 4 [(0, .ref (q x0)), (1, .int x1), (2, .int x2), (3, .int x3)] → gLN (fun ag v => w_X3_settingOfBestScore_r_B8 x0 I F k (fun b0 b1 b2 => ag (b0, b1, b2)) v.1 v.2.1 v.2.2) n (x1, x2, x3) → (∀ (x1 : Int32) (x2 : Int32) (x3 : Int32) (H : Heap) (locs : List Loc) (ls : Array Slot), va_P D vwCl (cW q cI cO I F) H → va_S (cA q) s.heap H locs → lv_has ls 4 [(1, .int x1)] → k x1 x2 x3 → W p l e R s m args below meth c H locs 0 0 Q (F0 m 40 ls [])) → W p l e R s m args below meth c H locs 0 0 Q (F0 m 8 ls []) := by
    intro n
    induction n with
    | zero =>
      intro x0 k x1 x2 x3 H locs ls hx0 hP hS hl h K
      exact False.elim h
    | succ n ih =>
      intro x0 k x1 x2 x3 H locs ls hx0 hP hS hl h K
      have h : w_X3_settingOfBestScore_r_B8 x0 I F k (fun b0 b1 b2 => gLN (fun ag v => w_X3_settingOfBestScore_r_B8 x0 I F k (fun b0 b1 b2 => ag (b0, b1, b2)) v.1 v.2.1 v.2.2) n (b0, b1, b2)) x1 x2 x3 := h
      refine lv_iload_n hx hb dX3_settingOfBestScore_8 rfl (lv_at hl 3 rfl) ?_
      refine lv_sipush (v := (2187 : Int32)) hx hb dX3_settingOfBestScore_9 (by decide) ?_
      refine lv_icmp_ge (tgt := 40) hx hb dX3_settingOfBestScore_12 (by decide) (fun c1 => ?_) (fun c1 => ?_)
      · have h := h.1 c1
        exact K x1 x2 x3 _ _ _  hP hS (lv_sub hl [1] rfl) h
      · have h := h.2 c1
        refine lv_aload_n hx hb dX3_settingOfBestScore_15 rfl (lv_at hl 0 rfl) ?_
        refine lv_iload_n hx hb dX3_settingOfBestScore_16 rfl (lv_at hl 3 rfl) ?_
        refine va_iald (D := D) hx hb hK hP x0 0 (cRow hx0) rfl h.1 dX3_settingOfBestScore_17 ?_
        have h := h.2
        refine lv_bipush (v := (20 : Int32)) hx hb dX3_settingOfBestScore_18 (by decide) ?_
        refine lv_ishr hx hb dX3_settingOfBestScore_20 ?_
        refine lv_iload_n hx hb dX3_settingOfBestScore_21 rfl (lv_at hl 2 rfl) ?_
        refine lv_icmp_ge (tgt := 34) hx hb dX3_settingOfBestScore_22 (by decide) (fun c2 => ?_) (fun c2 => ?_)
        · have h := h.1 c2
          refine lv_iinc (v := (x3 + (1 : Int32))) (lv' := [(3, .int (x3 + (1 : Int32))), (0, .ref (q x0)), (1, .int x1), (2, .int x2)]) hx hb dX3_settingOfBestScore_34 hl (k := 3) rfl rfl (by decide) rfl (fun ls hl => ?_)
          refine lv_goto (tgt := 8) hx hb dX3_settingOfBestScore_37 (by decide) ?_
          exact ih x0 _ x1 x2 (x3 + (1 : Int32)) _ _ _ hx0 hP hS (lv_sub hl [1, 2, 3, 0] rfl) h K
        · have h := h.2 c2
          refine lv_iload_n hx hb dX3_settingOfBestScore_25 rfl (lv_at hl 3 rfl) ?_
          refine lv_istore_n (lv' := [(1, .int x3), (0, .ref (q x0)), (2, .int x2), (3, .int x3)]) hx hb dX3_settingOfBestScore_26 rfl hl (by decide) rfl (fun ls hl => ?_)
          refine lv_aload_n hx hb dX3_settingOfBestScore_27 rfl (lv_at hl 1 rfl) ?_
          refine lv_iload_n hx hb dX3_settingOfBestScore_28 rfl (lv_at hl 3 rfl) ?_
          refine va_iald (D := D) hx hb hK hP x0 0 (cRow hx0) rfl h.1 dX3_settingOfBestScore_29 ?_
          have h := h.2
          refine lv_bipush (v := (20 : Int32)) hx hb dX3_settingOfBestScore_30 (by decide) ?_
          refine lv_ishr hx hb dX3_settingOfBestScore_32 ?_
          refine lv_topi (fun v3 ev3 => ?_)
          have h := h v3 ev3
          refine lv_istore_n (lv' := [(2, .int v3), (1, .int x3), (0, .ref (q x0)), (3, .int x3)]) hx hb dX3_settingOfBestScore_33 rfl hl (by decide) rfl (fun ls hl => ?_)
          refine lv_iinc (v := (x3 + (1 : Int32))) (lv' := [(3, .int (x3 + (1 : Int32))), (2, .int v3), (1, .int x3), (0, .ref (q x0))]) hx hb dX3_settingOfBestScore_34 hl (k := 3) rfl rfl (by decide) rfl (fun ls hl => ?_)
          refine lv_goto (tgt := 8) hx hb dX3_settingOfBestScore_37 (by decide) ?_
          exact ih x0 _ x3 v3 (x3 + (1 : Int32)) _ _ _ hx0 hP hS (lv_sub hl [3, 2, 1, 0] rfl) h K
  refine lv_iconst (v := (-1 : Int32)) hx hb dX3_settingOfBestScore_0 (by decide) ?_
  refine lv_istore_n (lv' := [(1, .int (-1 : Int32)), (0, .ref (q r1))]) hx hb dX3_settingOfBestScore_1 rfl hl (by decide) rfl (fun ls hl => ?_)
  refine lv_sipush (v := (1024 : Int32)) hx hb dX3_settingOfBestScore_2 (by decide) ?_
  refine lv_istore_n (lv' := [(2, .int (1024 : Int32)), (1, .int (-1 : Int32)), (0, .ref (q r1))]) hx hb dX3_settingOfBestScore_5 rfl hl (by decide) rfl (fun ls hl => ?_)
  refine lv_iconst (v := (0 : Int32)) hx hb dX3_settingOfBestScore_6 (by decide) ?_
  refine lv_istore_n (lv' := [(3, .int (0 : Int32)), (2, .int (1024 : Int32)), (1, .int (-1 : Int32)), (0, .ref (q r1))]) hx hb dX3_settingOfBestScore_7 rfl hl (by decide) rfl (fun ls hl => ?_)
  obtain ⟨n, h⟩ := h
  refine L8 n r1 _ (-1 : Int32) (1024 : Int32) (0 : Int32) _ _ _ hr1 hP hS (lv_sub hl [3, 2, 1, 0] rfl) h (fun y4 y5 y6 H locs ls  hP hS hl h => ?_)
  refine lv_iload_n hx hb dX3_settingOfBestScore_40 rfl (lv_at hl 0 rfl) ?_
  exact hret y4 () _ _ _ _ dX3_settingOfBestScore_41 hP hS h
def w_X3_findBest_9_4_J33 (z1 : Int32) (I : Nat → Int32) (F : Nat → Nat → Int32) (post : (Nat → Int32) → (Nat → Nat → Int32) → Prop) : Prop :=
  ∀ I1 : Nat → Int32, I1 = upd I 13 z1 → w_X3_followBest_9_4 I1 F (fun (I2 : Nat → Int32) (F3 : Nat → Nat → Int32) => ∀ I4 : Nat → Int32, I4 = upd I2 16 (1 : Int32) → post I4 F3)
def w_X3_findBest_9_4  (I : Nat → Int32) (F : Nat → Nat → Int32) (post : (Nat → Int32) → (Nat → Nat → Int32) → Prop) : Prop :=
  ((¬ (I 16) = 0 → post I F) ∧ ((I 16) = 0 → w_X3_goBackward_9_4 I F (fun (I6 : Nat → Int32) (F7 : Nat → Nat → Int32) => ((¬ (I6 8) = 0 → vp_in (0 : Int32) 8 ∧ w_X3_settingOfBestScore_r (31 + ((0 : Int32)).toNatClampNeg) I6 F7 (fun (r10 : Int32) => w_X3_findBest_9_4_J33 r10 I6 F7 post)) ∧ ((I6 8) = 0 → w_X3_findBest_9_4_J33 (-1 : Int32) I6 F7 post)))))
set_option maxHeartbeats 4000000 in
set_option maxRecDepth 100000 in
theorem c_X3_findBest_9_4 (l : Launch) (D : va_G) (q : Nat → Nat) (cI cO : ClassId) (hq : cOk q)   (I : Nat → Int32) (F : Nat → Nat → Int32) (post : (Nat → Int32) → (Nat → Nat → Int32) → Prop) (h : w_X3_findBest_9_4  I F post) : Met l yX3_findBest wsX3_findBest ({ frames := 4, cells := 0, slots := 0, locals := 105 } : Room) (gPre D (cTys cI cO) (cW q cI cO I F) (cEnv q) [.ref (q 9), .ref (q 4)]) (va_Qv (fun (u : cS) => post u.1 u.2) (gB D (fun u : cS => cW q cI cO u.1 u.2)) (cA q)) 0 0 (cA q) := by
  refine gMetV (by decide) rfl (Nat.le_of_ble_eq_true rfl) ?_
  intro p e R s m args below meth c Q ls hR hx hb hml hown hts hK hE hP hl hret
  have hRf : 4 ≤ R.frames := by subst hR; exact Nat.le_refl _
  have hRl : 105 ≤ R.locals := by subst hR; exact Nat.le_refl _
  have hown : s.vm.findClass RX3 = some m.cls := hown
  have hl : lv_has ls 2 [(0, .ref (q 9)), (1, .ref (q 4))] := hl
  have hS : va_S (cA q) s.heap s.heap [] := va_S.rf
  have hP : va_P D vwCl (cW q cI cO I F) s.heap := hP
  have J33 : ∀ (z1 : Int32) (I : Nat → Int32) (F : Nat → Nat → Int32) (H : Heap) (locs : List Loc) (ls : Array Slot), va_P D vwCl (cW q cI cO I F) H → va_S (cA q) s.heap H locs → lv_has ls 2 [(0, .ref (q 9)), (1, .ref (q 4))] → w_X3_findBest_9_4_J33 z1 I F post → W p l e R s m args below meth c H locs 0 0 Q (F0 m 33 ls [.int z1, .ref (q 9)]) := by
    intro z1 I F H locs ls  hP hS hl h
    refine gPut (D := D) (ci := 3) (ty := .int) (C := RX3) (T := TX3) (N := 12) hx hb hts (fun _ h9 => List.mem_cons_of_mem _ (List.mem_append_left _ (List.mem_append_left _ (List.mem_append_left _ (List.mem_append_right _ h9))))) tyX3 tyX3_ok nmX3 hown hK hP (cD hq) hS 9 cAt9 rfl 8 (by decide) (hts _ (List.mem_of_getElem? (l := wsX3_findBest) (i := 3) rfl)) (fun _ h9 => h9) rfl (by decide +kernel) rfl rfl (Nat.le_of_ble_eq_true rfl) dX3_findBest_33 (cSet13 z1) (fun H locs hP hS => ?_)
    obtain ⟨I1, eI1⟩ : ∃ z : Nat → Int32, z = upd I 13 z1 := ⟨_, rfl⟩
    rw [← eI1] at hP
    have h := h I1 eI1
    refine lv_aload_n hx hb dX3_findBest_36 rfl (lv_at hl 0 rfl) ?_
    refine lv_aload_n hx hb dX3_findBest_37 rfl (lv_at hl 1 rfl) ?_
    refine gCallV (D := D) (va_runV (As := [.ref (q 4)]) (rest := []) ⟨hx, hb, hml, hown, hts⟩ (c_X3_followBest_9_4 l D q cI cO hq   I1 F _ h) (cwV 1 hts gX3_findBest_X3_followBest rfl rfl rfl (by decide +kernel) ⟨Nat.le_trans (Nat.le_of_ble_eq_true rfl) hRf, Nat.le_trans (Nat.le_of_ble_eq_true rfl) hRl⟩) (gPreV (ci := 3) (q0 := 9) cEok hE hK hP hS rfl cAt9) rfl rfl hl.1 rfl (lv_room (Nat.le_of_ble_eq_true rfl)) dX3_findBest_38 ⟨Nat.zero_le _, Nat.zero_le _⟩) hS (fun u H locs hP hS h => ?_)
    obtain ⟨I2, F3⟩ := u
    have hP : va_P D vwCl (cW q cI cO I2 F3) H := hP
    refine lv_aload_n hx hb dX3_findBest_41 rfl (lv_at hl 0 rfl) ?_
    refine lv_iconst (v := (1 : Int32)) hx hb dX3_findBest_42 (by decide) ?_
    refine gPut (D := D) (ci := 3) (ty := .boolean) (C := RX3) (T := TX3) (N := 12) hx hb hts (fun _ h9 => List.mem_cons_of_mem _ (List.mem_append_left _ (List.mem_append_left _ (List.mem_append_left _ (List.mem_append_right _ h9))))) tyX3 tyX3_ok nmX3 hown hK hP (cD hq) hS 9 cAt9 rfl 11 (by decide) (hts _ (List.mem_of_getElem? (l := wsX3_findBest) (i := 1) rfl)) (fun _ h9 => h9) rfl (by decide +kernel) (by decide) (by decide) (Nat.le_of_ble_eq_true rfl) dX3_findBest_43 (cSet16 (1 : Int32)) (fun H locs hP hS => ?_)
    obtain ⟨I4, eI4⟩ : ∃ z : Nat → Int32, z = upd I2 16 (1 : Int32) := ⟨_, rfl⟩
    rw [← eI4] at hP
    have h := h I4 eI4
    exact hret (I4, F3) _ _ _ _ dX3_findBest_46 hP hS h
  refine lv_aload_n hx hb dX3_findBest_0 rfl (lv_at hl 0 rfl) ?_
  refine va_get (D := D) (ci := 3) (v := .int (I 16)) (C := RX3) (T := TX3) (N := 12) hx hb hts (fun _ h9 => List.mem_cons_of_mem _ (List.mem_append_left _ (List.mem_append_left _ (List.mem_append_left _ (List.mem_append_right _ h9))))) hown hK hP 9 cAt9 rfl 11 (by decide) (hts _ (List.mem_of_getElem? (l := wsX3_findBest) (i := 1) rfl)) (fun _ h9 => h9) rfl dX3_findBest_1 ?_
  refine lv_if_ne (tgt := 46) hx hb dX3_findBest_4 (by decide) (fun c5 => ?_) (fun c5 => ?_)
  · have h := h.1 c5
    exact hret (I, F) _ _ _ _ dX3_findBest_46 hP hS h
  · have h := h.2 c5
    refine lv_aload_n hx hb dX3_findBest_7 rfl (lv_at hl 0 rfl) ?_
    refine lv_aload_n hx hb dX3_findBest_8 rfl (lv_at hl 1 rfl) ?_
    refine gCallV (D := D) (va_runV (As := [.ref (q 4)]) (rest := []) ⟨hx, hb, hml, hown, hts⟩ (c_X3_goBackward_9_4 l D q cI cO hq   I F _ h) (cwV 1 hts gX3_findBest_X3_goBackward rfl rfl rfl (by decide +kernel) ⟨Nat.le_trans (Nat.le_of_ble_eq_true rfl) hRf, Nat.le_trans (Nat.le_of_ble_eq_true rfl) hRl⟩) (gPreV (ci := 3) (q0 := 9) cEok hE hK hP hS rfl cAt9) rfl rfl hl.1 rfl (lv_room (Nat.le_of_ble_eq_true rfl)) dX3_findBest_9 ⟨Nat.zero_le _, Nat.zero_le _⟩) hS (fun u H locs hP hS h => ?_)
    obtain ⟨I6, F7⟩ := u
    have hP : va_P D vwCl (cW q cI cO I6 F7) H := hP
    refine lv_aload_n hx hb dX3_findBest_12 rfl (lv_at hl 0 rfl) ?_
    refine lv_aload_n hx hb dX3_findBest_13 rfl (lv_at hl 1 rfl) ?_
    refine va_getN (D := D) (ci := 2) (v := .int (I6 8)) (C := RX2) (T := TX2) (N := 4) hx hb hts (fun _ h9 => List.mem_cons_of_mem _ (List.mem_append_left _ (List.mem_append_left _ (List.mem_append_right _ h9)))) hown hK hP 4 cAt4 rfl 1 (by decide) (va_Nw.use rfl (hE.1.1 _ (List.mem_of_getElem? (l := cNF) (i := 5) rfl))) (fun _ h9 => h9) rfl dX3_findBest_14 ?_
    refine lv_if_ne (tgt := 24) hx hb dX3_findBest_17 (by decide) (fun c8 => ?_) (fun c8 => ?_)
    · have h := h.1 c8
      refine lv_aload_n hx hb dX3_findBest_24 rfl (lv_at hl 0 rfl) ?_
      refine va_get (D := D) (ci := 3) (v := .ref (q 13)) (C := RX3) (T := TX3) (N := 12) hx hb hts (fun _ h9 => List.mem_cons_of_mem _ (List.mem_append_left _ (List.mem_append_left _ (List.mem_append_left _ (List.mem_append_right _ h9))))) hown hK hP 9 cAt9 rfl 5 (by decide) (hts _ (List.mem_of_getElem? (l := wsX3_findBest) (i := 2) rfl)) (fun _ h9 => h9) rfl dX3_findBest_25 ?_
      refine lv_iconst (v := (0 : Int32)) hx hb dX3_findBest_28 (by decide) ?_
      have ho9 := h.1
      refine gAldA (D := D) hx hb hK hP 13 1 cOut rfl ho9 dX3_findBest_29 (cOutAt ho9) ?_
      have h := h.2
      refine gCallI (D := D) (va_runS (As := [.ref (q (31 + ((0 : Int32)).toNatClampNeg))]) (rest := [.ref (q 9)]) ⟨hx, hb, hml, hown, hts⟩ (c_X3_settingOfBestScore_r l D q cI cO hq (31 + ((0 : Int32)).toNatClampNeg) (cOutRow ho9) I6 F7 _ h) (va_cwS 1 hts gX3_findBest_X3_settingOfBestScore rfl rfl rfl (by decide +kernel) ⟨Nat.le_trans (Nat.le_of_ble_eq_true rfl) hRf, Nat.le_trans (Nat.le_of_ble_eq_true rfl) hRl⟩) (gPreS cEok hE hK hP hS) rfl rfl hl.1 rfl (lv_room (Nat.le_of_ble_eq_true rfl)) dX3_findBest_30 ⟨Nat.zero_le _, Nat.zero_le _⟩) hS (fun r10 _ H locs hP hS h => ?_)
      have hP : va_P D vwCl (cW q cI cO I6 F7) H := hP
      exact J33 r10 I6 F7 _ _ _  hP hS (lv_sub hl [0, 1] rfl) h
    · have h := h.2 c8
      refine lv_iconst (v := (-1 : Int32)) hx hb dX3_findBest_20 (by decide) ?_
      refine lv_goto (tgt := 33) hx hb dX3_findBest_21 (by decide) ?_
      exact J33 (-1 : Int32) I6 F7 _ _ _  hP hS (lv_sub hl [0, 1] rfl) h
def w_X3_bestSetting_9_4_J28 (x2 : Int32) (z0 : Int32) (I : Nat → Int32) (F : Nat → Nat → Int32) (post : Int32 → (Nat → Int32) → (Nat → Nat → Int32) → Prop) : Prop :=
  ((z0 = 0 → post (-1 : Int32) I F) ∧ (¬ z0 = 0 → vp_in x2 8 ∧ w_X7_numberOf (F 27 (x2).toNatClampNeg) I F (fun (r2 : Int32) => post r2 I F)))
def w_X3_bestSetting_9_4_J27 (x2 : Int32) (I : Nat → Int32) (F : Nat → Nat → Int32) (post : Int32 → (Nat → Int32) → (Nat → Nat → Int32) → Prop) : Prop :=
  w_X3_bestSetting_9_4_J28 x2 (0 : Int32) I F post
def w_X3_bestSetting_9_4 (a2 : Int32) (I : Nat → Int32) (F : Nat → Nat → Int32) (post : Int32 → (Nat → Int32) → (Nat → Nat → Int32) → Prop) : Prop :=
  w_X3_findBest_9_4 I F (fun (I3 : Nat → Int32) (F4 : Nat → Nat → Int32) => w_X2_has_4 a2 I3 F4 (fun (r5 : Int32) => ((r5 = 0 → w_X3_bestSetting_9_4_J27 a2 I3 F4 post) ∧ (¬ r5 = 0 → vp_in a2 8 ∧ (((F4 27 (a2).toNatClampNeg) = (-1 : Int32) → w_X3_bestSetting_9_4_J27 a2 I3 F4 post) ∧ (¬ (F4 27 (a2).toNatClampNeg) = (-1 : Int32) → w_X3_bestSetting_9_4_J28 a2 (1 : Int32) I3 F4 post))))))
set_option maxHeartbeats 4000000 in
set_option maxRecDepth 100000 in
theorem c_X3_bestSetting_9_4 (l : Launch) (D : va_G) (q : Nat → Nat) (cI cO : ClassId) (hq : cOk q) (a2 : Int32)  (I : Nat → Int32) (F : Nat → Nat → Int32) (post : Int32 → (Nat → Int32) → (Nat → Nat → Int32) → Prop) (h : w_X3_bestSetting_9_4 a2 I F post) : Met l yX3_bestSetting wsX3_bestSetting ({ frames := 5, cells := 0, slots := 0, locals := 126 } : Room) (gPre D (cTys cI cO) (cW q cI cO I F) (cEnv q) [.ref (q 9), .ref (q 4), .int a2]) (va_Qi (fun r (u : cS) => post r u.1 u.2) (gB D (fun u : cS => cW q cI cO u.1 u.2)) (cA q)) 0 0 (cA q) := by
  refine gMetI (by decide) rfl (Nat.le_of_ble_eq_true rfl) ?_
  intro p e R s m args below meth c Q ls hR hx hb hml hown hts hK hE hP hl hret
  have hRf : 5 ≤ R.frames := by subst hR; exact Nat.le_refl _
  have hRl : 126 ≤ R.locals := by subst hR; exact Nat.le_refl _
  have hown : s.vm.findClass RX3 = some m.cls := hown
  have hl : lv_has ls 4 [(0, .ref (q 9)), (1, .ref (q 4)), (2, .int a2)] := hl
  have hS : va_S (cA q) s.heap s.heap [] := va_S.rf
  have hP : va_P D vwCl (cW q cI cO I F) s.heap := hP
  have J28 : ∀ (x2 : Int32) (z0 : Int32) (I : Nat → Int32) (F : Nat → Nat → Int32) (H : Heap) (locs : List Loc) (ls : Array Slot), va_P D vwCl (cW q cI cO I F) H → va_S (cA q) s.heap H locs → lv_has ls 4 [(0, .ref (q 9)), (2, .int x2)] → w_X3_bestSetting_9_4_J28 x2 z0 I F post → W p l e R s m args below meth c H locs 0 0 Q (F0 m 28 ls [.int z0]) := by
    intro x2 z0 I F H locs ls  hP hS hl h
    refine lv_istore_n (lv' := [(3, .int z0), (0, .ref (q 9)), (2, .int x2)]) hx hb dX3_bestSetting_28 rfl hl (by decide) rfl (fun ls hl => ?_)
    refine lv_iload_n hx hb dX3_bestSetting_29 rfl (lv_at hl 0 rfl) ?_
    refine lv_if_eq (tgt := 45) hx hb dX3_bestSetting_30 (by decide) (fun c1 => ?_) (fun c1 => ?_)
    · have h := h.1 c1
      refine lv_iconst (v := (-1 : Int32)) hx hb dX3_bestSetting_45 (by decide) ?_
      exact hret (-1 : Int32) (I, F) _ _ _ _ dX3_bestSetting_46 hP hS h
    · have h := h.2 c1
      refine lv_aload_n hx hb dX3_bestSetting_33 rfl (lv_at hl 1 rfl) ?_
      refine va_get (D := D) (ci := 3) (v := .ref (q 27)) (C := RX3) (T := TX3) (N := 12) hx hb hts (fun _ h9 => List.mem_cons_of_mem _ (List.mem_append_left _ (List.mem_append_left _ (List.mem_append_left _ (List.mem_append_right _ h9))))) hown hK hP 9 cAt9 rfl 7 (by decide) (hts _ (List.mem_of_getElem? (l := wsX3_bestSetting) (i := 1) rfl)) (fun _ h9 => h9) rfl dX3_bestSetting_34 ?_
      refine lv_iload_n hx hb dX3_bestSetting_37 rfl (lv_at hl 2 rfl) ?_
      refine va_iald (D := D) hx hb hK hP 27 0 cAr27 rfl h.1 dX3_bestSetting_38 ?_
      have h := h.2
      refine gCallI (D := D) (va_runS (As := [.int (F 27 (x2).toNatClampNeg)]) (rest := []) ⟨hx, hb, hml, hown, hts⟩ (c_X7_numberOf l D q cI cO hq (F 27 (x2).toNatClampNeg)  I F _ h) (va_cwS 1 hts gX3_bestSetting_X7_numberOf rfl rfl rfl (by decide +kernel) ⟨Nat.le_trans (Nat.le_of_ble_eq_true rfl) hRf, Nat.le_trans (Nat.le_of_ble_eq_true rfl) hRl⟩) (gPreS cEok hE hK hP hS) rfl rfl hl.1 rfl (lv_room (Nat.le_of_ble_eq_true rfl)) dX3_bestSetting_39 ⟨Nat.zero_le _, Nat.zero_le _⟩) hS (fun r2 _ H locs hP hS h => ?_)
      have hP : va_P D vwCl (cW q cI cO I F) H := hP
      refine lv_goto (tgt := 46) hx hb dX3_bestSetting_42 (by decide) ?_
      exact hret r2 (I, F) _ _ _ _ dX3_bestSetting_46 hP hS h
  have J27 : ∀ (x2 : Int32) (I : Nat → Int32) (F : Nat → Nat → Int32) (H : Heap) (locs : List Loc) (ls : Array Slot), va_P D vwCl (cW q cI cO I F) H → va_S (cA q) s.heap H locs → lv_has ls 4 [(0, .ref (q 9)), (2, .int x2)] → w_X3_bestSetting_9_4_J27 x2 I F post → W p l e R s m args below meth c H locs 0 0 Q (F0 m 27 ls []) := by
    intro x2 I F H locs ls  hP hS hl h
    refine lv_iconst (v := (0 : Int32)) hx hb dX3_bestSetting_27 (by decide) ?_
    exact J28 x2 (0 : Int32) I F _ _ _  hP hS (lv_sub hl [0, 1] rfl) h
  refine lv_aload_n hx hb dX3_bestSetting_0 rfl (lv_at hl 0 rfl) ?_
  refine lv_aload_n hx hb dX3_bestSetting_1 rfl (lv_at hl 1 rfl) ?_
  refine gCallV (D := D) (va_runV (As := [.ref (q 4)]) (rest := []) ⟨hx, hb, hml, hown, hts⟩ (c_X3_findBest_9_4 l D q cI cO hq   I F _ h) (cwV 1 hts gX3_bestSetting_X3_findBest rfl rfl rfl (by decide +kernel) ⟨Nat.le_trans (Nat.le_of_ble_eq_true rfl) hRf, Nat.le_trans (Nat.le_of_ble_eq_true rfl) hRl⟩) (gPreV (ci := 3) (q0 := 9) cEok hE hK hP hS rfl cAt9) rfl rfl hl.1 rfl (lv_room (Nat.le_of_ble_eq_true rfl)) dX3_bestSetting_2 ⟨Nat.zero_le _, Nat.zero_le _⟩) hS (fun u H locs hP hS h => ?_)
  obtain ⟨I3, F4⟩ := u
  have hP : va_P D vwCl (cW q cI cO I3 F4) H := hP
  refine lv_aload_n hx hb dX3_bestSetting_5 rfl (lv_at hl 1 rfl) ?_
  refine lv_iload_n hx hb dX3_bestSetting_6 rfl (lv_at hl 2 rfl) ?_
  refine gCallI (D := D) (va_runV (As := [.int a2]) (rest := []) ⟨hx, hb, hml, hown, hts⟩ (c_X2_has_4 l D q cI cO hq a2  I3 F4 _ h) (cwV 1 hts gX3_bestSetting_X2_has rfl rfl rfl (by decide +kernel) ⟨Nat.le_trans (Nat.le_of_ble_eq_true rfl) hRf, Nat.le_trans (Nat.le_of_ble_eq_true rfl) hRl⟩) (gPreV (ci := 2) (q0 := 4) cEok hE hK hP hS rfl cAt4) rfl rfl hl.1 rfl (lv_room (Nat.le_of_ble_eq_true rfl)) dX3_bestSetting_7 ⟨Nat.zero_le _, Nat.zero_le _⟩) hS (fun r5 _ H locs hP hS h => ?_)
  have hP : va_P D vwCl (cW q cI cO I3 F4) H := hP
  refine lv_if_eq (tgt := 27) hx hb dX3_bestSetting_10 (by decide) (fun c6 => ?_) (fun c6 => ?_)
  · have h := h.1 c6
    exact J27 a2 I3 F4 _ _ _  hP hS (lv_sub hl [0, 2] rfl) h
  · have h := h.2 c6
    refine lv_aload_n hx hb dX3_bestSetting_13 rfl (lv_at hl 0 rfl) ?_
    refine va_get (D := D) (ci := 3) (v := .ref (q 27)) (C := RX3) (T := TX3) (N := 12) hx hb hts (fun _ h9 => List.mem_cons_of_mem _ (List.mem_append_left _ (List.mem_append_left _ (List.mem_append_left _ (List.mem_append_right _ h9))))) hown hK hP 9 cAt9 rfl 7 (by decide) (hts _ (List.mem_of_getElem? (l := wsX3_bestSetting) (i := 1) rfl)) (fun _ h9 => h9) rfl dX3_bestSetting_14 ?_
    refine lv_iload_n hx hb dX3_bestSetting_17 rfl (lv_at hl 2 rfl) ?_
    refine va_iald (D := D) hx hb hK hP 27 0 cAr27 rfl h.1 dX3_bestSetting_18 ?_
    have h := h.2
    refine lv_iconst (v := (-1 : Int32)) hx hb dX3_bestSetting_19 (by decide) ?_
    refine lv_icmp_eq (tgt := 27) hx hb dX3_bestSetting_20 (by decide) (fun c7 => ?_) (fun c7 => ?_)
    · have h := h.1 c7
      exact J27 a2 I3 F4 _ _ _  hP hS (lv_sub hl [0, 2] rfl) h
    · have h := h.2 c7
      refine lv_iconst (v := (1 : Int32)) hx hb dX3_bestSetting_23 (by decide) ?_
      refine lv_goto (tgt := 28) hx hb dX3_bestSetting_24 (by decide) ?_
      exact J28 a2 (1 : Int32) I3 F4 _ _ _  hP hS (lv_sub hl [0, 2] rfl) h
def w_X8_setting (a1 : Int32) (I : Nat → Int32) (F : Nat → Nat → Int32) (post : Int32 → (Nat → Int32) → (Nat → Nat → Int32) → Prop) : Prop :=
  w_X2_has_4 a1 I F (fun (r1 : Int32) => ((r1 = 0 → post (-101 : Int32) I F) ∧ (¬ r1 = 0 → w_X3_bestSetting_9_4 a1 I F (fun (r3 : Int32) (I4 : Nat → Int32) (F5 : Nat → Nat → Int32) => post r3 I4 F5))))
set_option maxHeartbeats 4000000 in
set_option maxRecDepth 100000 in
theorem c_X8_setting (l : Launch) (D : va_G) (q : Nat → Nat) (cI cO : ClassId) (hq : cOk q) (a1 : Int32)  (I : Nat → Int32) (F : Nat → Nat → Int32) (post : Int32 → (Nat → Int32) → (Nat → Nat → Int32) → Prop) (h : w_X8_setting a1 I F post) : Met l yX8_setting wsX8_setting ({ frames := 6, cells := 0, slots := 0, locals := 149 } : Room) (gPre D (cTys cI cO) (cW q cI cO I F) (cEnv q) [.ref (q 0), .int a1]) (va_Qi (fun r (u : cS) => post r u.1 u.2) (gB D (fun u : cS => cW q cI cO u.1 u.2)) (cA q)) 0 0 (cA q) := by
  refine gMetI (by decide) rfl (Nat.le_of_ble_eq_true rfl) ?_
  intro p e R s m args below meth c Q ls hR hx hb hml hown hts hK hE hP hl hret
  have hRf : 6 ≤ R.frames := by subst hR; exact Nat.le_refl _
  have hRl : 149 ≤ R.locals := by subst hR; exact Nat.le_refl _
  have hown : s.vm.findClass RX8 = some m.cls := hown
  have hl : lv_has ls 2 [(0, .ref (q 0)), (1, .int a1)] := hl
  have hS : va_S (cA q) s.heap s.heap [] := va_S.rf
  have hP : va_P D vwCl (cW q cI cO I F) s.heap := hP
  refine lv_aload_n hx hb dX8_setting_0 rfl (lv_at hl 0 rfl) ?_
  refine va_get (D := D) (ci := 8) (v := .ref (q 4)) (C := RX8) (T := TX8) (N := 11) hx hb hts (fun _ h9 => List.mem_cons_of_mem _ (List.mem_append_left _ (List.mem_append_left _ (List.mem_append_left _ (List.mem_append_left _ (List.mem_append_right _ h9)))))) hown hK hP 0 cAt0 rfl 2 (by decide) (hts _ (List.mem_of_getElem? (l := wsX8_setting) (i := 1) rfl)) (fun _ h9 => h9) rfl dX8_setting_1 ?_
  refine lv_iload_n hx hb dX8_setting_4 rfl (lv_at hl 1 rfl) ?_
  refine gCallI (D := D) (va_runV (As := [.int a1]) (rest := []) ⟨hx, hb, hml, hown, hts⟩ (c_X2_has_4 l D q cI cO hq a1  I F _ h) (cwV 1 hts gX8_setting_X2_has rfl rfl rfl (by decide +kernel) ⟨Nat.le_trans (Nat.le_of_ble_eq_true rfl) hRf, Nat.le_trans (Nat.le_of_ble_eq_true rfl) hRl⟩) (gPreV (ci := 2) (q0 := 4) cEok hE hK hP hS rfl cAt4) rfl rfl hl.1 rfl (lv_room (Nat.le_of_ble_eq_true rfl)) dX8_setting_5 ⟨Nat.zero_le _, Nat.zero_le _⟩) hS (fun r1 _ H locs hP hS h => ?_)
  have hP : va_P D vwCl (cW q cI cO I F) H := hP
  refine lv_if_eq (tgt := 26) hx hb dX8_setting_8 (by decide) (fun c2 => ?_) (fun c2 => ?_)
  · have h := h.1 c2
    refine lv_bipush (v := (-101 : Int32)) hx hb dX8_setting_26 (by decide) ?_
    exact hret (-101 : Int32) (I, F) _ _ _ _ dX8_setting_28 hP hS h
  · have h := h.2 c2
    refine lv_aload_n hx hb dX8_setting_11 rfl (lv_at hl 0 rfl) ?_
    refine va_get (D := D) (ci := 8) (v := .ref (q 9)) (C := RX8) (T := TX8) (N := 11) hx hb hts (fun _ h9 => List.mem_cons_of_mem _ (List.mem_append_left _ (List.mem_append_left _ (List.mem_append_left _ (List.mem_append_left _ (List.mem_append_right _ h9)))))) hown hK hP 0 cAt0 rfl 7 (by decide) (hts _ (List.mem_of_getElem? (l := wsX8_setting) (i := 2) rfl)) (fun _ h9 => h9) rfl dX8_setting_12 ?_
    refine lv_aload_n hx hb dX8_setting_15 rfl (lv_at hl 0 rfl) ?_
    refine va_get (D := D) (ci := 8) (v := .ref (q 4)) (C := RX8) (T := TX8) (N := 11) hx hb hts (fun _ h9 => List.mem_cons_of_mem _ (List.mem_append_left _ (List.mem_append_left _ (List.mem_append_left _ (List.mem_append_left _ (List.mem_append_right _ h9)))))) hown hK hP 0 cAt0 rfl 2 (by decide) (hts _ (List.mem_of_getElem? (l := wsX8_setting) (i := 1) rfl)) (fun _ h9 => h9) rfl dX8_setting_16 ?_
    refine lv_iload_n hx hb dX8_setting_19 rfl (lv_at hl 1 rfl) ?_
    refine gCallI (D := D) (va_runV (As := [.ref (q 4), .int a1]) (rest := []) ⟨hx, hb, hml, hown, hts⟩ (c_X3_bestSetting_9_4 l D q cI cO hq a1  I F _ h) (cwV 2 hts gX8_setting_X3_bestSetting rfl rfl rfl (by decide +kernel) ⟨Nat.le_trans (Nat.le_of_ble_eq_true rfl) hRf, Nat.le_trans (Nat.le_of_ble_eq_true rfl) hRl⟩) (gPreV (ci := 3) (q0 := 9) cEok hE hK hP hS rfl cAt9) rfl rfl hl.1 rfl (lv_room (Nat.le_of_ble_eq_true rfl)) dX8_setting_20 ⟨Nat.zero_le _, Nat.zero_le _⟩) hS (fun r3 u H locs hP hS h => ?_)
    obtain ⟨I4, F5⟩ := u
    have hP : va_P D vwCl (cW q cI cO I4 F5) H := hP
    refine lv_goto (tgt := 28) hx hb dX8_setting_23 (by decide) ?_
    exact hret r3 (I4, F5) _ _ _ _ dX8_setting_28 hP hS h
def w_X3_howManyReached_9_4 (a2 : Int32) (I : Nat → Int32) (F : Nat → Nat → Int32) (post : Int32 → (Nat → Int32) → (Nat → Nat → Int32) → Prop) : Prop :=
  w_X3_goForward_9_4 (0 : Int32) I F (fun (I1 : Nat → Int32) (F2 : Nat → Nat → Int32) => w_X2_has_4 a2 I1 F2 (fun (r3 : Int32) => ((r3 = 0 → post (0 : Int32) I1 F2) ∧ (¬ r3 = 0 → vp_in a2 8 ∧ post (F2 26 (a2).toNatClampNeg) I1 F2))))
set_option maxHeartbeats 4000000 in
set_option maxRecDepth 100000 in
theorem c_X3_howManyReached_9_4 (l : Launch) (D : va_G) (q : Nat → Nat) (cI cO : ClassId) (hq : cOk q) (a2 : Int32)  (I : Nat → Int32) (F : Nat → Nat → Int32) (post : Int32 → (Nat → Int32) → (Nat → Nat → Int32) → Prop) (h : w_X3_howManyReached_9_4 a2 I F post) : Met l yX3_howManyReached wsX3_howManyReached ({ frames := 4, cells := 0, slots := 0, locals := 107 } : Room) (gPre D (cTys cI cO) (cW q cI cO I F) (cEnv q) [.ref (q 9), .ref (q 4), .int a2]) (va_Qi (fun r (u : cS) => post r u.1 u.2) (gB D (fun u : cS => cW q cI cO u.1 u.2)) (cA q)) 0 0 (cA q) := by
  refine gMetI (by decide) rfl (Nat.le_of_ble_eq_true rfl) ?_
  intro p e R s m args below meth c Q ls hR hx hb hml hown hts hK hE hP hl hret
  have hRf : 4 ≤ R.frames := by subst hR; exact Nat.le_refl _
  have hRl : 107 ≤ R.locals := by subst hR; exact Nat.le_refl _
  have hown : s.vm.findClass RX3 = some m.cls := hown
  have hl : lv_has ls 3 [(0, .ref (q 9)), (1, .ref (q 4)), (2, .int a2)] := hl
  have hS : va_S (cA q) s.heap s.heap [] := va_S.rf
  have hP : va_P D vwCl (cW q cI cO I F) s.heap := hP
  refine lv_aload_n hx hb dX3_howManyReached_0 rfl (lv_at hl 0 rfl) ?_
  refine lv_aload_n hx hb dX3_howManyReached_1 rfl (lv_at hl 1 rfl) ?_
  refine lv_iconst (v := (0 : Int32)) hx hb dX3_howManyReached_2 (by decide) ?_
  refine gCallV (D := D) (va_runV (As := [.ref (q 4), .int (0 : Int32)]) (rest := []) ⟨hx, hb, hml, hown, hts⟩ (c_X3_goForward_9_4 l D q cI cO hq (0 : Int32)  I F _ h) (cwV 2 hts gX3_howManyReached_X3_goForward rfl rfl rfl (by decide +kernel) ⟨Nat.le_trans (Nat.le_of_ble_eq_true rfl) hRf, Nat.le_trans (Nat.le_of_ble_eq_true rfl) hRl⟩) (gPreV (ci := 3) (q0 := 9) cEok hE hK hP hS rfl cAt9) rfl rfl hl.1 rfl (lv_room (Nat.le_of_ble_eq_true rfl)) dX3_howManyReached_3 ⟨Nat.zero_le _, Nat.zero_le _⟩) hS (fun u H locs hP hS h => ?_)
  obtain ⟨I1, F2⟩ := u
  have hP : va_P D vwCl (cW q cI cO I1 F2) H := hP
  refine lv_aload_n hx hb dX3_howManyReached_6 rfl (lv_at hl 1 rfl) ?_
  refine lv_iload_n hx hb dX3_howManyReached_7 rfl (lv_at hl 2 rfl) ?_
  refine gCallI (D := D) (va_runV (As := [.int a2]) (rest := []) ⟨hx, hb, hml, hown, hts⟩ (c_X2_has_4 l D q cI cO hq a2  I1 F2 _ h) (cwV 1 hts gX3_howManyReached_X2_has rfl rfl rfl (by decide +kernel) ⟨Nat.le_trans (Nat.le_of_ble_eq_true rfl) hRf, Nat.le_trans (Nat.le_of_ble_eq_true rfl) hRl⟩) (gPreV (ci := 2) (q0 := 4) cEok hE hK hP hS rfl cAt4) rfl rfl hl.1 rfl (lv_room (Nat.le_of_ble_eq_true rfl)) dX3_howManyReached_8 ⟨Nat.zero_le _, Nat.zero_le _⟩) hS (fun r3 _ H locs hP hS h => ?_)
  have hP : va_P D vwCl (cW q cI cO I1 F2) H := hP
  refine lv_if_eq (tgt := 23) hx hb dX3_howManyReached_11 (by decide) (fun c4 => ?_) (fun c4 => ?_)
  · have h := h.1 c4
    refine lv_iconst (v := (0 : Int32)) hx hb dX3_howManyReached_23 (by decide) ?_
    exact hret (0 : Int32) (I1, F2) _ _ _ _ dX3_howManyReached_24 hP hS h
  · have h := h.2 c4
    refine lv_aload_n hx hb dX3_howManyReached_14 rfl (lv_at hl 0 rfl) ?_
    refine va_get (D := D) (ci := 3) (v := .ref (q 26)) (C := RX3) (T := TX3) (N := 12) hx hb hts (fun _ h9 => List.mem_cons_of_mem _ (List.mem_append_left _ (List.mem_append_left _ (List.mem_append_left _ (List.mem_append_right _ h9))))) hown hK hP 9 cAt9 rfl 6 (by decide) (hts _ (List.mem_of_getElem? (l := wsX3_howManyReached) (i := 1) rfl)) (fun _ h9 => h9) rfl dX3_howManyReached_15 ?_
    refine lv_iload_n hx hb dX3_howManyReached_18 rfl (lv_at hl 2 rfl) ?_
    refine va_iald (D := D) hx hb hK hP 26 0 cAr26 rfl h.1 dX3_howManyReached_19 ?_
    have h := h.2
    refine lv_goto (tgt := 24) hx hb dX3_howManyReached_20 (by decide) ?_
    exact hret (F2 26 (a2).toNatClampNeg) (I1, F2) _ _ _ _ dX3_howManyReached_24 hP hS h
def w_X8_reach (a1 : Int32) (I : Nat → Int32) (F : Nat → Nat → Int32) (post : Int32 → (Nat → Int32) → (Nat → Nat → Int32) → Prop) : Prop :=
  w_X2_has_4 a1 I F (fun (r1 : Int32) => ((r1 = 0 → post (-101 : Int32) I F) ∧ (¬ r1 = 0 → w_X3_howManyReached_9_4 a1 I F (fun (r3 : Int32) (I4 : Nat → Int32) (F5 : Nat → Nat → Int32) => post r3 I4 F5))))
set_option maxHeartbeats 4000000 in
set_option maxRecDepth 100000 in
theorem c_X8_reach (l : Launch) (D : va_G) (q : Nat → Nat) (cI cO : ClassId) (hq : cOk q) (a1 : Int32)  (I : Nat → Int32) (F : Nat → Nat → Int32) (post : Int32 → (Nat → Int32) → (Nat → Nat → Int32) → Prop) (h : w_X8_reach a1 I F post) : Met l yX8_reach wsX8_reach ({ frames := 5, cells := 0, slots := 0, locals := 129 } : Room) (gPre D (cTys cI cO) (cW q cI cO I F) (cEnv q) [.ref (q 0), .int a1]) (va_Qi (fun r (u : cS) => post r u.1 u.2) (gB D (fun u : cS => cW q cI cO u.1 u.2)) (cA q)) 0 0 (cA q) := by
  refine gMetI (by decide) rfl (Nat.le_of_ble_eq_true rfl) ?_
  intro p e R s m args below meth c Q ls hR hx hb hml hown hts hK hE hP hl hret
  have hRf : 5 ≤ R.frames := by subst hR; exact Nat.le_refl _
  have hRl : 129 ≤ R.locals := by subst hR; exact Nat.le_refl _
  have hown : s.vm.findClass RX8 = some m.cls := hown
  have hl : lv_has ls 2 [(0, .ref (q 0)), (1, .int a1)] := hl
  have hS : va_S (cA q) s.heap s.heap [] := va_S.rf
  have hP : va_P D vwCl (cW q cI cO I F) s.heap := hP
  refine lv_aload_n hx hb dX8_reach_0 rfl (lv_at hl 0 rfl) ?_
  refine va_get (D := D) (ci := 8) (v := .ref (q 4)) (C := RX8) (T := TX8) (N := 11) hx hb hts (fun _ h9 => List.mem_cons_of_mem _ (List.mem_append_left _ (List.mem_append_left _ (List.mem_append_left _ (List.mem_append_left _ (List.mem_append_right _ h9)))))) hown hK hP 0 cAt0 rfl 2 (by decide) (hts _ (List.mem_of_getElem? (l := wsX8_reach) (i := 1) rfl)) (fun _ h9 => h9) rfl dX8_reach_1 ?_
  refine lv_iload_n hx hb dX8_reach_4 rfl (lv_at hl 1 rfl) ?_
  refine gCallI (D := D) (va_runV (As := [.int a1]) (rest := []) ⟨hx, hb, hml, hown, hts⟩ (c_X2_has_4 l D q cI cO hq a1  I F _ h) (cwV 1 hts gX8_reach_X2_has rfl rfl rfl (by decide +kernel) ⟨Nat.le_trans (Nat.le_of_ble_eq_true rfl) hRf, Nat.le_trans (Nat.le_of_ble_eq_true rfl) hRl⟩) (gPreV (ci := 2) (q0 := 4) cEok hE hK hP hS rfl cAt4) rfl rfl hl.1 rfl (lv_room (Nat.le_of_ble_eq_true rfl)) dX8_reach_5 ⟨Nat.zero_le _, Nat.zero_le _⟩) hS (fun r1 _ H locs hP hS h => ?_)
  have hP : va_P D vwCl (cW q cI cO I F) H := hP
  refine lv_if_eq (tgt := 26) hx hb dX8_reach_8 (by decide) (fun c2 => ?_) (fun c2 => ?_)
  · have h := h.1 c2
    refine lv_bipush (v := (-101 : Int32)) hx hb dX8_reach_26 (by decide) ?_
    exact hret (-101 : Int32) (I, F) _ _ _ _ dX8_reach_28 hP hS h
  · have h := h.2 c2
    refine lv_aload_n hx hb dX8_reach_11 rfl (lv_at hl 0 rfl) ?_
    refine va_get (D := D) (ci := 8) (v := .ref (q 9)) (C := RX8) (T := TX8) (N := 11) hx hb hts (fun _ h9 => List.mem_cons_of_mem _ (List.mem_append_left _ (List.mem_append_left _ (List.mem_append_left _ (List.mem_append_left _ (List.mem_append_right _ h9)))))) hown hK hP 0 cAt0 rfl 7 (by decide) (hts _ (List.mem_of_getElem? (l := wsX8_reach) (i := 2) rfl)) (fun _ h9 => h9) rfl dX8_reach_12 ?_
    refine lv_aload_n hx hb dX8_reach_15 rfl (lv_at hl 0 rfl) ?_
    refine va_get (D := D) (ci := 8) (v := .ref (q 4)) (C := RX8) (T := TX8) (N := 11) hx hb hts (fun _ h9 => List.mem_cons_of_mem _ (List.mem_append_left _ (List.mem_append_left _ (List.mem_append_left _ (List.mem_append_left _ (List.mem_append_right _ h9)))))) hown hK hP 0 cAt0 rfl 2 (by decide) (hts _ (List.mem_of_getElem? (l := wsX8_reach) (i := 1) rfl)) (fun _ h9 => h9) rfl dX8_reach_16 ?_
    refine lv_iload_n hx hb dX8_reach_19 rfl (lv_at hl 1 rfl) ?_
    refine gCallI (D := D) (va_runV (As := [.ref (q 4), .int a1]) (rest := []) ⟨hx, hb, hml, hown, hts⟩ (c_X3_howManyReached_9_4 l D q cI cO hq a1  I F _ h) (cwV 2 hts gX8_reach_X3_howManyReached rfl rfl rfl (by decide +kernel) ⟨Nat.le_trans (Nat.le_of_ble_eq_true rfl) hRf, Nat.le_trans (Nat.le_of_ble_eq_true rfl) hRl⟩) (gPreV (ci := 3) (q0 := 9) cEok hE hK hP hS rfl cAt9) rfl rfl hl.1 rfl (lv_room (Nat.le_of_ble_eq_true rfl)) dX8_reach_20 ⟨Nat.zero_le _, Nat.zero_le _⟩) hS (fun r3 u H locs hP hS h => ?_)
    obtain ⟨I4, F5⟩ := u
    have hP : va_P D vwCl (cW q cI cO I4 F5) H := hP
    refine lv_goto (tgt := 28) hx hb dX8_reach_23 (by decide) ?_
    exact hret r3 (I4, F5) _ _ _ _ dX8_reach_28 hP hS h
def w_X8_shifted (a1 : Int32) (I : Nat → Int32) (F : Nat → Nat → Int32) (post : Int32 → (Nat → Int32) → (Nat → Nat → Int32) → Prop) : Prop :=
  w_X8_isShift a1 I F (fun (r1 : Int32) => ((¬ r1 = 0 → ((¬ (I 8) = 0 → w_X3_fewest_9_4 a1 I F (fun (r4 : Int32) (I5 : Nat → Int32) (F6 : Nat → Nat → Int32) => post r4 I5 F6)) ∧ ((I 8) = 0 → post (-103 : Int32) I F))) ∧ (r1 = 0 → post (-102 : Int32) I F)))
set_option maxHeartbeats 4000000 in
set_option maxRecDepth 100000 in
theorem c_X8_shifted (l : Launch) (D : va_G) (q : Nat → Nat) (cI cO : ClassId) (hq : cOk q) (a1 : Int32)  (I : Nat → Int32) (F : Nat → Nat → Int32) (post : Int32 → (Nat → Int32) → (Nat → Nat → Int32) → Prop) (h : w_X8_shifted a1 I F post) : Met l yX8_shifted wsX8_shifted ({ frames := 5, cells := 0, slots := 0, locals := 129 } : Room) (gPre D (cTys cI cO) (cW q cI cO I F) (cEnv q) [.ref (q 0), .int a1]) (va_Qi (fun r (u : cS) => post r u.1 u.2) (gB D (fun u : cS => cW q cI cO u.1 u.2)) (cA q)) 0 0 (cA q) := by
  refine gMetI (by decide) rfl (Nat.le_of_ble_eq_true rfl) ?_
  intro p e R s m args below meth c Q ls hR hx hb hml hown hts hK hE hP hl hret
  have hRf : 5 ≤ R.frames := by subst hR; exact Nat.le_refl _
  have hRl : 129 ≤ R.locals := by subst hR; exact Nat.le_refl _
  have hown : s.vm.findClass RX8 = some m.cls := hown
  have hl : lv_has ls 2 [(0, .ref (q 0)), (1, .int a1)] := hl
  have hS : va_S (cA q) s.heap s.heap [] := va_S.rf
  have hP : va_P D vwCl (cW q cI cO I F) s.heap := hP
  refine lv_iload_n hx hb dX8_shifted_0 rfl (lv_at hl 1 rfl) ?_
  refine gCallI (D := D) (va_runS (As := [.int a1]) (rest := []) ⟨hx, hb, hml, hown, hts⟩ (c_X8_isShift l D q cI cO hq a1  I F _ h) (va_cwS 1 hts gX8_shifted_X8_isShift rfl rfl rfl (by decide +kernel) ⟨Nat.le_trans (Nat.le_of_ble_eq_true rfl) hRf, Nat.le_trans (Nat.le_of_ble_eq_true rfl) hRl⟩) (gPreS cEok hE hK hP hS) rfl rfl hl.1 rfl (lv_room (Nat.le_of_ble_eq_true rfl)) dX8_shifted_1 ⟨Nat.zero_le _, Nat.zero_le _⟩) hS (fun r1 _ H locs hP hS h => ?_)
  have hP : va_P D vwCl (cW q cI cO I F) H := hP
  refine lv_if_ne (tgt := 10) hx hb dX8_shifted_4 (by decide) (fun c2 => ?_) (fun c2 => ?_)
  · have h := h.1 c2
    refine lv_aload_n hx hb dX8_shifted_10 rfl (lv_at hl 0 rfl) ?_
    refine va_get (D := D) (ci := 8) (v := .ref (q 4)) (C := RX8) (T := TX8) (N := 11) hx hb hts (fun _ h9 => List.mem_cons_of_mem _ (List.mem_append_left _ (List.mem_append_left _ (List.mem_append_left _ (List.mem_append_left _ (List.mem_append_right _ h9)))))) hown hK hP 0 cAt0 rfl 2 (by decide) (hts _ (List.mem_of_getElem? (l := wsX8_shifted) (i := 1) rfl)) (fun _ h9 => h9) rfl dX8_shifted_11 ?_
    refine va_getN (D := D) (ci := 2) (v := .int (I 8)) (C := RX2) (T := TX2) (N := 4) hx hb hts (fun _ h9 => List.mem_cons_of_mem _ (List.mem_append_left _ (List.mem_append_left _ (List.mem_append_left _ (List.mem_append_right _ h9))))) hown hK hP 4 cAt4 rfl 1 (by decide) (va_Nw.use rfl (hE.1.1 _ (List.mem_of_getElem? (l := cNF) (i := 6) rfl))) (fun _ h9 => h9) rfl dX8_shifted_14 ?_
    refine lv_if_ne (tgt := 25) hx hb dX8_shifted_17 (by decide) (fun c3 => ?_) (fun c3 => ?_)
    · have h := h.1 c3
      refine lv_aload_n hx hb dX8_shifted_25 rfl (lv_at hl 0 rfl) ?_
      refine va_get (D := D) (ci := 8) (v := .ref (q 9)) (C := RX8) (T := TX8) (N := 11) hx hb hts (fun _ h9 => List.mem_cons_of_mem _ (List.mem_append_left _ (List.mem_append_left _ (List.mem_append_left _ (List.mem_append_left _ (List.mem_append_right _ h9)))))) hown hK hP 0 cAt0 rfl 7 (by decide) (hts _ (List.mem_of_getElem? (l := wsX8_shifted) (i := 2) rfl)) (fun _ h9 => h9) rfl dX8_shifted_26 ?_
      refine lv_aload_n hx hb dX8_shifted_29 rfl (lv_at hl 0 rfl) ?_
      refine va_get (D := D) (ci := 8) (v := .ref (q 4)) (C := RX8) (T := TX8) (N := 11) hx hb hts (fun _ h9 => List.mem_cons_of_mem _ (List.mem_append_left _ (List.mem_append_left _ (List.mem_append_left _ (List.mem_append_left _ (List.mem_append_right _ h9)))))) hown hK hP 0 cAt0 rfl 2 (by decide) (hts _ (List.mem_of_getElem? (l := wsX8_shifted) (i := 1) rfl)) (fun _ h9 => h9) rfl dX8_shifted_30 ?_
      refine lv_iload_n hx hb dX8_shifted_33 rfl (lv_at hl 1 rfl) ?_
      refine gCallI (D := D) (va_runV (As := [.ref (q 4), .int a1]) (rest := []) ⟨hx, hb, hml, hown, hts⟩ (c_X3_fewest_9_4 l D q cI cO hq a1  I F _ h) (cwV 2 hts gX8_shifted_X3_fewest rfl rfl rfl (by decide +kernel) ⟨Nat.le_trans (Nat.le_of_ble_eq_true rfl) hRf, Nat.le_trans (Nat.le_of_ble_eq_true rfl) hRl⟩) (gPreV (ci := 3) (q0 := 9) cEok hE hK hP hS rfl cAt9) rfl rfl hl.1 rfl (lv_room (Nat.le_of_ble_eq_true rfl)) dX8_shifted_34 ⟨Nat.zero_le _, Nat.zero_le _⟩) hS (fun r4 u H locs hP hS h => ?_)
      obtain ⟨I5, F6⟩ := u
      have hP : va_P D vwCl (cW q cI cO I5 F6) H := hP
      exact hret r4 (I5, F6) _ _ _ _ dX8_shifted_37 hP hS h
    · have h := h.2 c3
      refine lv_bipush (v := (-103 : Int32)) hx hb dX8_shifted_20 (by decide) ?_
      refine lv_goto (tgt := 37) hx hb dX8_shifted_22 (by decide) ?_
      exact hret (-103 : Int32) (I, F) _ _ _ _ dX8_shifted_37 hP hS h
  · have h := h.2 c2
    refine lv_bipush (v := (-102 : Int32)) hx hb dX8_shifted_7 (by decide) ?_
    exact hret (-102 : Int32) (I, F) _ _ _ _ dX8_shifted_9 hP hS h
def w_X8_leastShift_B38  (k again : Int32 → Int32 → Int32 → (Nat → Int32) → (Nat → Nat → Int32) → Prop) (x1 : Int32) (x2 : Int32) (x3 : Int32) (I : Nat → Int32) (F : Nat → Nat → Int32) : Prop :=
  (((12 : Int32) ≤ x3 → k x1 x2 x3 I F) ∧ (¬ (12 : Int32) ≤ x3 → w_X3_fewest_9_4 x3 I F (fun (r2 : Int32) (I3 : Nat → Int32) (F4 : Nat → Nat → Int32) => ((r2 = (-1 : Int32) → again x1 x2 (x3 + (1 : Int32)) I3 F4) ∧ (¬ r2 = (-1 : Int32) → ((x2 ≤ r2 → again x1 x2 (x3 + (1 : Int32)) I3 F4) ∧ (¬ x2 ≤ r2 → again x3 r2 (x3 + (1 : Int32)) I3 F4)))))))
def w_X8_leastShift  (I : Nat → Int32) (F : Nat → Nat → Int32) (post : Int32 → (Nat → Int32) → (Nat → Nat → Int32) → Prop) : Prop :=
  (((I 8) = 0 → post (-103 : Int32) I F) ∧ (¬ (I 8) = 0 → (((I 1) < (5 : Int32) → ∀ I9 : Nat → Int32, I9 = upd I 1 ((I 1) + (1 : Int32)) → gL (fun ag v => w_X8_leastShift_B38  (fun (y10 : Int32) (y11 : Int32) (y12 : Int32) (I13 : Nat → Int32) (F14 : Nat → Nat → Int32) => post y10 I13 F14) (fun b0 b1 b2 b3 b4 => ag (b0, b1, b2, b3, b4)) v.1 v.2.1 v.2.2.1 v.2.2.2.1 v.2.2.2.2) ((-1 : Int32), (1073741824 : Int32), (0 : Int32), I9, F)) ∧ (¬ (I 1) < (5 : Int32) → post (-103 : Int32) I F))))
set_option maxHeartbeats 4000000 in
set_option maxRecDepth 100000 in
theorem c_X8_leastShift (l : Launch) (D : va_G) (q : Nat → Nat) (cI cO : ClassId) (hq : cOk q)   (I : Nat → Int32) (F : Nat → Nat → Int32) (post : Int32 → (Nat → Int32) → (Nat → Nat → Int32) → Prop) (h : w_X8_leastShift  I F post) : Met l yX8_leastShift wsX8_leastShift ({ frames := 5, cells := 0, slots := 0, locals := 129 } : Room) (gPre D (cTys cI cO) (cW q cI cO I F) (cEnv q) [.ref (q 0)]) (va_Qi (fun r (u : cS) => post r u.1 u.2) (gB D (fun u : cS => cW q cI cO u.1 u.2)) (cA q)) 0 0 (cA q) := by
  refine gMetI (by decide) rfl (Nat.le_of_ble_eq_true rfl) ?_
  intro p e R s m args below meth c Q ls hR hx hb hml hown hts hK hE hP hl hret
  have hRf : 5 ≤ R.frames := by subst hR; exact Nat.le_refl _
  have hRl : 129 ≤ R.locals := by subst hR; exact Nat.le_refl _
  have hown : s.vm.findClass RX8 = some m.cls := hown
  have hl : lv_has ls 5 [(0, .ref (q 0))] := hl
  have hS : va_S (cA q) s.heap s.heap [] := va_S.rf
  have hP : va_P D vwCl (cW q cI cO I F) s.heap := hP
  have L38 : ∀ (n : Nat)  (k : Int32 → Int32 → Int32 → (Nat → Int32) → (Nat → Nat → Int32) → Prop) (x1 : Int32) (x2 : Int32) (x3 : Int32) (I : Nat → Int32) (F : Nat → Nat → Int32) (H : Heap) (locs : List Loc) (ls : Array Slot), va_P D vwCl (cW q cI cO I F) H → va_S (cA q) s.heap H locs → lv_has ls 5 [(0, .ref (q 0)), (1, .int x1), (2, .int x2), (3, .int x3)] → gLN (fun ag v => w_X8_leastShift_B38  k (fun b0 b1 b2 b3 b4 => ag (b0, b1, b2, b3, b4)) v.1 v.2.1 v.2.2.1 v.2.2.2.1 v.2.2.2.2) n (x1, x2, x3, I, F) → (∀ (x1 : Int32) (x2 : Int32) (x3 : Int32) (I : Nat → Int32) (F : Nat → Nat → Int32) (H : Heap) (locs : List Loc) (ls : Array Slot), va_P D vwCl (cW q cI cO I F) H → va_S (cA q) s.heap H locs → lv_has ls 5 [(1, .int x1)] → k x1 x2 x3 I F → W p l e R s m args below meth c H locs 0 0 Q (F0 m 81 ls [])) → W p l e R s m args below meth c H locs 0 0 Q (F0 m 38 ls []) := by
    intro n
    induction n with
    | zero =>
      intro  k x1 x2 x3 I F H locs ls  hP hS hl h K
      exact False.elim h
    | succ n ih =>
      intro  k x1 x2 x3 I F H locs ls  hP hS hl h K
      have h : w_X8_leastShift_B38  k (fun b0 b1 b2 b3 b4 => gLN (fun ag v => w_X8_leastShift_B38  k (fun b0 b1 b2 b3 b4 => ag (b0, b1, b2, b3, b4)) v.1 v.2.1 v.2.2.1 v.2.2.2.1 v.2.2.2.2) n (b0, b1, b2, b3, b4)) x1 x2 x3 I F := h
      refine lv_iload_n hx hb dX8_leastShift_38 rfl (lv_at hl 3 rfl) ?_
      refine lv_bipush (v := (12 : Int32)) hx hb dX8_leastShift_39 (by decide) ?_
      refine lv_icmp_ge (tgt := 81) hx hb dX8_leastShift_41 (by decide) (fun c1 => ?_) (fun c1 => ?_)
      · have h := h.1 c1
        exact K x1 x2 x3 I F _ _ _  hP hS (lv_sub hl [1] rfl) h
      · have h := h.2 c1
        refine lv_aload_n hx hb dX8_leastShift_44 rfl (lv_at hl 0 rfl) ?_
        refine va_get (D := D) (ci := 8) (v := .ref (q 9)) (C := RX8) (T := TX8) (N := 11) hx hb hts (fun _ h9 => List.mem_cons_of_mem _ (List.mem_append_left _ (List.mem_append_left _ (List.mem_append_left _ (List.mem_append_left _ (List.mem_append_right _ h9)))))) hown hK hP 0 cAt0 rfl 7 (by decide) (hts _ (List.mem_of_getElem? (l := wsX8_leastShift) (i := 4) rfl)) (fun _ h9 => h9) rfl dX8_leastShift_45 ?_
        refine lv_aload_n hx hb dX8_leastShift_48 rfl (lv_at hl 0 rfl) ?_
        refine va_get (D := D) (ci := 8) (v := .ref (q 4)) (C := RX8) (T := TX8) (N := 11) hx hb hts (fun _ h9 => List.mem_cons_of_mem _ (List.mem_append_left _ (List.mem_append_left _ (List.mem_append_left _ (List.mem_append_left _ (List.mem_append_right _ h9)))))) hown hK hP 0 cAt0 rfl 2 (by decide) (hts _ (List.mem_of_getElem? (l := wsX8_leastShift) (i := 1) rfl)) (fun _ h9 => h9) rfl dX8_leastShift_49 ?_
        refine lv_iload_n hx hb dX8_leastShift_52 rfl (lv_at hl 3 rfl) ?_
        refine gCallI (D := D) (va_runV (As := [.ref (q 4), .int x3]) (rest := []) ⟨hx, hb, hml, hown, hts⟩ (c_X3_fewest_9_4 l D q cI cO hq x3  I F _ h) (cwV 2 hts gX8_leastShift_X3_fewest rfl rfl rfl (by decide +kernel) ⟨Nat.le_trans (Nat.le_of_ble_eq_true rfl) hRf, Nat.le_trans (Nat.le_of_ble_eq_true rfl) hRl⟩) (gPreV (ci := 3) (q0 := 9) cEok hE hK hP hS rfl cAt9) rfl rfl hl.1 rfl (lv_room (Nat.le_of_ble_eq_true rfl)) dX8_leastShift_53 ⟨Nat.zero_le _, Nat.zero_le _⟩) hS (fun r2 u H locs hP hS h => ?_)
        obtain ⟨I3, F4⟩ := u
        have hP : va_P D vwCl (cW q cI cO I3 F4) H := hP
        refine lv_istore (lv' := [(4, .int r2), (0, .ref (q 0)), (1, .int x1), (2, .int x2), (3, .int x3)]) hx hb dX8_leastShift_56 hl (by decide) rfl (fun ls hl => ?_)
        refine lv_iload hx hb dX8_leastShift_58 (lv_at hl 0 rfl) ?_
        refine lv_iconst (v := (-1 : Int32)) hx hb dX8_leastShift_60 (by decide) ?_
        refine lv_icmp_eq (tgt := 75) hx hb dX8_leastShift_61 (by decide) (fun c5 => ?_) (fun c5 => ?_)
        · have h := h.1 c5
          refine lv_iinc (v := (x3 + (1 : Int32))) (lv' := [(3, .int (x3 + (1 : Int32))), (4, .int r2), (0, .ref (q 0)), (1, .int x1), (2, .int x2)]) hx hb dX8_leastShift_75 hl (k := 4) rfl rfl (by decide) rfl (fun ls hl => ?_)
          refine lv_goto (tgt := 38) hx hb dX8_leastShift_78 (by decide) ?_
          exact ih  _ x1 x2 (x3 + (1 : Int32)) I3 F4 _ _ _  hP hS (lv_sub hl [2, 3, 4, 0] rfl) h K
        · have h := h.2 c5
          refine lv_iload hx hb dX8_leastShift_64 (lv_at hl 0 rfl) ?_
          refine lv_iload_n hx hb dX8_leastShift_66 rfl (lv_at hl 3 rfl) ?_
          refine lv_icmp_ge (tgt := 75) hx hb dX8_leastShift_67 (by decide) (fun c6 => ?_) (fun c6 => ?_)
          · have h := h.1 c6
            refine lv_iinc (v := (x3 + (1 : Int32))) (lv' := [(3, .int (x3 + (1 : Int32))), (4, .int r2), (0, .ref (q 0)), (1, .int x1), (2, .int x2)]) hx hb dX8_leastShift_75 hl (k := 4) rfl rfl (by decide) rfl (fun ls hl => ?_)
            refine lv_goto (tgt := 38) hx hb dX8_leastShift_78 (by decide) ?_
            exact ih  _ x1 x2 (x3 + (1 : Int32)) I3 F4 _ _ _  hP hS (lv_sub hl [2, 3, 4, 0] rfl) h K
          · have h := h.2 c6
            refine lv_iload_n hx hb dX8_leastShift_70 rfl (lv_at hl 4 rfl) ?_
            refine lv_istore_n (lv' := [(1, .int x3), (4, .int r2), (0, .ref (q 0)), (2, .int x2), (3, .int x3)]) hx hb dX8_leastShift_71 rfl hl (by decide) rfl (fun ls hl => ?_)
            refine lv_iload hx hb dX8_leastShift_72 (lv_at hl 1 rfl) ?_
            refine lv_istore_n (lv' := [(2, .int r2), (1, .int x3), (4, .int r2), (0, .ref (q 0)), (3, .int x3)]) hx hb dX8_leastShift_74 rfl hl (by decide) rfl (fun ls hl => ?_)
            refine lv_iinc (v := (x3 + (1 : Int32))) (lv' := [(3, .int (x3 + (1 : Int32))), (2, .int r2), (1, .int x3), (4, .int r2), (0, .ref (q 0))]) hx hb dX8_leastShift_75 hl (k := 4) rfl rfl (by decide) rfl (fun ls hl => ?_)
            refine lv_goto (tgt := 38) hx hb dX8_leastShift_78 (by decide) ?_
            exact ih  _ x3 r2 (x3 + (1 : Int32)) I3 F4 _ _ _  hP hS (lv_sub hl [4, 2, 1, 0] rfl) h K
  refine lv_aload_n hx hb dX8_leastShift_0 rfl (lv_at hl 0 rfl) ?_
  refine va_get (D := D) (ci := 8) (v := .ref (q 4)) (C := RX8) (T := TX8) (N := 11) hx hb hts (fun _ h9 => List.mem_cons_of_mem _ (List.mem_append_left _ (List.mem_append_left _ (List.mem_append_left _ (List.mem_append_left _ (List.mem_append_right _ h9)))))) hown hK hP 0 cAt0 rfl 2 (by decide) (hts _ (List.mem_of_getElem? (l := wsX8_leastShift) (i := 1) rfl)) (fun _ h9 => h9) rfl dX8_leastShift_1 ?_
  refine va_getN (D := D) (ci := 2) (v := .int (I 8)) (C := RX2) (T := TX2) (N := 4) hx hb hts (fun _ h9 => List.mem_cons_of_mem _ (List.mem_append_left _ (List.mem_append_left _ (List.mem_append_left _ (List.mem_append_right _ h9))))) hown hK hP 4 cAt4 rfl 1 (by decide) (va_Nw.use rfl (hE.1.1 _ (List.mem_of_getElem? (l := cNF) (i := 6) rfl))) (fun _ h9 => h9) rfl dX8_leastShift_4 ?_
  refine lv_if_eq (tgt := 18) hx hb dX8_leastShift_7 (by decide) (fun c7 => ?_) (fun c7 => ?_)
  · have h := h.1 c7
    refine lv_bipush (v := (-103 : Int32)) hx hb dX8_leastShift_18 (by decide) ?_
    exact hret (-103 : Int32) (I, F) _ _ _ _ dX8_leastShift_20 hP hS h
  · have h := h.2 c7
    refine lv_aload_n hx hb dX8_leastShift_10 rfl (lv_at hl 0 rfl) ?_
    refine va_get (D := D) (ci := 8) (v := .int (I 1)) (C := RX8) (T := TX8) (N := 11) hx hb hts (fun _ h9 => List.mem_cons_of_mem _ (List.mem_append_left _ (List.mem_append_left _ (List.mem_append_left _ (List.mem_append_left _ (List.mem_append_right _ h9)))))) hown hK hP 0 cAt0 rfl 10 (by decide) (hts _ (List.mem_of_getElem? (l := wsX8_leastShift) (i := 2) rfl)) (fun _ h9 => h9) rfl dX8_leastShift_11 ?_
    refine lv_iconst (v := (5 : Int32)) hx hb dX8_leastShift_14 (by decide) ?_
    refine lv_icmp_lt (tgt := 21) hx hb dX8_leastShift_15 (by decide) (fun c8 => ?_) (fun c8 => ?_)
    · have h := h.1 c8
      refine lv_aload_n hx hb dX8_leastShift_21 rfl (lv_at hl 0 rfl) ?_
      refine lv_dup hx hb dX8_leastShift_22 rfl ?_
      refine va_get (D := D) (ci := 8) (v := .int (I 1)) (C := RX8) (T := TX8) (N := 11) hx hb hts (fun _ h9 => List.mem_cons_of_mem _ (List.mem_append_left _ (List.mem_append_left _ (List.mem_append_left _ (List.mem_append_left _ (List.mem_append_right _ h9)))))) hown hK hP 0 cAt0 rfl 10 (by decide) (hts _ (List.mem_of_getElem? (l := wsX8_leastShift) (i := 2) rfl)) (fun _ h9 => h9) rfl dX8_leastShift_23 ?_
      refine lv_iconst (v := (1 : Int32)) hx hb dX8_leastShift_26 (by decide) ?_
      refine lv_iadd hx hb dX8_leastShift_27 ?_
      refine gPut (D := D) (ci := 8) (ty := .int) (C := RX8) (T := TX8) (N := 11) hx hb hts (fun _ h9 => List.mem_cons_of_mem _ (List.mem_append_left _ (List.mem_append_left _ (List.mem_append_left _ (List.mem_append_left _ (List.mem_append_right _ h9)))))) tyX8 tyX8_ok nmX8 hown hK hP (cD hq) hS 0 cAt0 rfl 10 (by decide) (hts _ (List.mem_of_getElem? (l := wsX8_leastShift) (i := 2) rfl)) (fun _ h9 => h9) rfl (by decide +kernel) rfl rfl (Nat.le_of_ble_eq_true rfl) dX8_leastShift_28 (cSet1 ((I 1) + (1 : Int32))) (fun H locs hP hS => ?_)
      obtain ⟨I9, eI9⟩ : ∃ z : Nat → Int32, z = upd I 1 ((I 1) + (1 : Int32)) := ⟨_, rfl⟩
      rw [← eI9] at hP
      have h := h I9 eI9
      refine lv_iconst (v := (-1 : Int32)) hx hb dX8_leastShift_31 (by decide) ?_
      refine lv_istore_n (lv' := [(1, .int (-1 : Int32)), (0, .ref (q 0))]) hx hb dX8_leastShift_32 rfl hl (by decide) rfl (fun ls hl => ?_)
      refine lv_ldc (v := (1073741824 : Int32)) hx hb hown (hts _ (List.mem_of_getElem? (l := wsX8_leastShift) (i := 3) rfl)) dX8_leastShift_33 ?_
      refine lv_istore_n (lv' := [(2, .int (1073741824 : Int32)), (1, .int (-1 : Int32)), (0, .ref (q 0))]) hx hb dX8_leastShift_35 rfl hl (by decide) rfl (fun ls hl => ?_)
      refine lv_iconst (v := (0 : Int32)) hx hb dX8_leastShift_36 (by decide) ?_
      refine lv_istore_n (lv' := [(3, .int (0 : Int32)), (2, .int (1073741824 : Int32)), (1, .int (-1 : Int32)), (0, .ref (q 0))]) hx hb dX8_leastShift_37 rfl hl (by decide) rfl (fun ls hl => ?_)
      obtain ⟨n, h⟩ := h
      refine L38 n  _ (-1 : Int32) (1073741824 : Int32) (0 : Int32) I9 F _ _ _  hP hS (lv_sub hl [3, 2, 1, 0] rfl) h (fun y10 y11 y12 I13 F14 H locs ls  hP hS hl h => ?_)
      refine lv_iload_n hx hb dX8_leastShift_81 rfl (lv_at hl 0 rfl) ?_
      exact hret y10 (I13, F14) _ _ _ _ dX8_leastShift_82 hP hS h
    · have h := h.2 c8
      refine lv_bipush (v := (-103 : Int32)) hx hb dX8_leastShift_18 (by decide) ?_
      exact hret (-103 : Int32) (I, F) _ _ _ _ dX8_leastShift_20 hP hS h
def w_X3_bestBegin_9_4  (I : Nat → Int32) (F : Nat → Nat → Int32) (post : Int32 → (Nat → Int32) → (Nat → Nat → Int32) → Prop) : Prop :=
  w_X3_findBest_9_4 I F (fun (I1 : Nat → Int32) (F2 : Nat → Nat → Int32) => ((¬ (I1 13) = (-1 : Int32) → w_X7_numberOf (I1 13) I1 F2 (fun (r4 : Int32) => post r4 I1 F2)) ∧ ((I1 13) = (-1 : Int32) → post (-1 : Int32) I1 F2)))
set_option maxHeartbeats 4000000 in
set_option maxRecDepth 100000 in
theorem c_X3_bestBegin_9_4 (l : Launch) (D : va_G) (q : Nat → Nat) (cI cO : ClassId) (hq : cOk q)   (I : Nat → Int32) (F : Nat → Nat → Int32) (post : Int32 → (Nat → Int32) → (Nat → Nat → Int32) → Prop) (h : w_X3_bestBegin_9_4  I F post) : Met l yX3_bestBegin wsX3_bestBegin ({ frames := 5, cells := 0, slots := 0, locals := 126 } : Room) (gPre D (cTys cI cO) (cW q cI cO I F) (cEnv q) [.ref (q 9), .ref (q 4)]) (va_Qi (fun r (u : cS) => post r u.1 u.2) (gB D (fun u : cS => cW q cI cO u.1 u.2)) (cA q)) 0 0 (cA q) := by
  refine gMetI (by decide) rfl (Nat.le_of_ble_eq_true rfl) ?_
  intro p e R s m args below meth c Q ls hR hx hb hml hown hts hK hE hP hl hret
  have hRf : 5 ≤ R.frames := by subst hR; exact Nat.le_refl _
  have hRl : 126 ≤ R.locals := by subst hR; exact Nat.le_refl _
  have hown : s.vm.findClass RX3 = some m.cls := hown
  have hl : lv_has ls 2 [(0, .ref (q 9)), (1, .ref (q 4))] := hl
  have hS : va_S (cA q) s.heap s.heap [] := va_S.rf
  have hP : va_P D vwCl (cW q cI cO I F) s.heap := hP
  refine lv_aload_n hx hb dX3_bestBegin_0 rfl (lv_at hl 0 rfl) ?_
  refine lv_aload_n hx hb dX3_bestBegin_1 rfl (lv_at hl 1 rfl) ?_
  refine gCallV (D := D) (va_runV (As := [.ref (q 4)]) (rest := []) ⟨hx, hb, hml, hown, hts⟩ (c_X3_findBest_9_4 l D q cI cO hq   I F _ h) (cwV 1 hts gX3_bestBegin_X3_findBest rfl rfl rfl (by decide +kernel) ⟨Nat.le_trans (Nat.le_of_ble_eq_true rfl) hRf, Nat.le_trans (Nat.le_of_ble_eq_true rfl) hRl⟩) (gPreV (ci := 3) (q0 := 9) cEok hE hK hP hS rfl cAt9) rfl rfl hl.1 rfl (lv_room (Nat.le_of_ble_eq_true rfl)) dX3_bestBegin_2 ⟨Nat.zero_le _, Nat.zero_le _⟩) hS (fun u H locs hP hS h => ?_)
  obtain ⟨I1, F2⟩ := u
  have hP : va_P D vwCl (cW q cI cO I1 F2) H := hP
  refine lv_aload_n hx hb dX3_bestBegin_5 rfl (lv_at hl 0 rfl) ?_
  refine va_get (D := D) (ci := 3) (v := .int (I1 13)) (C := RX3) (T := TX3) (N := 12) hx hb hts (fun _ h9 => List.mem_cons_of_mem _ (List.mem_append_left _ (List.mem_append_left _ (List.mem_append_left _ (List.mem_append_right _ h9))))) hown hK hP 9 cAt9 rfl 8 (by decide) (hts _ (List.mem_of_getElem? (l := wsX3_bestBegin) (i := 1) rfl)) (fun _ h9 => h9) rfl dX3_bestBegin_6 ?_
  refine lv_iconst (v := (-1 : Int32)) hx hb dX3_bestBegin_9 (by decide) ?_
  refine lv_icmp_ne (tgt := 17) hx hb dX3_bestBegin_10 (by decide) (fun c3 => ?_) (fun c3 => ?_)
  · have h := h.1 c3
    refine lv_aload_n hx hb dX3_bestBegin_17 rfl (lv_at hl 0 rfl) ?_
    refine va_get (D := D) (ci := 3) (v := .int (I1 13)) (C := RX3) (T := TX3) (N := 12) hx hb hts (fun _ h9 => List.mem_cons_of_mem _ (List.mem_append_left _ (List.mem_append_left _ (List.mem_append_left _ (List.mem_append_right _ h9))))) hown hK hP 9 cAt9 rfl 8 (by decide) (hts _ (List.mem_of_getElem? (l := wsX3_bestBegin) (i := 1) rfl)) (fun _ h9 => h9) rfl dX3_bestBegin_18 ?_
    refine gCallI (D := D) (va_runS (As := [.int (I1 13)]) (rest := []) ⟨hx, hb, hml, hown, hts⟩ (c_X7_numberOf l D q cI cO hq (I1 13)  I1 F2 _ h) (va_cwS 1 hts gX3_bestBegin_X7_numberOf rfl rfl rfl (by decide +kernel) ⟨Nat.le_trans (Nat.le_of_ble_eq_true rfl) hRf, Nat.le_trans (Nat.le_of_ble_eq_true rfl) hRl⟩) (gPreS cEok hE hK hP hS) rfl rfl hl.1 rfl (lv_room (Nat.le_of_ble_eq_true rfl)) dX3_bestBegin_21 ⟨Nat.zero_le _, Nat.zero_le _⟩) hS (fun r4 _ H locs hP hS h => ?_)
    have hP : va_P D vwCl (cW q cI cO I1 F2) H := hP
    exact hret r4 (I1, F2) _ _ _ _ dX3_bestBegin_24 hP hS h
  · have h := h.2 c3
    refine lv_iconst (v := (-1 : Int32)) hx hb dX3_bestBegin_13 (by decide) ?_
    refine lv_goto (tgt := 24) hx hb dX3_bestBegin_14 (by decide) ?_
    exact hret (-1 : Int32) (I1, F2) _ _ _ _ dX3_bestBegin_24 hP hS h
def w_X8_free  (I : Nat → Int32) (F : Nat → Nat → Int32) (post : Int32 → (Nat → Int32) → (Nat → Nat → Int32) → Prop) : Prop :=
  ((¬ (I 8) = 0 → w_X3_bestBegin_9_4 I F (fun (r2 : Int32) (I3 : Nat → Int32) (F4 : Nat → Nat → Int32) => post r2 I3 F4)) ∧ ((I 8) = 0 → post (-103 : Int32) I F))
set_option maxHeartbeats 4000000 in
set_option maxRecDepth 100000 in
theorem c_X8_free (l : Launch) (D : va_G) (q : Nat → Nat) (cI cO : ClassId) (hq : cOk q)   (I : Nat → Int32) (F : Nat → Nat → Int32) (post : Int32 → (Nat → Int32) → (Nat → Nat → Int32) → Prop) (h : w_X8_free  I F post) : Met l yX8_free wsX8_free ({ frames := 6, cells := 0, slots := 0, locals := 147 } : Room) (gPre D (cTys cI cO) (cW q cI cO I F) (cEnv q) [.ref (q 0)]) (va_Qi (fun r (u : cS) => post r u.1 u.2) (gB D (fun u : cS => cW q cI cO u.1 u.2)) (cA q)) 0 0 (cA q) := by
  refine gMetI (by decide) rfl (Nat.le_of_ble_eq_true rfl) ?_
  intro p e R s m args below meth c Q ls hR hx hb hml hown hts hK hE hP hl hret
  have hRf : 6 ≤ R.frames := by subst hR; exact Nat.le_refl _
  have hRl : 147 ≤ R.locals := by subst hR; exact Nat.le_refl _
  have hown : s.vm.findClass RX8 = some m.cls := hown
  have hl : lv_has ls 1 [(0, .ref (q 0))] := hl
  have hS : va_S (cA q) s.heap s.heap [] := va_S.rf
  have hP : va_P D vwCl (cW q cI cO I F) s.heap := hP
  refine lv_aload_n hx hb dX8_free_0 rfl (lv_at hl 0 rfl) ?_
  refine va_get (D := D) (ci := 8) (v := .ref (q 4)) (C := RX8) (T := TX8) (N := 11) hx hb hts (fun _ h9 => List.mem_cons_of_mem _ (List.mem_append_left _ (List.mem_append_left _ (List.mem_append_left _ (List.mem_append_left _ (List.mem_append_right _ h9)))))) hown hK hP 0 cAt0 rfl 2 (by decide) (hts _ (List.mem_of_getElem? (l := wsX8_free) (i := 1) rfl)) (fun _ h9 => h9) rfl dX8_free_1 ?_
  refine va_getN (D := D) (ci := 2) (v := .int (I 8)) (C := RX2) (T := TX2) (N := 4) hx hb hts (fun _ h9 => List.mem_cons_of_mem _ (List.mem_append_left _ (List.mem_append_left _ (List.mem_append_left _ (List.mem_append_right _ h9))))) hown hK hP 4 cAt4 rfl 1 (by decide) (va_Nw.use rfl (hE.1.1 _ (List.mem_of_getElem? (l := cNF) (i := 6) rfl))) (fun _ h9 => h9) rfl dX8_free_4 ?_
  refine lv_if_ne (tgt := 15) hx hb dX8_free_7 (by decide) (fun c1 => ?_) (fun c1 => ?_)
  · have h := h.1 c1
    refine lv_aload_n hx hb dX8_free_15 rfl (lv_at hl 0 rfl) ?_
    refine va_get (D := D) (ci := 8) (v := .ref (q 9)) (C := RX8) (T := TX8) (N := 11) hx hb hts (fun _ h9 => List.mem_cons_of_mem _ (List.mem_append_left _ (List.mem_append_left _ (List.mem_append_left _ (List.mem_append_left _ (List.mem_append_right _ h9)))))) hown hK hP 0 cAt0 rfl 7 (by decide) (hts _ (List.mem_of_getElem? (l := wsX8_free) (i := 2) rfl)) (fun _ h9 => h9) rfl dX8_free_16 ?_
    refine lv_aload_n hx hb dX8_free_19 rfl (lv_at hl 0 rfl) ?_
    refine va_get (D := D) (ci := 8) (v := .ref (q 4)) (C := RX8) (T := TX8) (N := 11) hx hb hts (fun _ h9 => List.mem_cons_of_mem _ (List.mem_append_left _ (List.mem_append_left _ (List.mem_append_left _ (List.mem_append_left _ (List.mem_append_right _ h9)))))) hown hK hP 0 cAt0 rfl 2 (by decide) (hts _ (List.mem_of_getElem? (l := wsX8_free) (i := 1) rfl)) (fun _ h9 => h9) rfl dX8_free_20 ?_
    refine gCallI (D := D) (va_runV (As := [.ref (q 4)]) (rest := []) ⟨hx, hb, hml, hown, hts⟩ (c_X3_bestBegin_9_4 l D q cI cO hq   I F _ h) (cwV 1 hts gX8_free_X3_bestBegin rfl rfl rfl (by decide +kernel) ⟨Nat.le_trans (Nat.le_of_ble_eq_true rfl) hRf, Nat.le_trans (Nat.le_of_ble_eq_true rfl) hRl⟩) (gPreV (ci := 3) (q0 := 9) cEok hE hK hP hS rfl cAt9) rfl rfl hl.1 rfl (lv_room (Nat.le_of_ble_eq_true rfl)) dX8_free_23 ⟨Nat.zero_le _, Nat.zero_le _⟩) hS (fun r2 u H locs hP hS h => ?_)
    obtain ⟨I3, F4⟩ := u
    have hP : va_P D vwCl (cW q cI cO I3 F4) H := hP
    exact hret r2 (I3, F4) _ _ _ _ dX8_free_26 hP hS h
  · have h := h.2 c1
    refine lv_bipush (v := (-103 : Int32)) hx hb dX8_free_10 (by decide) ?_
    refine lv_goto (tgt := 26) hx hb dX8_free_12 (by decide) ?_
    exact hret (-103 : Int32) (I, F) _ _ _ _ dX8_free_26 hP hS h
def w_X6_add_6_J61 (z1 : Int32) (z2 : Int32) (I : Nat → Int32) (F : Nat → Nat → Int32) (post : Int32 → (Nat → Int32) → (Nat → Nat → Int32) → Prop) : Prop :=
  vp_in z1 6 ∧ ∀ F1 : Nat → Nat → Int32, F1 = upF F 22 (upd (F 22) (z1).toNatClampNeg z2) → ∀ I2 : Nat → Int32, I2 = upd I 11 ((I 11) + (1 : Int32)) → post (1 : Int32) I2 F1
def w_X6_add_6 (a1 : Int32) (a2 : Int32) (a3 : Int32) (I : Nat → Int32) (F : Nat → Nat → Int32) (post : Int32 → (Nat → Int32) → (Nat → Nat → Int32) → Prop) : Prop :=
  (((6 : Int32) ≤ (I 11) → post (0 : Int32) I F) ∧ (¬ (6 : Int32) ≤ (I 11) → ((a2 < 0 → post (0 : Int32) I F) ∧ (¬ a2 < 0 → ((a2 < (4 : Int32) → vp_in a2 4 ∧ ∀ v6 : Int32, v6 = (tabK (a2).toNatClampNeg) → vp_in (I 11) 6 ∧ ∀ F7 : Nat → Nat → Int32, F7 = upF F 21 (upd (F 21) ((I 11)).toNatClampNeg a1) → ((a3 = 0 → w_X6_add_6_J61 (I 11) ((31 : Int32) &&& (v6 ^^^ (-1 : Int32))) I F7 post) ∧ (¬ a3 = 0 → w_X6_add_6_J61 (I 11) v6 I F7 post))) ∧ (¬ a2 < (4 : Int32) → post (0 : Int32) I F))))))
set_option maxHeartbeats 4000000 in
set_option maxRecDepth 100000 in
theorem c_X6_add_6 (l : Launch) (D : va_G) (q : Nat → Nat) (cI cO : ClassId) (hq : cOk q) (a1 : Int32) (a2 : Int32) (a3 : Int32)  (I : Nat → Int32) (F : Nat → Nat → Int32) (post : Int32 → (Nat → Int32) → (Nat → Nat → Int32) → Prop) (h : w_X6_add_6 a1 a2 a3 I F post) : Met l yX6_add wsX6_add ({ frames := 0, cells := 0, slots := 0, locals := 0 } : Room) (gPre D (cTys cI cO) (cW q cI cO I F) (cEnv q) [.ref (q 6), .int a1, .int a2, .int a3]) (va_Qi (fun r (u : cS) => post r u.1 u.2) (gB D (fun u : cS => cW q cI cO u.1 u.2)) (cA q)) 0 0 (cA q) := by
  refine gMetZ (by decide) rfl (Nat.le_of_ble_eq_true rfl) ?_
  intro p e R s m args below meth c Q ls hR hx hb hml hown hts hK hE hP hl hret
  have hRf : 0 ≤ R.frames := by subst hR; exact Nat.le_refl _
  have hRl : 0 ≤ R.locals := by subst hR; exact Nat.le_refl _
  have hown : s.vm.findClass RX6 = some m.cls := hown
  have hl : lv_has ls 5 [(0, .ref (q 6)), (1, .int a1), (2, .int a2), (3, .int a3)] := hl
  have hS : va_S (cA q) s.heap s.heap [] := va_S.rf
  have hP : va_P D vwCl (cW q cI cO I F) s.heap := hP
  have J61 : ∀ (z1 : Int32) (z2 : Int32) (I : Nat → Int32) (F : Nat → Nat → Int32) (H : Heap) (locs : List Loc) (ls : Array Slot), va_P D vwCl (cW q cI cO I F) H → va_S (cA q) s.heap H locs → lv_has ls 5 [(0, .ref (q 6))] → w_X6_add_6_J61 z1 z2 I F post → W p l e R s m args below meth c H locs 0 0 Q (F0 m 61 ls [.int z2, .int z1, .ref (q 22)]) := by
    intro z1 z2 I F H locs ls  hP hS hl h
    refine gAst (D := D) hx hb hK hP (cD hq) hS 22 0 cAr22 rfl h.1 dX6_add_61 (cSA22 _) (fun H locs hP hS => ?_)
    obtain ⟨F1, eF1⟩ : ∃ z : Nat → Nat → Int32, z = upF F 22 (upd (F 22) (z1).toNatClampNeg z2) := ⟨_, rfl⟩
    rw [← eF1] at hP
    have h := h.2 F1 eF1
    refine lv_aload_n hx hb dX6_add_62 rfl (lv_at hl 0 rfl) ?_
    refine lv_dup hx hb dX6_add_63 rfl ?_
    refine va_get (D := D) (ci := 6) (v := .int (I 11)) (C := RX6) (T := TX6) (N := 3) hx hb hts (fun _ h9 => List.mem_cons_of_mem _ (List.mem_append_right _ h9)) hown hK hP 6 cAt6 rfl 0 (by decide) (hts _ (List.mem_of_getElem? (l := wsX6_add) (i := 1) rfl)) (fun _ h9 => h9) rfl dX6_add_64 ?_
    refine lv_iconst (v := (1 : Int32)) hx hb dX6_add_67 (by decide) ?_
    refine lv_iadd hx hb dX6_add_68 ?_
    refine gPut (D := D) (ci := 6) (ty := .int) (C := RX6) (T := TX6) (N := 3) hx hb hts (fun _ h9 => List.mem_cons_of_mem _ (List.mem_append_right _ h9)) tyX6 tyX6_ok nmX6 hown hK hP (cD hq) hS 6 cAt6 rfl 0 (by decide) (hts _ (List.mem_of_getElem? (l := wsX6_add) (i := 1) rfl)) (fun _ h9 => h9) rfl (by decide +kernel) rfl rfl (Nat.le_of_ble_eq_true rfl) dX6_add_69 (cSet11 ((I 11) + (1 : Int32))) (fun H locs hP hS => ?_)
    obtain ⟨I2, eI2⟩ : ∃ z : Nat → Int32, z = upd I 11 ((I 11) + (1 : Int32)) := ⟨_, rfl⟩
    rw [← eI2] at hP
    have h := h I2 eI2
    refine lv_iconst (v := (1 : Int32)) hx hb dX6_add_72 (by decide) ?_
    exact hret (1 : Int32) (I2, F1) _ _ _ _ dX6_add_73 hP hS (by decide) h
  refine lv_aload_n hx hb dX6_add_0 rfl (lv_at hl 0 rfl) ?_
  refine va_get (D := D) (ci := 6) (v := .int (I 11)) (C := RX6) (T := TX6) (N := 3) hx hb hts (fun _ h9 => List.mem_cons_of_mem _ (List.mem_append_right _ h9)) hown hK hP 6 cAt6 rfl 0 (by decide) (hts _ (List.mem_of_getElem? (l := wsX6_add) (i := 1) rfl)) (fun _ h9 => h9) rfl dX6_add_1 ?_
  refine lv_bipush (v := (6 : Int32)) hx hb dX6_add_4 (by decide) ?_
  refine lv_icmp_ge (tgt := 18) hx hb dX6_add_6 (by decide) (fun c3 => ?_) (fun c3 => ?_)
  · have h := h.1 c3
    refine lv_iconst (v := (0 : Int32)) hx hb dX6_add_18 (by decide) ?_
    exact hret (0 : Int32) (I, F) _ _ _ _ dX6_add_19 hP hS (by decide) h
  · have h := h.2 c3
    refine lv_iload_n hx hb dX6_add_9 rfl (lv_at hl 2 rfl) ?_
    refine lv_if_lt (tgt := 18) hx hb dX6_add_10 (by decide) (fun c4 => ?_) (fun c4 => ?_)
    · have h := h.1 c4
      refine lv_iconst (v := (0 : Int32)) hx hb dX6_add_18 (by decide) ?_
      exact hret (0 : Int32) (I, F) _ _ _ _ dX6_add_19 hP hS (by decide) h
    · have h := h.2 c4
      refine lv_iload_n hx hb dX6_add_13 rfl (lv_at hl 2 rfl) ?_
      refine lv_iconst (v := (4 : Int32)) hx hb dX6_add_14 (by decide) ?_
      refine lv_icmp_lt (tgt := 20) hx hb dX6_add_15 (by decide) (fun c5 => ?_) (fun c5 => ?_)
      · have h := h.1 c5
        refine va_gets (C := "HarpPedals$Seen") (v := .ref (q 41)) hx hb hE.2.2.2.1 hS hown (hts _ (List.mem_of_getElem? (l := wsX6_add) (i := 2) rfl)) (fun _ h9 => h9) dX6_add_20 ?_
        refine lv_iload_n hx hb dX6_add_23 rfl (lv_at hl 2 rfl) ?_
        refine va_ti (v := .int (tabK (a2).toNatClampNeg)) hx hb hE.2.2.2.2 hS h.1 rfl dX6_add_24 ?_
        have h := h.2
        refine lv_topi (fun v6 ev6 => ?_)
        have h := h v6 ev6
        refine lv_istore (lv' := [(4, .int v6), (0, .ref (q 6)), (1, .int a1), (2, .int a2), (3, .int a3)]) hx hb dX6_add_25 hl (by decide) rfl (fun ls hl => ?_)
        refine lv_aload_n hx hb dX6_add_27 rfl (lv_at hl 1 rfl) ?_
        refine va_get (D := D) (ci := 6) (v := .ref (q 21)) (C := RX6) (T := TX6) (N := 3) hx hb hts (fun _ h9 => List.mem_cons_of_mem _ (List.mem_append_right _ h9)) hown hK hP 6 cAt6 rfl 1 (by decide) (hts _ (List.mem_of_getElem? (l := wsX6_add) (i := 3) rfl)) (fun _ h9 => h9) rfl dX6_add_28 ?_
        refine lv_aload_n hx hb dX6_add_31 rfl (lv_at hl 1 rfl) ?_
        refine va_get (D := D) (ci := 6) (v := .int (I 11)) (C := RX6) (T := TX6) (N := 3) hx hb hts (fun _ h9 => List.mem_cons_of_mem _ (List.mem_append_right _ h9)) hown hK hP 6 cAt6 rfl 0 (by decide) (hts _ (List.mem_of_getElem? (l := wsX6_add) (i := 1) rfl)) (fun _ h9 => h9) rfl dX6_add_32 ?_
        refine lv_iload_n hx hb dX6_add_35 rfl (lv_at hl 2 rfl) ?_
        refine gAst (D := D) hx hb hK hP (cD hq) hS 21 0 cAr21 rfl h.1 dX6_add_36 (cSA21 _) (fun H locs hP hS => ?_)
        obtain ⟨F7, eF7⟩ : ∃ z : Nat → Nat → Int32, z = upF F 21 (upd (F 21) ((I 11)).toNatClampNeg a1) := ⟨_, rfl⟩
        rw [← eF7] at hP
        have h := h.2 F7 eF7
        refine lv_aload_n hx hb dX6_add_37 rfl (lv_at hl 1 rfl) ?_
        refine va_get (D := D) (ci := 6) (v := .ref (q 22)) (C := RX6) (T := TX6) (N := 3) hx hb hts (fun _ h9 => List.mem_cons_of_mem _ (List.mem_append_right _ h9)) hown hK hP 6 cAt6 rfl 2 (by decide) (hts _ (List.mem_of_getElem? (l := wsX6_add) (i := 4) rfl)) (fun _ h9 => h9) rfl dX6_add_38 ?_
        refine lv_aload_n hx hb dX6_add_41 rfl (lv_at hl 1 rfl) ?_
        refine va_get (D := D) (ci := 6) (v := .int (I 11)) (C := RX6) (T := TX6) (N := 3) hx hb hts (fun _ h9 => List.mem_cons_of_mem _ (List.mem_append_right _ h9)) hown hK hP 6 cAt6 rfl 0 (by decide) (hts _ (List.mem_of_getElem? (l := wsX6_add) (i := 1) rfl)) (fun _ h9 => h9) rfl dX6_add_42 ?_
        refine lv_iload_n hx hb dX6_add_45 rfl (lv_at hl 4 rfl) ?_
        refine lv_if_eq (tgt := 54) hx hb dX6_add_46 (by decide) (fun c8 => ?_) (fun c8 => ?_)
        · have h := h.1 c8
          refine lv_bipush (v := (31 : Int32)) hx hb dX6_add_54 (by decide) ?_
          refine lv_iload hx hb dX6_add_56 (lv_at hl 0 rfl) ?_
          refine lv_iconst (v := (-1 : Int32)) hx hb dX6_add_58 (by decide) ?_
          refine lv_ixor hx hb dX6_add_59 ?_
          refine lv_iand hx hb dX6_add_60 ?_
          exact J61 (I 11) ((31 : Int32) &&& (v6 ^^^ (-1 : Int32))) I F7 _ _ _  hP hS (lv_sub hl [1] rfl) h
        · have h := h.2 c8
          refine lv_iload hx hb dX6_add_49 (lv_at hl 0 rfl) ?_
          refine lv_goto (tgt := 61) hx hb dX6_add_51 (by decide) ?_
          exact J61 (I 11) v6 I F7 _ _ _  hP hS (lv_sub hl [1] rfl) h
      · have h := h.2 c5
        refine lv_iconst (v := (0 : Int32)) hx hb dX6_add_18 (by decide) ?_
        exact hret (0 : Int32) (I, F) _ _ _ _ dX6_add_19 hP hS (by decide) h
