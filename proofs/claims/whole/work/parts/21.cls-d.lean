def w_X2_remove_4_B21  (k again : Int32 → (Nat → Int32) → (Nat → Nat → Int32) → Prop) (x2 : Int32) (I : Nat → Int32) (F : Nat → Nat → Int32) : Prop :=
  (((I 8) ≤ x2 → k x2 I F) ∧ (¬ (I 8) ≤ x2 → vp_in (x2 + (1 : Int32)) 8 ∧ vp_in x2 8 ∧ ∀ F2 : Nat → Nat → Int32, F2 = upF F 17 (upd (F 17) (x2).toNatClampNeg (F 17 ((x2 + (1 : Int32))).toNatClampNeg)) → vp_in (x2 + (1 : Int32)) 8 ∧ vp_in x2 8 ∧ ∀ F3 : Nat → Nat → Int32, F3 = upF F2 18 (upd (F2 18) (x2).toNatClampNeg (F2 18 ((x2 + (1 : Int32))).toNatClampNeg)) → again (x2 + (1 : Int32)) I F3))
def w_X2_remove_4 (a1 : Int32) (I : Nat → Int32) (F : Nat → Nat → Int32) (post : (Nat → Int32) → (Nat → Nat → Int32) → Prop) : Prop :=
  w_X2_has_4 a1 I F (fun (r4 : Int32) => ((¬ r4 = 0 → ∀ I6 : Nat → Int32, I6 = upd I 8 ((I 8) - (1 : Int32)) → gL (fun ag v => w_X2_remove_4_B21  (fun (y7 : Int32) (I8 : Nat → Int32) (F9 : Nat → Nat → Int32) => post I8 F9) (fun b0 b1 b2 => ag (b0, b1, b2)) v.1 v.2.1 v.2.2) (a1, I6, F)) ∧ (r4 = 0 → post I F)))
set_option maxHeartbeats 4000000 in
set_option maxRecDepth 100000 in
theorem c_X2_remove_4 (l : Launch) (D : va_G) (q : Nat → Nat) (cI cO : ClassId) (hq : cOk q) (a1 : Int32)  (I : Nat → Int32) (F : Nat → Nat → Int32) (post : (Nat → Int32) → (Nat → Nat → Int32) → Prop) (h : w_X2_remove_4 a1 I F post) : Met l yX2_remove wsX2_remove ({ frames := 1, cells := 0, slots := 0, locals := 21 } : Room) (gPre D (cTys cI cO) (cW q cI cO I F) (cEnv q) [.ref (q 4), .int a1]) (va_Qv (fun (u : cS) => post u.1 u.2) (gB D (fun u : cS => cW q cI cO u.1 u.2)) (cA q)) 0 0 (cA q) := by
  refine gMetV (by decide) rfl (Nat.le_of_ble_eq_true rfl) ?_
  intro p e R s m args below meth c Q ls hR hx hb hml hown hts hK hE hP hl hret
  have hRf : 1 ≤ R.frames := by subst hR; exact Nat.le_refl _
  have hRl : 21 ≤ R.locals := by subst hR; exact Nat.le_refl _
  have hown : s.vm.findClass RX2 = some m.cls := hown
  have hl : lv_has ls 3 [(0, .ref (q 4)), (1, .int a1)] := hl
  have hS : va_S (cA q) s.heap s.heap [] := va_S.rf
  have hP : va_P D vwCl (cW q cI cO I F) s.heap := hP
  have L21 : ∀ (n : Nat)  (k : Int32 → (Nat → Int32) → (Nat → Nat → Int32) → Prop) (x2 : Int32) (I : Nat → Int32) (F : Nat → Nat → Int32) (H : Heap) (locs : List Loc) (ls : Array Slot), va_P D vwCl (cW q cI cO I F) H → va_S (cA q) s.heap H locs → lv_has ls 3 [(0, .ref (q 4)), (2, .int x2)] → gLN (fun ag v => w_X2_remove_4_B21  k (fun b0 b1 b2 => ag (b0, b1, b2)) v.1 v.2.1 v.2.2) n (x2, I, F) → (∀ (x2 : Int32) (I : Nat → Int32) (F : Nat → Nat → Int32) (H : Heap) (locs : List Loc) (ls : Array Slot), va_P D vwCl (cW q cI cO I F) H → va_S (cA q) s.heap H locs → lv_has ls 3 [] → k x2 I F → W p l e R s m args below meth c H locs 0 0 Q (F0 m 63 ls [])) → W p l e R s m args below meth c H locs 0 0 Q (F0 m 21 ls []) := by
    intro n
    induction n with
    | zero =>
      intro  k x2 I F H locs ls  hP hS hl h K
      exact False.elim h
    | succ n ih =>
      intro  k x2 I F H locs ls  hP hS hl h K
      have h : w_X2_remove_4_B21  k (fun b0 b1 b2 => gLN (fun ag v => w_X2_remove_4_B21  k (fun b0 b1 b2 => ag (b0, b1, b2)) v.1 v.2.1 v.2.2) n (b0, b1, b2)) x2 I F := h
      refine lv_iload_n hx hb dX2_remove_21 rfl (lv_at hl 1 rfl) ?_
      refine lv_aload_n hx hb dX2_remove_22 rfl (lv_at hl 0 rfl) ?_
      refine va_get (D := D) (ci := 2) (v := .int (I 8)) (C := RX2) (T := TX2) (N := 4) hx hb hts (fun _ h9 => List.mem_cons_of_mem _ (List.mem_append_right _ h9)) hown hK hP 4 cAt4 rfl 1 (by decide) (hts _ (List.mem_of_getElem? (l := wsX2_remove) (i := 1) rfl)) (fun _ h9 => h9) rfl dX2_remove_23 ?_
      refine lv_icmp_ge (tgt := 63) hx hb dX2_remove_26 (by decide) (fun c1 => ?_) (fun c1 => ?_)
      · have h := h.1 c1
        exact K x2 I F _ _ _  hP hS (lv_sub hl [] rfl) h
      · have h := h.2 c1
        refine lv_aload_n hx hb dX2_remove_29 rfl (lv_at hl 0 rfl) ?_
        refine va_get (D := D) (ci := 2) (v := .ref (q 17)) (C := RX2) (T := TX2) (N := 4) hx hb hts (fun _ h9 => List.mem_cons_of_mem _ (List.mem_append_right _ h9)) hown hK hP 4 cAt4 rfl 2 (by decide) (hts _ (List.mem_of_getElem? (l := wsX2_remove) (i := 2) rfl)) (fun _ h9 => h9) rfl dX2_remove_30 ?_
        refine lv_iload_n hx hb dX2_remove_33 rfl (lv_at hl 1 rfl) ?_
        refine lv_aload_n hx hb dX2_remove_34 rfl (lv_at hl 0 rfl) ?_
        refine va_get (D := D) (ci := 2) (v := .ref (q 17)) (C := RX2) (T := TX2) (N := 4) hx hb hts (fun _ h9 => List.mem_cons_of_mem _ (List.mem_append_right _ h9)) hown hK hP 4 cAt4 rfl 2 (by decide) (hts _ (List.mem_of_getElem? (l := wsX2_remove) (i := 2) rfl)) (fun _ h9 => h9) rfl dX2_remove_35 ?_
        refine lv_iload_n hx hb dX2_remove_38 rfl (lv_at hl 1 rfl) ?_
        refine lv_iconst (v := (1 : Int32)) hx hb dX2_remove_39 (by decide) ?_
        refine lv_iadd hx hb dX2_remove_40 ?_
        refine va_iald (D := D) hx hb hK hP 17 0 cAr17 rfl h.1 dX2_remove_41 ?_
        have h := h.2
        refine gAst (D := D) hx hb hK hP (cD hq) hS 17 0 cAr17 rfl h.1 dX2_remove_42 (cSA17 _) (fun H locs hP hS => ?_)
        obtain ⟨F2, eF2⟩ : ∃ z : Nat → Nat → Int32, z = upF F 17 (upd (F 17) (x2).toNatClampNeg (F 17 ((x2 + (1 : Int32))).toNatClampNeg)) := ⟨_, rfl⟩
        rw [← eF2] at hP
        have h := h.2 F2 eF2
        refine lv_aload_n hx hb dX2_remove_43 rfl (lv_at hl 0 rfl) ?_
        refine va_get (D := D) (ci := 2) (v := .ref (q 18)) (C := RX2) (T := TX2) (N := 4) hx hb hts (fun _ h9 => List.mem_cons_of_mem _ (List.mem_append_right _ h9)) hown hK hP 4 cAt4 rfl 3 (by decide) (hts _ (List.mem_of_getElem? (l := wsX2_remove) (i := 3) rfl)) (fun _ h9 => h9) rfl dX2_remove_44 ?_
        refine lv_iload_n hx hb dX2_remove_47 rfl (lv_at hl 1 rfl) ?_
        refine lv_aload_n hx hb dX2_remove_48 rfl (lv_at hl 0 rfl) ?_
        refine va_get (D := D) (ci := 2) (v := .ref (q 18)) (C := RX2) (T := TX2) (N := 4) hx hb hts (fun _ h9 => List.mem_cons_of_mem _ (List.mem_append_right _ h9)) hown hK hP 4 cAt4 rfl 3 (by decide) (hts _ (List.mem_of_getElem? (l := wsX2_remove) (i := 3) rfl)) (fun _ h9 => h9) rfl dX2_remove_49 ?_
        refine lv_iload_n hx hb dX2_remove_52 rfl (lv_at hl 1 rfl) ?_
        refine lv_iconst (v := (1 : Int32)) hx hb dX2_remove_53 (by decide) ?_
        refine lv_iadd hx hb dX2_remove_54 ?_
        refine va_iald (D := D) hx hb hK hP 18 0 cAr18 rfl h.1 dX2_remove_55 ?_
        have h := h.2
        refine gAst (D := D) hx hb hK hP (cD hq) hS 18 0 cAr18 rfl h.1 dX2_remove_56 (cSA18 _) (fun H locs hP hS => ?_)
        obtain ⟨F3, eF3⟩ : ∃ z : Nat → Nat → Int32, z = upF F2 18 (upd (F2 18) (x2).toNatClampNeg (F2 18 ((x2 + (1 : Int32))).toNatClampNeg)) := ⟨_, rfl⟩
        rw [← eF3] at hP
        have h := h.2 F3 eF3
        refine lv_iinc (v := (x2 + (1 : Int32))) (lv' := [(2, .int (x2 + (1 : Int32))), (0, .ref (q 4))]) hx hb dX2_remove_57 hl (k := 1) rfl rfl (by decide) rfl (fun ls hl => ?_)
        refine lv_goto (tgt := 21) hx hb dX2_remove_60 (by decide) ?_
        exact ih  _ (x2 + (1 : Int32)) I F3 _ _ _  hP hS (lv_sub hl [1, 0] rfl) h K
  refine lv_aload_n hx hb dX2_remove_0 rfl (lv_at hl 0 rfl) ?_
  refine lv_iload_n hx hb dX2_remove_1 rfl (lv_at hl 1 rfl) ?_
  refine gCallI (D := D) (va_runV (As := [.int a1]) (rest := []) ⟨hx, hb, hml, hown, hts⟩ (c_X2_has_4 l D q cI cO hq a1  I F _ h) (cwV 1 hts gX2_remove_X2_has rfl rfl rfl (by decide +kernel) ⟨Nat.le_trans (Nat.le_of_ble_eq_true rfl) hRf, Nat.le_trans (Nat.le_of_ble_eq_true rfl) hRl⟩) (gPreV (ci := 2) (q0 := 4) cEok hE hK hP hS rfl cAt4) rfl rfl hl.1 rfl (lv_room (Nat.le_of_ble_eq_true rfl)) dX2_remove_2 ⟨Nat.zero_le _, Nat.zero_le _⟩) hS (fun r4 _ H locs hP hS h => ?_)
  have hP : va_P D vwCl (cW q cI cO I F) H := hP
  refine lv_if_ne (tgt := 9) hx hb dX2_remove_5 (by decide) (fun c5 => ?_) (fun c5 => ?_)
  · have h := h.1 c5
    refine lv_aload_n hx hb dX2_remove_9 rfl (lv_at hl 0 rfl) ?_
    refine lv_dup hx hb dX2_remove_10 rfl ?_
    refine va_get (D := D) (ci := 2) (v := .int (I 8)) (C := RX2) (T := TX2) (N := 4) hx hb hts (fun _ h9 => List.mem_cons_of_mem _ (List.mem_append_right _ h9)) hown hK hP 4 cAt4 rfl 1 (by decide) (hts _ (List.mem_of_getElem? (l := wsX2_remove) (i := 1) rfl)) (fun _ h9 => h9) rfl dX2_remove_11 ?_
    refine lv_iconst (v := (1 : Int32)) hx hb dX2_remove_14 (by decide) ?_
    refine lv_isub hx hb dX2_remove_15 ?_
    refine gPut (D := D) (ci := 2) (ty := .int) (C := RX2) (T := TX2) (N := 4) hx hb hts (fun _ h9 => List.mem_cons_of_mem _ (List.mem_append_right _ h9)) tyX2 tyX2_ok nmX2 hown hK hP (cD hq) hS 4 cAt4 rfl 1 (by decide) (hts _ (List.mem_of_getElem? (l := wsX2_remove) (i := 1) rfl)) (fun _ h9 => h9) rfl (by decide +kernel) rfl rfl (Nat.le_of_ble_eq_true rfl) dX2_remove_16 (cSet8 ((I 8) - (1 : Int32))) (fun H locs hP hS => ?_)
    obtain ⟨I6, eI6⟩ : ∃ z : Nat → Int32, z = upd I 8 ((I 8) - (1 : Int32)) := ⟨_, rfl⟩
    rw [← eI6] at hP
    have h := h I6 eI6
    refine lv_iload_n hx hb dX2_remove_19 rfl (lv_at hl 1 rfl) ?_
    refine lv_istore_n (lv' := [(2, .int a1), (0, .ref (q 4)), (1, .int a1)]) hx hb dX2_remove_20 rfl hl (by decide) rfl (fun ls hl => ?_)
    obtain ⟨n, h⟩ := h
    refine L21 n  _ a1 I6 F _ _ _  hP hS (lv_sub hl [1, 0] rfl) h (fun y7 I8 F9 H locs ls  hP hS hl h => ?_)
    exact hret (I8, F9) _ _ _ _ dX2_remove_63 hP hS h
  · have h := h.2 c5
    exact hret (I, F) _ _ _ _ dX2_remove_8 hP hS h
def w_X8_take (a1 : Int32) (I : Nat → Int32) (F : Nat → Nat → Int32) (post : Int32 → (Nat → Int32) → (Nat → Nat → Int32) → Prop) : Prop :=
  w_X2_has_4 a1 I F (fun (r1 : Int32) => ((¬ r1 = 0 → ((¬ (I 8) = (1 : Int32) → w_X2_remove_4 a1 I F (fun (I4 : Nat → Int32) (F5 : Nat → Nat → Int32) => w_X3_makeStale_9 I4 F5 (fun (I6 : Nat → Int32) (F7 : Nat → Nat → Int32) => post (I6 8) I6 F7))) ∧ ((I 8) = (1 : Int32) → post (-103 : Int32) I F))) ∧ (r1 = 0 → post (-101 : Int32) I F)))
set_option maxHeartbeats 4000000 in
set_option maxRecDepth 100000 in
theorem c_X8_take (l : Launch) (D : va_G) (q : Nat → Nat) (cI cO : ClassId) (hq : cOk q) (a1 : Int32)  (I : Nat → Int32) (F : Nat → Nat → Int32) (post : Int32 → (Nat → Int32) → (Nat → Nat → Int32) → Prop) (h : w_X8_take a1 I F post) : Met l yX8_take wsX8_take ({ frames := 2, cells := 0, slots := 0, locals := 43 } : Room) (gPre D (cTys cI cO) (cW q cI cO I F) (cEnv q) [.ref (q 0), .int a1]) (va_Qi (fun r (u : cS) => post r u.1 u.2) (gB D (fun u : cS => cW q cI cO u.1 u.2)) (cA q)) 0 0 (cA q) := by
  refine gMetI (by decide) rfl (Nat.le_of_ble_eq_true rfl) ?_
  intro p e R s m args below meth c Q ls hR hx hb hml hown hts hK hE hP hl hret
  have hRf : 2 ≤ R.frames := by subst hR; exact Nat.le_refl _
  have hRl : 43 ≤ R.locals := by subst hR; exact Nat.le_refl _
  have hown : s.vm.findClass RX8 = some m.cls := hown
  have hl : lv_has ls 2 [(0, .ref (q 0)), (1, .int a1)] := hl
  have hS : va_S (cA q) s.heap s.heap [] := va_S.rf
  have hP : va_P D vwCl (cW q cI cO I F) s.heap := hP
  refine lv_aload_n hx hb dX8_take_0 rfl (lv_at hl 0 rfl) ?_
  refine va_get (D := D) (ci := 8) (v := .ref (q 4)) (C := RX8) (T := TX8) (N := 11) hx hb hts (fun _ h9 => List.mem_cons_of_mem _ (List.mem_append_left _ (List.mem_append_left _ (List.mem_append_right _ h9)))) hown hK hP 0 cAt0 rfl 2 (by decide) (hts _ (List.mem_of_getElem? (l := wsX8_take) (i := 1) rfl)) (fun _ h9 => h9) rfl dX8_take_1 ?_
  refine lv_iload_n hx hb dX8_take_4 rfl (lv_at hl 1 rfl) ?_
  refine gCallI (D := D) (va_runV (As := [.int a1]) (rest := []) ⟨hx, hb, hml, hown, hts⟩ (c_X2_has_4 l D q cI cO hq a1  I F _ h) (cwV 1 hts gX8_take_X2_has rfl rfl rfl (by decide +kernel) ⟨Nat.le_trans (Nat.le_of_ble_eq_true rfl) hRf, Nat.le_trans (Nat.le_of_ble_eq_true rfl) hRl⟩) (gPreV (ci := 2) (q0 := 4) cEok hE hK hP hS rfl cAt4) rfl rfl hl.1 rfl (lv_room (Nat.le_of_ble_eq_true rfl)) dX8_take_5 ⟨Nat.zero_le _, Nat.zero_le _⟩) hS (fun r1 _ H locs hP hS h => ?_)
  have hP : va_P D vwCl (cW q cI cO I F) H := hP
  refine lv_if_ne (tgt := 14) hx hb dX8_take_8 (by decide) (fun c2 => ?_) (fun c2 => ?_)
  · have h := h.1 c2
    refine lv_aload_n hx hb dX8_take_14 rfl (lv_at hl 0 rfl) ?_
    refine va_get (D := D) (ci := 8) (v := .ref (q 4)) (C := RX8) (T := TX8) (N := 11) hx hb hts (fun _ h9 => List.mem_cons_of_mem _ (List.mem_append_left _ (List.mem_append_left _ (List.mem_append_right _ h9)))) hown hK hP 0 cAt0 rfl 2 (by decide) (hts _ (List.mem_of_getElem? (l := wsX8_take) (i := 1) rfl)) (fun _ h9 => h9) rfl dX8_take_15 ?_
    refine va_getN (D := D) (ci := 2) (v := .int (I 8)) (C := RX2) (T := TX2) (N := 4) hx hb hts (fun _ h9 => List.mem_cons_of_mem _ (List.mem_append_left _ (List.mem_append_right _ h9))) hown hK hP 4 cAt4 rfl 1 (by decide) (va_Nw.use rfl (hE.1.1 _ (List.mem_of_getElem? (l := cNF) (i := 6) rfl))) (fun _ h9 => h9) rfl dX8_take_18 ?_
    refine lv_iconst (v := (1 : Int32)) hx hb dX8_take_21 (by decide) ?_
    refine lv_icmp_ne (tgt := 28) hx hb dX8_take_22 (by decide) (fun c3 => ?_) (fun c3 => ?_)
    · have h := h.1 c3
      refine lv_aload_n hx hb dX8_take_28 rfl (lv_at hl 0 rfl) ?_
      refine va_get (D := D) (ci := 8) (v := .ref (q 4)) (C := RX8) (T := TX8) (N := 11) hx hb hts (fun _ h9 => List.mem_cons_of_mem _ (List.mem_append_left _ (List.mem_append_left _ (List.mem_append_right _ h9)))) hown hK hP 0 cAt0 rfl 2 (by decide) (hts _ (List.mem_of_getElem? (l := wsX8_take) (i := 1) rfl)) (fun _ h9 => h9) rfl dX8_take_29 ?_
      refine lv_iload_n hx hb dX8_take_32 rfl (lv_at hl 1 rfl) ?_
      refine gCallV (D := D) (va_runV (As := [.int a1]) (rest := []) ⟨hx, hb, hml, hown, hts⟩ (c_X2_remove_4 l D q cI cO hq a1  I F _ h) (cwV 1 hts gX8_take_X2_remove rfl rfl rfl (by decide +kernel) ⟨Nat.le_trans (Nat.le_of_ble_eq_true rfl) hRf, Nat.le_trans (Nat.le_of_ble_eq_true rfl) hRl⟩) (gPreV (ci := 2) (q0 := 4) cEok hE hK hP hS rfl cAt4) rfl rfl hl.1 rfl (lv_room (Nat.le_of_ble_eq_true rfl)) dX8_take_33 ⟨Nat.zero_le _, Nat.zero_le _⟩) hS (fun u H locs hP hS h => ?_)
      obtain ⟨I4, F5⟩ := u
      have hP : va_P D vwCl (cW q cI cO I4 F5) H := hP
      refine lv_aload_n hx hb dX8_take_36 rfl (lv_at hl 0 rfl) ?_
      refine va_get (D := D) (ci := 8) (v := .ref (q 9)) (C := RX8) (T := TX8) (N := 11) hx hb hts (fun _ h9 => List.mem_cons_of_mem _ (List.mem_append_left _ (List.mem_append_left _ (List.mem_append_right _ h9)))) hown hK hP 0 cAt0 rfl 7 (by decide) (hts _ (List.mem_of_getElem? (l := wsX8_take) (i := 2) rfl)) (fun _ h9 => h9) rfl dX8_take_37 ?_
      refine gCallV (D := D) (va_runV (As := []) (rest := []) ⟨hx, hb, hml, hown, hts⟩ (c_X3_makeStale_9 l D q cI cO hq   I4 F5 _ h) (cwV 0 hts gX8_take_X3_makeStale rfl rfl rfl (by decide +kernel) ⟨Nat.le_trans (Nat.le_of_ble_eq_true rfl) hRf, Nat.le_trans (Nat.le_of_ble_eq_true rfl) hRl⟩) (gPreV (ci := 3) (q0 := 9) cEok hE hK hP hS rfl cAt9) rfl rfl hl.1 rfl (lv_room (Nat.le_of_ble_eq_true rfl)) dX8_take_40 ⟨Nat.zero_le _, Nat.zero_le _⟩) hS (fun u H locs hP hS h => ?_)
      obtain ⟨I6, F7⟩ := u
      have hP : va_P D vwCl (cW q cI cO I6 F7) H := hP
      refine lv_aload_n hx hb dX8_take_43 rfl (lv_at hl 0 rfl) ?_
      refine va_get (D := D) (ci := 8) (v := .ref (q 4)) (C := RX8) (T := TX8) (N := 11) hx hb hts (fun _ h9 => List.mem_cons_of_mem _ (List.mem_append_left _ (List.mem_append_left _ (List.mem_append_right _ h9)))) hown hK hP 0 cAt0 rfl 2 (by decide) (hts _ (List.mem_of_getElem? (l := wsX8_take) (i := 1) rfl)) (fun _ h9 => h9) rfl dX8_take_44 ?_
      refine va_getN (D := D) (ci := 2) (v := .int (I6 8)) (C := RX2) (T := TX2) (N := 4) hx hb hts (fun _ h9 => List.mem_cons_of_mem _ (List.mem_append_left _ (List.mem_append_right _ h9))) hown hK hP 4 cAt4 rfl 1 (by decide) (va_Nw.use rfl (hE.1.1 _ (List.mem_of_getElem? (l := cNF) (i := 6) rfl))) (fun _ h9 => h9) rfl dX8_take_47 ?_
      exact hret (I6 8) (I6, F7) _ _ _ _ dX8_take_50 hP hS h
    · have h := h.2 c3
      refine lv_bipush (v := (-103 : Int32)) hx hb dX8_take_25 (by decide) ?_
      exact hret (-103 : Int32) (I, F) _ _ _ _ dX8_take_27 hP hS h
  · have h := h.2 c2
    refine lv_bipush (v := (-101 : Int32)) hx hb dX8_take_11 (by decide) ?_
    exact hret (-101 : Int32) (I, F) _ _ _ _ dX8_take_13 hP hS h
def w_X2_exchange_4 (a1 : Int32) (a2 : Int32) (I : Nat → Int32) (F : Nat → Nat → Int32) (post : (Nat → Int32) → (Nat → Nat → Int32) → Prop) : Prop :=
  w_X2_has_4 a1 I F (fun (r1 : Int32) => ((r1 = 0 → post I F) ∧ (¬ r1 = 0 → w_X2_has_4 a2 I F (fun (r3 : Int32) => ((¬ r3 = 0 → vp_in a1 8 ∧ ∀ v5 : Int32, v5 = (F 17 (a1).toNatClampNeg) → vp_in a2 8 ∧ vp_in a1 8 ∧ ∀ F6 : Nat → Nat → Int32, F6 = upF F 17 (upd (F 17) (a1).toNatClampNeg (F 17 (a2).toNatClampNeg)) → vp_in a2 8 ∧ ∀ F7 : Nat → Nat → Int32, F7 = upF F6 17 (upd (F6 17) (a2).toNatClampNeg v5) → vp_in a1 8 ∧ ∀ v8 : Int32, v8 = (F7 18 (a1).toNatClampNeg) → vp_in a2 8 ∧ vp_in a1 8 ∧ ∀ F9 : Nat → Nat → Int32, F9 = upF F7 18 (upd (F7 18) (a1).toNatClampNeg (F7 18 (a2).toNatClampNeg)) → vp_in a2 8 ∧ ∀ F10 : Nat → Nat → Int32, F10 = upF F9 18 (upd (F9 18) (a2).toNatClampNeg v8) → post I F10) ∧ (r3 = 0 → post I F))))))
set_option maxHeartbeats 4000000 in
set_option maxRecDepth 100000 in
theorem c_X2_exchange_4 (l : Launch) (D : va_G) (q : Nat → Nat) (cI cO : ClassId) (hq : cOk q) (a1 : Int32) (a2 : Int32)  (I : Nat → Int32) (F : Nat → Nat → Int32) (post : (Nat → Int32) → (Nat → Nat → Int32) → Prop) (h : w_X2_exchange_4 a1 a2 I F post) : Met l yX2_exchange wsX2_exchange ({ frames := 1, cells := 0, slots := 0, locals := 21 } : Room) (gPre D (cTys cI cO) (cW q cI cO I F) (cEnv q) [.ref (q 4), .int a1, .int a2]) (va_Qv (fun (u : cS) => post u.1 u.2) (gB D (fun u : cS => cW q cI cO u.1 u.2)) (cA q)) 0 0 (cA q) := by
  refine gMetV (by decide) rfl (Nat.le_of_ble_eq_true rfl) ?_
  intro p e R s m args below meth c Q ls hR hx hb hml hown hts hK hE hP hl hret
  have hRf : 1 ≤ R.frames := by subst hR; exact Nat.le_refl _
  have hRl : 21 ≤ R.locals := by subst hR; exact Nat.le_refl _
  have hown : s.vm.findClass RX2 = some m.cls := hown
  have hl : lv_has ls 5 [(0, .ref (q 4)), (1, .int a1), (2, .int a2)] := hl
  have hS : va_S (cA q) s.heap s.heap [] := va_S.rf
  have hP : va_P D vwCl (cW q cI cO I F) s.heap := hP
  refine lv_aload_n hx hb dX2_exchange_0 rfl (lv_at hl 0 rfl) ?_
  refine lv_iload_n hx hb dX2_exchange_1 rfl (lv_at hl 1 rfl) ?_
  refine gCallI (D := D) (va_runV (As := [.int a1]) (rest := []) ⟨hx, hb, hml, hown, hts⟩ (c_X2_has_4 l D q cI cO hq a1  I F _ h) (cwV 1 hts gX2_exchange_X2_has rfl rfl rfl (by decide +kernel) ⟨Nat.le_trans (Nat.le_of_ble_eq_true rfl) hRf, Nat.le_trans (Nat.le_of_ble_eq_true rfl) hRl⟩) (gPreV (ci := 2) (q0 := 4) cEok hE hK hP hS rfl cAt4) rfl rfl hl.1 rfl (lv_room (Nat.le_of_ble_eq_true rfl)) dX2_exchange_2 ⟨Nat.zero_le _, Nat.zero_le _⟩) hS (fun r1 _ H locs hP hS h => ?_)
  have hP : va_P D vwCl (cW q cI cO I F) H := hP
  refine lv_if_eq (tgt := 16) hx hb dX2_exchange_5 (by decide) (fun c2 => ?_) (fun c2 => ?_)
  · have h := h.1 c2
    exact hret (I, F) _ _ _ _ dX2_exchange_16 hP hS h
  · have h := h.2 c2
    refine lv_aload_n hx hb dX2_exchange_8 rfl (lv_at hl 0 rfl) ?_
    refine lv_iload_n hx hb dX2_exchange_9 rfl (lv_at hl 2 rfl) ?_
    refine gCallI (D := D) (va_runV (As := [.int a2]) (rest := []) ⟨hx, hb, hml, hown, hts⟩ (c_X2_has_4 l D q cI cO hq a2  I F _ h) (cwV 1 hts gX2_exchange_X2_has rfl rfl rfl (by decide +kernel) ⟨Nat.le_trans (Nat.le_of_ble_eq_true rfl) hRf, Nat.le_trans (Nat.le_of_ble_eq_true rfl) hRl⟩) (gPreV (ci := 2) (q0 := 4) cEok hE hK hP hS rfl cAt4) rfl rfl hl.1 rfl (lv_room (Nat.le_of_ble_eq_true rfl)) dX2_exchange_10 ⟨Nat.zero_le _, Nat.zero_le _⟩) hS (fun r3 _ H locs hP hS h => ?_)
    have hP : va_P D vwCl (cW q cI cO I F) H := hP
    refine lv_if_ne (tgt := 17) hx hb dX2_exchange_13 (by decide) (fun c4 => ?_) (fun c4 => ?_)
    · have h := h.1 c4
      refine lv_aload_n hx hb dX2_exchange_17 rfl (lv_at hl 0 rfl) ?_
      refine va_get (D := D) (ci := 2) (v := .ref (q 17)) (C := RX2) (T := TX2) (N := 4) hx hb hts (fun _ h9 => List.mem_cons_of_mem _ (List.mem_append_right _ h9)) hown hK hP 4 cAt4 rfl 2 (by decide) (hts _ (List.mem_of_getElem? (l := wsX2_exchange) (i := 1) rfl)) (fun _ h9 => h9) rfl dX2_exchange_18 ?_
      refine lv_iload_n hx hb dX2_exchange_21 rfl (lv_at hl 1 rfl) ?_
      refine va_iald (D := D) hx hb hK hP 17 0 cAr17 rfl h.1 dX2_exchange_22 ?_
      have h := h.2
      refine lv_topi (fun v5 ev5 => ?_)
      have h := h v5 ev5
      refine lv_istore_n (lv' := [(3, .int v5), (0, .ref (q 4)), (1, .int a1), (2, .int a2)]) hx hb dX2_exchange_23 rfl hl (by decide) rfl (fun ls hl => ?_)
      refine lv_aload_n hx hb dX2_exchange_24 rfl (lv_at hl 1 rfl) ?_
      refine va_get (D := D) (ci := 2) (v := .ref (q 17)) (C := RX2) (T := TX2) (N := 4) hx hb hts (fun _ h9 => List.mem_cons_of_mem _ (List.mem_append_right _ h9)) hown hK hP 4 cAt4 rfl 2 (by decide) (hts _ (List.mem_of_getElem? (l := wsX2_exchange) (i := 1) rfl)) (fun _ h9 => h9) rfl dX2_exchange_25 ?_
      refine lv_iload_n hx hb dX2_exchange_28 rfl (lv_at hl 2 rfl) ?_
      refine lv_aload_n hx hb dX2_exchange_29 rfl (lv_at hl 1 rfl) ?_
      refine va_get (D := D) (ci := 2) (v := .ref (q 17)) (C := RX2) (T := TX2) (N := 4) hx hb hts (fun _ h9 => List.mem_cons_of_mem _ (List.mem_append_right _ h9)) hown hK hP 4 cAt4 rfl 2 (by decide) (hts _ (List.mem_of_getElem? (l := wsX2_exchange) (i := 1) rfl)) (fun _ h9 => h9) rfl dX2_exchange_30 ?_
      refine lv_iload_n hx hb dX2_exchange_33 rfl (lv_at hl 3 rfl) ?_
      refine va_iald (D := D) hx hb hK hP 17 0 cAr17 rfl h.1 dX2_exchange_34 ?_
      have h := h.2
      refine gAst (D := D) hx hb hK hP (cD hq) hS 17 0 cAr17 rfl h.1 dX2_exchange_35 (cSA17 _) (fun H locs hP hS => ?_)
      obtain ⟨F6, eF6⟩ : ∃ z : Nat → Nat → Int32, z = upF F 17 (upd (F 17) (a1).toNatClampNeg (F 17 (a2).toNatClampNeg)) := ⟨_, rfl⟩
      rw [← eF6] at hP
      have h := h.2 F6 eF6
      refine lv_aload_n hx hb dX2_exchange_36 rfl (lv_at hl 1 rfl) ?_
      refine va_get (D := D) (ci := 2) (v := .ref (q 17)) (C := RX2) (T := TX2) (N := 4) hx hb hts (fun _ h9 => List.mem_cons_of_mem _ (List.mem_append_right _ h9)) hown hK hP 4 cAt4 rfl 2 (by decide) (hts _ (List.mem_of_getElem? (l := wsX2_exchange) (i := 1) rfl)) (fun _ h9 => h9) rfl dX2_exchange_37 ?_
      refine lv_iload_n hx hb dX2_exchange_40 rfl (lv_at hl 3 rfl) ?_
      refine lv_iload_n hx hb dX2_exchange_41 rfl (lv_at hl 0 rfl) ?_
      refine gAst (D := D) hx hb hK hP (cD hq) hS 17 0 cAr17 rfl h.1 dX2_exchange_42 (cSA17 _) (fun H locs hP hS => ?_)
      obtain ⟨F7, eF7⟩ : ∃ z : Nat → Nat → Int32, z = upF F6 17 (upd (F6 17) (a2).toNatClampNeg v5) := ⟨_, rfl⟩
      rw [← eF7] at hP
      have h := h.2 F7 eF7
      refine lv_aload_n hx hb dX2_exchange_43 rfl (lv_at hl 1 rfl) ?_
      refine va_get (D := D) (ci := 2) (v := .ref (q 18)) (C := RX2) (T := TX2) (N := 4) hx hb hts (fun _ h9 => List.mem_cons_of_mem _ (List.mem_append_right _ h9)) hown hK hP 4 cAt4 rfl 3 (by decide) (hts _ (List.mem_of_getElem? (l := wsX2_exchange) (i := 2) rfl)) (fun _ h9 => h9) rfl dX2_exchange_44 ?_
      refine lv_iload_n hx hb dX2_exchange_47 rfl (lv_at hl 2 rfl) ?_
      refine va_iald (D := D) hx hb hK hP 18 0 cAr18 rfl h.1 dX2_exchange_48 ?_
      have h := h.2
      refine lv_topi (fun v8 ev8 => ?_)
      have h := h v8 ev8
      refine lv_istore (lv' := [(4, .int v8), (3, .int v5), (0, .ref (q 4)), (1, .int a1), (2, .int a2)]) hx hb dX2_exchange_49 hl (by decide) rfl (fun ls hl => ?_)
      refine lv_aload_n hx hb dX2_exchange_51 rfl (lv_at hl 2 rfl) ?_
      refine va_get (D := D) (ci := 2) (v := .ref (q 18)) (C := RX2) (T := TX2) (N := 4) hx hb hts (fun _ h9 => List.mem_cons_of_mem _ (List.mem_append_right _ h9)) hown hK hP 4 cAt4 rfl 3 (by decide) (hts _ (List.mem_of_getElem? (l := wsX2_exchange) (i := 2) rfl)) (fun _ h9 => h9) rfl dX2_exchange_52 ?_
      refine lv_iload_n hx hb dX2_exchange_55 rfl (lv_at hl 3 rfl) ?_
      refine lv_aload_n hx hb dX2_exchange_56 rfl (lv_at hl 2 rfl) ?_
      refine va_get (D := D) (ci := 2) (v := .ref (q 18)) (C := RX2) (T := TX2) (N := 4) hx hb hts (fun _ h9 => List.mem_cons_of_mem _ (List.mem_append_right _ h9)) hown hK hP 4 cAt4 rfl 3 (by decide) (hts _ (List.mem_of_getElem? (l := wsX2_exchange) (i := 2) rfl)) (fun _ h9 => h9) rfl dX2_exchange_57 ?_
      refine lv_iload_n hx hb dX2_exchange_60 rfl (lv_at hl 4 rfl) ?_
      refine va_iald (D := D) hx hb hK hP 18 0 cAr18 rfl h.1 dX2_exchange_61 ?_
      have h := h.2
      refine gAst (D := D) hx hb hK hP (cD hq) hS 18 0 cAr18 rfl h.1 dX2_exchange_62 (cSA18 _) (fun H locs hP hS => ?_)
      obtain ⟨F9, eF9⟩ : ∃ z : Nat → Nat → Int32, z = upF F7 18 (upd (F7 18) (a1).toNatClampNeg (F7 18 (a2).toNatClampNeg)) := ⟨_, rfl⟩
      rw [← eF9] at hP
      have h := h.2 F9 eF9
      refine lv_aload_n hx hb dX2_exchange_63 rfl (lv_at hl 2 rfl) ?_
      refine va_get (D := D) (ci := 2) (v := .ref (q 18)) (C := RX2) (T := TX2) (N := 4) hx hb hts (fun _ h9 => List.mem_cons_of_mem _ (List.mem_append_right _ h9)) hown hK hP 4 cAt4 rfl 3 (by decide) (hts _ (List.mem_of_getElem? (l := wsX2_exchange) (i := 2) rfl)) (fun _ h9 => h9) rfl dX2_exchange_64 ?_
      refine lv_iload_n hx hb dX2_exchange_67 rfl (lv_at hl 4 rfl) ?_
      refine lv_iload hx hb dX2_exchange_68 (lv_at hl 0 rfl) ?_
      refine gAst (D := D) hx hb hK hP (cD hq) hS 18 0 cAr18 rfl h.1 dX2_exchange_70 (cSA18 _) (fun H locs hP hS => ?_)
      obtain ⟨F10, eF10⟩ : ∃ z : Nat → Nat → Int32, z = upF F9 18 (upd (F9 18) (a2).toNatClampNeg v8) := ⟨_, rfl⟩
      rw [← eF10] at hP
      have h := h.2 F10 eF10
      exact hret (I, F10) _ _ _ _ dX2_exchange_71 hP hS h
    · have h := h.2 c4
      exact hret (I, F) _ _ _ _ dX2_exchange_16 hP hS h
def w_X0_set_10_B39 (x2 : Int32) (x3 : Int32) (k again : Int32 → (Nat → Int32) → (Nat → Nat → Int32) → Prop) (x4 : Int32) (I : Nat → Int32) (F : Nat → Nat → Int32) : Prop :=
  (((3 : Int32) ≤ x4 → k x4 I F) ∧ (¬ (3 : Int32) ≤ x4 → w_X7_toneAt x3 x4 I F (fun (r2 : Int32) => ∀ v3 : Int32, v3 = ((x2 >>> (r2 &&& 31)) &&& (1 : Int32)) → ∀ I4 : Nat → Int32, I4 = upd I 18 ((I 18) ||| (v3 <<< (((x3 * (3 : Int32)) + x4) &&& 31))) → again (x4 + (1 : Int32)) I4 F)))
def w_X0_set_10_B30 (x2 : Int32) (k again : Int32 → (Nat → Int32) → (Nat → Nat → Int32) → Prop) (x3 : Int32) (I : Nat → Int32) (F : Nat → Nat → Int32) : Prop :=
  (((7 : Int32) ≤ x3 → k x3 I F) ∧ (¬ (7 : Int32) ≤ x3 → gL (fun ag v => w_X0_set_10_B39 x2 x3 (fun (y6 : Int32) (I7 : Nat → Int32) (F8 : Nat → Nat → Int32) => again (x3 + (1 : Int32)) I7 F8) (fun b0 b1 b2 => ag (b0, b1, b2)) v.1 v.2.1 v.2.2) ((0 : Int32), I, F)))
def w_X0_set_10_J20 (x2 : Int32) (z1 : Int32) (I : Nat → Int32) (F : Nat → Nat → Int32) (post : (Nat → Int32) → (Nat → Nat → Int32) → Prop) : Prop :=
  ∀ I9 : Nat → Int32, I9 = upd I 17 z1 → ∀ I10 : Nat → Int32, I10 = upd I9 18 (0 : Int32) → gL (fun ag v => w_X0_set_10_B30 x2 (fun (y11 : Int32) (I12 : Nat → Int32) (F13 : Nat → Nat → Int32) => post I12 F13) (fun b0 b1 b2 => ag (b0, b1, b2)) v.1 v.2.1 v.2.2) ((0 : Int32), I10, F)
def w_X0_set_10 (a1 : Int32) (a2 : Int32) (I : Nat → Int32) (F : Nat → Nat → Int32) (post : (Nat → Int32) → (Nat → Nat → Int32) → Prop) : Prop :=
  ((¬ a1 = (4 : Int32) → ((¬ a1 = (3 : Int32) → w_X0_set_10_J20 a2 (2 : Int32) I F post) ∧ (a1 = (3 : Int32) → w_X0_set_10_J20 a2 (1 : Int32) I F post))) ∧ (a1 = (4 : Int32) → w_X0_set_10_J20 a2 (0 : Int32) I F post))
set_option maxHeartbeats 4000000 in
set_option maxRecDepth 100000 in
theorem c_X0_set_10 (l : Launch) (D : va_G) (q : Nat → Nat) (cI cO : ClassId) (hq : cOk q) (a1 : Int32) (a2 : Int32)  (I : Nat → Int32) (F : Nat → Nat → Int32) (post : (Nat → Int32) → (Nat → Nat → Int32) → Prop) (h : w_X0_set_10 a1 a2 I F post) : Met l yX0_set wsX0_set ({ frames := 1, cells := 0, slots := 0, locals := 21 } : Room) (gPre D (cTys cI cO) (cW q cI cO I F) (cEnv q) [.ref (q 10), .int a1, .int a2]) (va_Qv (fun (u : cS) => post u.1 u.2) (gB D (fun u : cS => cW q cI cO u.1 u.2)) (cA q)) 0 0 (cA q) := by
  refine gMetV (by decide) rfl (Nat.le_of_ble_eq_true rfl) ?_
  intro p e R s m args below meth c Q ls hR hx hb hml hown hts hK hE hP hl hret
  have hRf : 1 ≤ R.frames := by subst hR; exact Nat.le_refl _
  have hRl : 21 ≤ R.locals := by subst hR; exact Nat.le_refl _
  have hown : s.vm.findClass RX0 = some m.cls := hown
  have hl : lv_has ls 6 [(0, .ref (q 10)), (1, .int a1), (2, .int a2)] := hl
  have hS : va_S (cA q) s.heap s.heap [] := va_S.rf
  have hP : va_P D vwCl (cW q cI cO I F) s.heap := hP
  have L39 : ∀ (n : Nat) (x2 : Int32) (x3 : Int32) (k : Int32 → (Nat → Int32) → (Nat → Nat → Int32) → Prop) (x4 : Int32) (I : Nat → Int32) (F : Nat → Nat → Int32) (H : Heap) (locs : List Loc) (ls : Array Slot), va_P D vwCl (cW q cI cO I F) H → va_S (cA q) s.heap H locs → lv_has ls 6 [(0, .ref (q 10)), (2, .int x2), (3, .int x3), (4, .int x4)] → gLN (fun ag v => w_X0_set_10_B39 x2 x3 k (fun b0 b1 b2 => ag (b0, b1, b2)) v.1 v.2.1 v.2.2) n (x4, I, F) → (∀ (x4 : Int32) (I : Nat → Int32) (F : Nat → Nat → Int32) (H : Heap) (locs : List Loc) (ls : Array Slot), va_P D vwCl (cW q cI cO I F) H → va_S (cA q) s.heap H locs → lv_has ls 6 [(0, .ref (q 10)), (2, .int x2), (3, .int x3)] → k x4 I F → W p l e R s m args below meth c H locs 0 0 Q (F0 m 81 ls [])) → W p l e R s m args below meth c H locs 0 0 Q (F0 m 39 ls []) := by
    intro n
    induction n with
    | zero =>
      intro x2 x3 k x4 I F H locs ls  hP hS hl h K
      exact False.elim h
    | succ n ih =>
      intro x2 x3 k x4 I F H locs ls  hP hS hl h K
      have h : w_X0_set_10_B39 x2 x3 k (fun b0 b1 b2 => gLN (fun ag v => w_X0_set_10_B39 x2 x3 k (fun b0 b1 b2 => ag (b0, b1, b2)) v.1 v.2.1 v.2.2) n (b0, b1, b2)) x4 I F := h
      refine lv_iload hx hb dX0_set_39 (lv_at hl 3 rfl) ?_
      refine lv_iconst (v := (3 : Int32)) hx hb dX0_set_41 (by decide) ?_
      refine lv_icmp_ge (tgt := 81) hx hb dX0_set_42 (by decide) (fun c1 => ?_) (fun c1 => ?_)
      · have h := h.1 c1
        exact K x4 I F _ _ _  hP hS (lv_sub hl [0, 1, 2] rfl) h
      · have h := h.2 c1
        refine lv_iload_n hx hb dX0_set_45 rfl (lv_at hl 1 rfl) ?_
        refine lv_iload_n hx hb dX0_set_46 rfl (lv_at hl 2 rfl) ?_
        refine lv_iload hx hb dX0_set_47 (lv_at hl 3 rfl) ?_
        refine gCallI (D := D) (va_runS (As := [.int x3, .int x4]) (rest := [.int x2]) ⟨hx, hb, hml, hown, hts⟩ (c_X7_toneAt l D q cI cO hq x3 x4  I F _ h) (va_cwS 2 hts gX0_set_X7_toneAt rfl rfl rfl (by decide +kernel) ⟨Nat.le_trans (Nat.le_of_ble_eq_true rfl) hRf, Nat.le_trans (Nat.le_of_ble_eq_true rfl) hRl⟩) (gPreS cEok hE hK hP hS) rfl rfl hl.1 rfl (lv_room (Nat.le_of_ble_eq_true rfl)) dX0_set_49 ⟨Nat.zero_le _, Nat.zero_le _⟩) hS (fun r2 _ H locs hP hS h => ?_)
        have hP : va_P D vwCl (cW q cI cO I F) H := hP
        refine lv_ishr hx hb dX0_set_52 ?_
        refine lv_iconst (v := (1 : Int32)) hx hb dX0_set_53 (by decide) ?_
        refine lv_iand hx hb dX0_set_54 ?_
        refine lv_topi (fun v3 ev3 => ?_)
        have h := h v3 ev3
        refine lv_istore (lv' := [(5, .int v3), (0, .ref (q 10)), (2, .int x2), (3, .int x3), (4, .int x4)]) hx hb dX0_set_55 hl (by decide) rfl (fun ls hl => ?_)
        refine lv_aload_n hx hb dX0_set_57 rfl (lv_at hl 1 rfl) ?_
        refine lv_dup hx hb dX0_set_58 rfl ?_
        refine va_get (D := D) (ci := 0) (v := .int (I 18)) (C := RX0) (T := TX0) (N := 2) hx hb hts (fun _ h9 => List.mem_cons_of_mem _ (List.mem_append_right _ h9)) hown hK hP 10 cAt10 rfl 1 (by decide) (hts _ (List.mem_of_getElem? (l := wsX0_set) (i := 2) rfl)) (fun _ h9 => h9) rfl dX0_set_59 ?_
        refine lv_iload hx hb dX0_set_62 (lv_at hl 0 rfl) ?_
        refine lv_iload_n hx hb dX0_set_64 rfl (lv_at hl 3 rfl) ?_
        refine lv_iconst (v := (3 : Int32)) hx hb dX0_set_65 (by decide) ?_
        refine lv_imul hx hb dX0_set_66 ?_
        refine lv_iload hx hb dX0_set_67 (lv_at hl 4 rfl) ?_
        refine lv_iadd hx hb dX0_set_69 ?_
        refine lv_ishl hx hb dX0_set_70 ?_
        refine lv_ior hx hb dX0_set_71 ?_
        refine gPut (D := D) (ci := 0) (ty := .int) (C := RX0) (T := TX0) (N := 2) hx hb hts (fun _ h9 => List.mem_cons_of_mem _ (List.mem_append_right _ h9)) tyX0 tyX0_ok nmX0 hown hK hP (cD hq) hS 10 cAt10 rfl 1 (by decide) (hts _ (List.mem_of_getElem? (l := wsX0_set) (i := 2) rfl)) (fun _ h9 => h9) rfl (by decide +kernel) rfl rfl (Nat.le_of_ble_eq_true rfl) dX0_set_72 (cSet18 ((I 18) ||| (v3 <<< (((x3 * (3 : Int32)) + x4) &&& 31)))) (fun H locs hP hS => ?_)
        obtain ⟨I4, eI4⟩ : ∃ z : Nat → Int32, z = upd I 18 ((I 18) ||| (v3 <<< (((x3 * (3 : Int32)) + x4) &&& 31))) := ⟨_, rfl⟩
        rw [← eI4] at hP
        have h := h I4 eI4
        refine lv_iinc (v := (x4 + (1 : Int32))) (lv' := [(4, .int (x4 + (1 : Int32))), (5, .int v3), (0, .ref (q 10)), (2, .int x2), (3, .int x3)]) hx hb dX0_set_75 hl (k := 4) rfl rfl (by decide) rfl (fun ls hl => ?_)
        refine lv_goto (tgt := 39) hx hb dX0_set_78 (by decide) ?_
        exact ih x2 x3 _ (x4 + (1 : Int32)) I4 F _ _ _  hP hS (lv_sub hl [2, 3, 4, 0] rfl) h K
  have L30 : ∀ (n : Nat) (x2 : Int32) (k : Int32 → (Nat → Int32) → (Nat → Nat → Int32) → Prop) (x3 : Int32) (I : Nat → Int32) (F : Nat → Nat → Int32) (H : Heap) (locs : List Loc) (ls : Array Slot), va_P D vwCl (cW q cI cO I F) H → va_S (cA q) s.heap H locs → lv_has ls 6 [(0, .ref (q 10)), (2, .int x2), (3, .int x3)] → gLN (fun ag v => w_X0_set_10_B30 x2 k (fun b0 b1 b2 => ag (b0, b1, b2)) v.1 v.2.1 v.2.2) n (x3, I, F) → (∀ (x3 : Int32) (I : Nat → Int32) (F : Nat → Nat → Int32) (H : Heap) (locs : List Loc) (ls : Array Slot), va_P D vwCl (cW q cI cO I F) H → va_S (cA q) s.heap H locs → lv_has ls 6 [] → k x3 I F → W p l e R s m args below meth c H locs 0 0 Q (F0 m 87 ls [])) → W p l e R s m args below meth c H locs 0 0 Q (F0 m 30 ls []) := by
    intro n
    induction n with
    | zero =>
      intro x2 k x3 I F H locs ls  hP hS hl h K
      exact False.elim h
    | succ n ih =>
      intro x2 k x3 I F H locs ls  hP hS hl h K
      have h : w_X0_set_10_B30 x2 k (fun b0 b1 b2 => gLN (fun ag v => w_X0_set_10_B30 x2 k (fun b0 b1 b2 => ag (b0, b1, b2)) v.1 v.2.1 v.2.2) n (b0, b1, b2)) x3 I F := h
      refine lv_iload_n hx hb dX0_set_30 rfl (lv_at hl 2 rfl) ?_
      refine lv_bipush (v := (7 : Int32)) hx hb dX0_set_31 (by decide) ?_
      refine lv_icmp_ge (tgt := 87) hx hb dX0_set_33 (by decide) (fun c5 => ?_) (fun c5 => ?_)
      · have h := h.1 c5
        exact K x3 I F _ _ _  hP hS (lv_sub hl [] rfl) h
      · have h := h.2 c5
        refine lv_iconst (v := (0 : Int32)) hx hb dX0_set_36 (by decide) ?_
        refine lv_istore (lv' := [(4, .int (0 : Int32)), (0, .ref (q 10)), (2, .int x2), (3, .int x3)]) hx hb dX0_set_37 hl (by decide) rfl (fun ls hl => ?_)
        obtain ⟨n, h⟩ := h
        refine L39 n x2 x3 _ (0 : Int32) I F _ _ _  hP hS (lv_sub hl [1, 2, 3, 0] rfl) h (fun y6 I7 F8 H locs ls  hP hS hl h => ?_)
        refine lv_iinc (v := (x3 + (1 : Int32))) (lv' := [(3, .int (x3 + (1 : Int32))), (0, .ref (q 10)), (2, .int x2)]) hx hb dX0_set_81 hl (k := 2) rfl rfl (by decide) rfl (fun ls hl => ?_)
        refine lv_goto (tgt := 30) hx hb dX0_set_84 (by decide) ?_
        exact ih x2 _ (x3 + (1 : Int32)) I7 F8 _ _ _  hP hS (lv_sub hl [1, 2, 0] rfl) h K
  have J20 : ∀ (x2 : Int32) (z1 : Int32) (I : Nat → Int32) (F : Nat → Nat → Int32) (H : Heap) (locs : List Loc) (ls : Array Slot), va_P D vwCl (cW q cI cO I F) H → va_S (cA q) s.heap H locs → lv_has ls 6 [(0, .ref (q 10)), (2, .int x2)] → w_X0_set_10_J20 x2 z1 I F post → W p l e R s m args below meth c H locs 0 0 Q (F0 m 20 ls [.int z1, .ref (q 10)]) := by
    intro x2 z1 I F H locs ls  hP hS hl h
    refine gPut (D := D) (ci := 0) (ty := .int) (C := RX0) (T := TX0) (N := 2) hx hb hts (fun _ h9 => List.mem_cons_of_mem _ (List.mem_append_right _ h9)) tyX0 tyX0_ok nmX0 hown hK hP (cD hq) hS 10 cAt10 rfl 0 (by decide) (hts _ (List.mem_of_getElem? (l := wsX0_set) (i := 1) rfl)) (fun _ h9 => h9) rfl (by decide +kernel) rfl rfl (Nat.le_of_ble_eq_true rfl) dX0_set_20 (cSet17 z1) (fun H locs hP hS => ?_)
    obtain ⟨I9, eI9⟩ : ∃ z : Nat → Int32, z = upd I 17 z1 := ⟨_, rfl⟩
    rw [← eI9] at hP
    have h := h I9 eI9
    refine lv_aload_n hx hb dX0_set_23 rfl (lv_at hl 0 rfl) ?_
    refine lv_iconst (v := (0 : Int32)) hx hb dX0_set_24 (by decide) ?_
    refine gPut (D := D) (ci := 0) (ty := .int) (C := RX0) (T := TX0) (N := 2) hx hb hts (fun _ h9 => List.mem_cons_of_mem _ (List.mem_append_right _ h9)) tyX0 tyX0_ok nmX0 hown hK hP (cD hq) hS 10 cAt10 rfl 1 (by decide) (hts _ (List.mem_of_getElem? (l := wsX0_set) (i := 2) rfl)) (fun _ h9 => h9) rfl (by decide +kernel) rfl rfl (Nat.le_of_ble_eq_true rfl) dX0_set_25 (cSet18 (0 : Int32)) (fun H locs hP hS => ?_)
    obtain ⟨I10, eI10⟩ : ∃ z : Nat → Int32, z = upd I9 18 (0 : Int32) := ⟨_, rfl⟩
    rw [← eI10] at hP
    have h := h I10 eI10
    refine lv_iconst (v := (0 : Int32)) hx hb dX0_set_28 (by decide) ?_
    refine lv_istore_n (lv' := [(3, .int (0 : Int32)), (0, .ref (q 10)), (2, .int x2)]) hx hb dX0_set_29 rfl hl (by decide) rfl (fun ls hl => ?_)
    obtain ⟨n, h⟩ := h
    refine L30 n x2 _ (0 : Int32) I10 F _ _ _  hP hS (lv_sub hl [1, 2, 0] rfl) h (fun y11 I12 F13 H locs ls  hP hS hl h => ?_)
    exact hret (I12, F13) _ _ _ _ dX0_set_87 hP hS h
  refine lv_aload_n hx hb dX0_set_0 rfl (lv_at hl 0 rfl) ?_
  refine lv_iload_n hx hb dX0_set_1 rfl (lv_at hl 1 rfl) ?_
  refine lv_iconst (v := (4 : Int32)) hx hb dX0_set_2 (by decide) ?_
  refine lv_icmp_ne (tgt := 10) hx hb dX0_set_3 (by decide) (fun c14 => ?_) (fun c14 => ?_)
  · have h := h.1 c14
    refine lv_iload_n hx hb dX0_set_10 rfl (lv_at hl 1 rfl) ?_
    refine lv_iconst (v := (3 : Int32)) hx hb dX0_set_11 (by decide) ?_
    refine lv_icmp_ne (tgt := 19) hx hb dX0_set_12 (by decide) (fun c15 => ?_) (fun c15 => ?_)
    · have h := h.1 c15
      refine lv_iconst (v := (2 : Int32)) hx hb dX0_set_19 (by decide) ?_
      exact J20 a2 (2 : Int32) I F _ _ _  hP hS (lv_sub hl [0, 2] rfl) h
    · have h := h.2 c15
      refine lv_iconst (v := (1 : Int32)) hx hb dX0_set_15 (by decide) ?_
      refine lv_goto (tgt := 20) hx hb dX0_set_16 (by decide) ?_
      exact J20 a2 (1 : Int32) I F _ _ _  hP hS (lv_sub hl [0, 2] rfl) h
  · have h := h.2 c14
    refine lv_iconst (v := (0 : Int32)) hx hb dX0_set_6 (by decide) ?_
    refine lv_goto (tgt := 20) hx hb dX0_set_7 (by decide) ?_
    exact J20 a2 (0 : Int32) I F _ _ _  hP hS (lv_sub hl [0, 2] rfl) h
def w_X8_raised (a0 : Int32) (a1 : Int32) (I : Nat → Int32) (F : Nat → Nat → Int32) (post : Int32 → Prop) : Prop :=
  post (((a0 <<< (a1 &&& 31)) ||| (a0 >>> (((12 : Int32) - a1) &&& 31))) &&& (4095 : Int32))
set_option maxHeartbeats 4000000 in
set_option maxRecDepth 100000 in
theorem c_X8_raised (l : Launch) (D : va_G) (q : Nat → Nat) (cI cO : ClassId) (hq : cOk q) (a0 : Int32) (a1 : Int32)  (I : Nat → Int32) (F : Nat → Nat → Int32) (post : Int32 → Prop) (h : w_X8_raised a0 a1 I F post) : Met l yX8_raised wsX8_raised ({ frames := 0, cells := 0, slots := 0, locals := 0 } : Room) (gPre D (cTys cI cO) (cW q cI cO I F) (cEnv q) [.int a0, .int a1]) (va_Qi (fun r (_ : Unit) => post r) (gB D (fun _ : Unit => cW q cI cO I F)) (cA q)) 0 0 (cA q) := by
  refine gMetI (by decide) rfl (Nat.le_of_ble_eq_true rfl) ?_
  intro p e R s m args below meth c Q ls hR hx hb hml hown hts hK hE hP hl hret
  have hRf : 0 ≤ R.frames := by subst hR; exact Nat.le_refl _
  have hRl : 0 ≤ R.locals := by subst hR; exact Nat.le_refl _
  have hown : s.vm.findClass RX8 = some m.cls := hown
  have hl : lv_has ls 2 [(0, .int a0), (1, .int a1)] := hl
  have hS : va_S (cA q) s.heap s.heap [] := va_S.rf
  have hP : va_P D vwCl (cW q cI cO I F) s.heap := hP
  refine lv_iload_n hx hb dX8_raised_0 rfl (lv_at hl 0 rfl) ?_
  refine lv_iload_n hx hb dX8_raised_1 rfl (lv_at hl 1 rfl) ?_
  refine lv_ishl hx hb dX8_raised_2 ?_
  refine lv_iload_n hx hb dX8_raised_3 rfl (lv_at hl 0 rfl) ?_
  refine lv_bipush (v := (12 : Int32)) hx hb dX8_raised_4 (by decide) ?_
  refine lv_iload_n hx hb dX8_raised_6 rfl (lv_at hl 1 rfl) ?_
  refine lv_isub hx hb dX8_raised_7 ?_
  refine lv_ishr hx hb dX8_raised_8 ?_
  refine lv_ior hx hb dX8_raised_9 ?_
  refine lv_sipush (v := (4095 : Int32)) hx hb dX8_raised_10 (by decide) ?_
  refine lv_iand hx hb dX8_raised_13 ?_
  exact hret (((a0 <<< (a1 &&& 31)) ||| (a0 >>> (((12 : Int32) - a1) &&& 31))) &&& (4095 : Int32)) () _ _ _ _ dX8_raised_14 hP hS h
def w_X3_setGapAheadOf_9_4_J23 (x2 : Int32) (x3 : Int32) (z0 : Int32) (I : Nat → Int32) (F : Nat → Nat → Int32) (post : (Nat → Int32) → (Nat → Nat → Int32) → Prop) : Prop :=
  vp_in x2 8 ∧ ((z0 = 0 → w_X0_set_10 (F 17 (x2).toNatClampNeg) (0 : Int32) I F (fun (I2 : Nat → Int32) (F3 : Nat → Nat → Int32) => post I2 F3)) ∧ (¬ z0 = 0 → vp_in (x2 - (1 : Int32)) 8 ∧ w_X8_raised (F 18 ((x2 - (1 : Int32))).toNatClampNeg) x3 I F (fun (r4 : Int32) => w_X0_set_10 (F 17 (x2).toNatClampNeg) r4 I F (fun (I5 : Nat → Int32) (F6 : Nat → Nat → Int32) => post I5 F6))))
def w_X3_setGapAheadOf_9_4_J22 (x2 : Int32) (x3 : Int32) (I : Nat → Int32) (F : Nat → Nat → Int32) (post : (Nat → Int32) → (Nat → Nat → Int32) → Prop) : Prop :=
  w_X3_setGapAheadOf_9_4_J23 x2 x3 (0 : Int32) I F post
def w_X3_setGapAheadOf_9_4 (a2 : Int32) (a3 : Int32) (I : Nat → Int32) (F : Nat → Nat → Int32) (post : (Nat → Int32) → (Nat → Nat → Int32) → Prop) : Prop :=
  ((a2 ≤ 0 → w_X3_setGapAheadOf_9_4_J22 a2 a3 I F post) ∧ (¬ a2 ≤ 0 → vp_in (a2 - (1 : Int32)) 8 ∧ w_X8_isHeld (F 17 ((a2 - (1 : Int32))).toNatClampNeg) I F (fun (r8 : Int32) => ((r8 = 0 → w_X3_setGapAheadOf_9_4_J22 a2 a3 I F post) ∧ (¬ r8 = 0 → w_X3_setGapAheadOf_9_4_J23 a2 a3 (1 : Int32) I F post)))))
set_option maxHeartbeats 4000000 in
set_option maxRecDepth 100000 in
theorem c_X3_setGapAheadOf_9_4 (l : Launch) (D : va_G) (q : Nat → Nat) (cI cO : ClassId) (hq : cOk q) (a2 : Int32) (a3 : Int32)  (I : Nat → Int32) (F : Nat → Nat → Int32) (post : (Nat → Int32) → (Nat → Nat → Int32) → Prop) (h : w_X3_setGapAheadOf_9_4 a2 a3 I F post) : Met l yX3_setGapAheadOf wsX3_setGapAheadOf ({ frames := 2, cells := 0, slots := 0, locals := 46 } : Room) (gPre D (cTys cI cO) (cW q cI cO I F) (cEnv q) [.ref (q 9), .ref (q 4), .int a2, .int a3]) (va_Qv (fun (u : cS) => post u.1 u.2) (gB D (fun u : cS => cW q cI cO u.1 u.2)) (cA q)) 0 0 (cA q) := by
  refine gMetV (by decide) rfl (Nat.le_of_ble_eq_true rfl) ?_
  intro p e R s m args below meth c Q ls hR hx hb hml hown hts hK hE hP hl hret
  have hRf : 2 ≤ R.frames := by subst hR; exact Nat.le_refl _
  have hRl : 46 ≤ R.locals := by subst hR; exact Nat.le_refl _
  have hown : s.vm.findClass RX3 = some m.cls := hown
  have hl : lv_has ls 5 [(0, .ref (q 9)), (1, .ref (q 4)), (2, .int a2), (3, .int a3)] := hl
  have hS : va_S (cA q) s.heap s.heap [] := va_S.rf
  have hP : va_P D vwCl (cW q cI cO I F) s.heap := hP
  have J23 : ∀ (x2 : Int32) (x3 : Int32) (z0 : Int32) (I : Nat → Int32) (F : Nat → Nat → Int32) (H : Heap) (locs : List Loc) (ls : Array Slot), va_P D vwCl (cW q cI cO I F) H → va_S (cA q) s.heap H locs → lv_has ls 5 [(0, .ref (q 9)), (1, .ref (q 4)), (2, .int x2), (3, .int x3)] → w_X3_setGapAheadOf_9_4_J23 x2 x3 z0 I F post → W p l e R s m args below meth c H locs 0 0 Q (F0 m 23 ls [.int z0]) := by
    intro x2 x3 z0 I F H locs ls  hP hS hl h
    refine lv_istore (lv' := [(4, .int z0), (0, .ref (q 9)), (1, .ref (q 4)), (2, .int x2), (3, .int x3)]) hx hb dX3_setGapAheadOf_23 hl (by decide) rfl (fun ls hl => ?_)
    refine lv_aload_n hx hb dX3_setGapAheadOf_25 rfl (lv_at hl 1 rfl) ?_
    refine va_get (D := D) (ci := 3) (v := .ref (q 10)) (C := RX3) (T := TX3) (N := 12) hx hb hts (fun _ h9 => List.mem_cons_of_mem _ (List.mem_append_left _ (List.mem_append_right _ h9))) hown hK hP 9 cAt9 rfl 1 (by decide) (hts _ (List.mem_of_getElem? (l := wsX3_setGapAheadOf) (i := 1) rfl)) (fun _ h9 => h9) rfl dX3_setGapAheadOf_26 ?_
    refine lv_aload_n hx hb dX3_setGapAheadOf_29 rfl (lv_at hl 2 rfl) ?_
    refine va_getN (D := D) (ci := 2) (v := .ref (q 17)) (C := RX2) (T := TX2) (N := 4) hx hb hts (fun _ h9 => List.mem_cons_of_mem _ (List.mem_append_left _ (List.mem_append_left _ (List.mem_append_right _ h9)))) hown hK hP 4 cAt4 rfl 2 (by decide) (va_Nw.use rfl (hE.1.1 _ (List.mem_of_getElem? (l := cNF) (i := 9) rfl))) (fun _ h9 => h9) rfl dX3_setGapAheadOf_30 ?_
    refine lv_iload_n hx hb dX3_setGapAheadOf_33 rfl (lv_at hl 3 rfl) ?_
    refine va_iald (D := D) hx hb hK hP 17 0 cAr17 rfl h.1 dX3_setGapAheadOf_34 ?_
    have h := h.2
    refine lv_iload hx hb dX3_setGapAheadOf_35 (lv_at hl 0 rfl) ?_
    refine lv_if_eq (tgt := 55) hx hb dX3_setGapAheadOf_37 (by decide) (fun c1 => ?_) (fun c1 => ?_)
    · have h := h.1 c1
      refine lv_iconst (v := (0 : Int32)) hx hb dX3_setGapAheadOf_55 (by decide) ?_
      refine gCallV (D := D) (va_runV (As := [.int (F 17 (x2).toNatClampNeg), .int (0 : Int32)]) (rest := []) ⟨hx, hb, hml, hown, hts⟩ (c_X0_set_10 l D q cI cO hq (F 17 (x2).toNatClampNeg) (0 : Int32)  I F _ h) (cwV 2 hts gX3_setGapAheadOf_X0_set rfl rfl rfl (by decide +kernel) ⟨Nat.le_trans (Nat.le_of_ble_eq_true rfl) hRf, Nat.le_trans (Nat.le_of_ble_eq_true rfl) hRl⟩) (gPreV (ci := 0) (q0 := 10) cEok hE hK hP hS rfl cAt10) rfl rfl hl.1 rfl (lv_room (Nat.le_of_ble_eq_true rfl)) dX3_setGapAheadOf_56 ⟨Nat.zero_le _, Nat.zero_le _⟩) hS (fun u H locs hP hS h => ?_)
      obtain ⟨I2, F3⟩ := u
      have hP : va_P D vwCl (cW q cI cO I2 F3) H := hP
      exact hret (I2, F3) _ _ _ _ dX3_setGapAheadOf_59 hP hS h
    · have h := h.2 c1
      refine lv_aload_n hx hb dX3_setGapAheadOf_40 rfl (lv_at hl 2 rfl) ?_
      refine va_getN (D := D) (ci := 2) (v := .ref (q 18)) (C := RX2) (T := TX2) (N := 4) hx hb hts (fun _ h9 => List.mem_cons_of_mem _ (List.mem_append_left _ (List.mem_append_left _ (List.mem_append_right _ h9)))) hown hK hP 4 cAt4 rfl 3 (by decide) (va_Nw.use rfl (hE.1.1 _ (List.mem_of_getElem? (l := cNF) (i := 11) rfl))) (fun _ h9 => h9) rfl dX3_setGapAheadOf_41 ?_
      refine lv_iload_n hx hb dX3_setGapAheadOf_44 rfl (lv_at hl 3 rfl) ?_
      refine lv_iconst (v := (1 : Int32)) hx hb dX3_setGapAheadOf_45 (by decide) ?_
      refine lv_isub hx hb dX3_setGapAheadOf_46 ?_
      refine va_iald (D := D) hx hb hK hP 18 0 cAr18 rfl h.1 dX3_setGapAheadOf_47 ?_
      have h := h.2
      refine lv_iload_n hx hb dX3_setGapAheadOf_48 rfl (lv_at hl 4 rfl) ?_
      refine gCallI (D := D) (va_runSN (As := [.int (F 18 ((x2 - (1 : Int32))).toNatClampNeg), .int x3]) (rest := [.int (F 17 (x2).toNatClampNeg), .ref (q 10)]) ⟨hx, hb, hml, hown, hts⟩ (c_X8_raised l D q cI cO hq (F 18 ((x2 - (1 : Int32))).toNatClampNeg) x3  I F _ h) ⟨va_cnB 2 hts gX3_setGapAheadOf_X8_raised_n102 rfl rfl rfl (hE.1.2 _ (List.mem_of_getElem? (l := cNM) (i := 9) rfl)) (hts _ (List.mem_of_getElem? (l := wsX3_setGapAheadOf) (i := 3) rfl)) (by decide +kernel) ⟨Nat.le_trans (Nat.le_of_ble_eq_true rfl) hRf, Nat.le_trans (Nat.le_of_ble_eq_true rfl) hRl⟩, (hts _ (List.mem_of_getElem? (l := wsX3_setGapAheadOf) (i := 5) rfl)), trivial⟩ (gPreS cEok hE hK hP hS) rfl rfl hl.1 rfl (lv_room (Nat.le_of_ble_eq_true rfl)) dX3_setGapAheadOf_49 ⟨Nat.zero_le _, Nat.zero_le _⟩) hS (fun r4 _ H locs hP hS h => ?_)
      have hP : va_P D vwCl (cW q cI cO I F) H := hP
      refine lv_goto (tgt := 56) hx hb dX3_setGapAheadOf_52 (by decide) ?_
      refine gCallV (D := D) (va_runV (As := [.int (F 17 (x2).toNatClampNeg), .int r4]) (rest := []) ⟨hx, hb, hml, hown, hts⟩ (c_X0_set_10 l D q cI cO hq (F 17 (x2).toNatClampNeg) r4  I F _ h) (cwV 2 hts gX3_setGapAheadOf_X0_set rfl rfl rfl (by decide +kernel) ⟨Nat.le_trans (Nat.le_of_ble_eq_true rfl) hRf, Nat.le_trans (Nat.le_of_ble_eq_true rfl) hRl⟩) (gPreV (ci := 0) (q0 := 10) cEok hE hK hP hS rfl cAt10) rfl rfl hl.1 rfl (lv_room (Nat.le_of_ble_eq_true rfl)) dX3_setGapAheadOf_56 ⟨Nat.zero_le _, Nat.zero_le _⟩) hS (fun u H locs hP hS h => ?_)
      obtain ⟨I5, F6⟩ := u
      have hP : va_P D vwCl (cW q cI cO I5 F6) H := hP
      exact hret (I5, F6) _ _ _ _ dX3_setGapAheadOf_59 hP hS h
  have J22 : ∀ (x2 : Int32) (x3 : Int32) (I : Nat → Int32) (F : Nat → Nat → Int32) (H : Heap) (locs : List Loc) (ls : Array Slot), va_P D vwCl (cW q cI cO I F) H → va_S (cA q) s.heap H locs → lv_has ls 5 [(0, .ref (q 9)), (1, .ref (q 4)), (2, .int x2), (3, .int x3)] → w_X3_setGapAheadOf_9_4_J22 x2 x3 I F post → W p l e R s m args below meth c H locs 0 0 Q (F0 m 22 ls []) := by
    intro x2 x3 I F H locs ls  hP hS hl h
    refine lv_iconst (v := (0 : Int32)) hx hb dX3_setGapAheadOf_22 (by decide) ?_
    exact J23 x2 x3 (0 : Int32) I F _ _ _  hP hS (lv_sub hl [0, 1, 2, 3] rfl) h
  refine lv_iload_n hx hb dX3_setGapAheadOf_0 rfl (lv_at hl 2 rfl) ?_
  refine lv_if_le (tgt := 22) hx hb dX3_setGapAheadOf_1 (by decide) (fun c7 => ?_) (fun c7 => ?_)
  · have h := h.1 c7
    exact J22 a2 a3 I F _ _ _  hP hS (lv_sub hl [0, 1, 2, 3] rfl) h
  · have h := h.2 c7
    refine lv_aload_n hx hb dX3_setGapAheadOf_4 rfl (lv_at hl 1 rfl) ?_
    refine va_getN (D := D) (ci := 2) (v := .ref (q 17)) (C := RX2) (T := TX2) (N := 4) hx hb hts (fun _ h9 => List.mem_cons_of_mem _ (List.mem_append_left _ (List.mem_append_left _ (List.mem_append_right _ h9)))) hown hK hP 4 cAt4 rfl 2 (by decide) (va_Nw.use rfl (hE.1.1 _ (List.mem_of_getElem? (l := cNF) (i := 9) rfl))) (fun _ h9 => h9) rfl dX3_setGapAheadOf_5 ?_
    refine lv_iload_n hx hb dX3_setGapAheadOf_8 rfl (lv_at hl 2 rfl) ?_
    refine lv_iconst (v := (1 : Int32)) hx hb dX3_setGapAheadOf_9 (by decide) ?_
    refine lv_isub hx hb dX3_setGapAheadOf_10 ?_
    refine va_iald (D := D) hx hb hK hP 17 0 cAr17 rfl h.1 dX3_setGapAheadOf_11 ?_
    have h := h.2
    refine gCallI (D := D) (va_runSN (As := [.int (F 17 ((a2 - (1 : Int32))).toNatClampNeg)]) (rest := []) ⟨hx, hb, hml, hown, hts⟩ (c_X8_isHeld l D q cI cO hq (F 17 ((a2 - (1 : Int32))).toNatClampNeg)  I F _ h) ⟨va_cnB 1 hts gX3_setGapAheadOf_X8_isHeld_n137 rfl rfl rfl (hE.1.2 _ (List.mem_of_getElem? (l := cNM) (i := 8) rfl)) (hts _ (List.mem_of_getElem? (l := wsX3_setGapAheadOf) (i := 3) rfl)) (by decide +kernel) ⟨Nat.le_trans (Nat.le_of_ble_eq_true rfl) hRf, Nat.le_trans (Nat.le_of_ble_eq_true rfl) hRl⟩, (hts _ (List.mem_of_getElem? (l := wsX3_setGapAheadOf) (i := 2) rfl)), trivial⟩ (gPreS cEok hE hK hP hS) rfl rfl hl.1 rfl (lv_room (Nat.le_of_ble_eq_true rfl)) dX3_setGapAheadOf_12 ⟨Nat.zero_le _, Nat.zero_le _⟩) hS (fun r8 _ H locs hP hS h => ?_)
    have hP : va_P D vwCl (cW q cI cO I F) H := hP
    refine lv_if_eq (tgt := 22) hx hb dX3_setGapAheadOf_15 (by decide) (fun c9 => ?_) (fun c9 => ?_)
    · have h := h.1 c9
      exact J22 a2 a3 I F _ _ _  hP hS (lv_sub hl [0, 1, 2, 3] rfl) h
    · have h := h.2 c9
      refine lv_iconst (v := (1 : Int32)) hx hb dX3_setGapAheadOf_18 (by decide) ?_
      refine lv_goto (tgt := 23) hx hb dX3_setGapAheadOf_19 (by decide) ?_
      exact J23 a2 a3 (1 : Int32) I F _ _ _  hP hS (lv_sub hl [0, 1, 2, 3] rfl) h
def w_X0_holds_10 (a1 : Int32) (a2 : Int32) (I : Nat → Int32) (F : Nat → Nat → Int32) (post : Int32 → Prop) : Prop :=
  (((((I 18) >>> (((a1 * (3 : Int32)) + a2) &&& 31)) &&& (1 : Int32)) = 0 → post (0 : Int32)) ∧ (¬ (((I 18) >>> (((a1 * (3 : Int32)) + a2) &&& 31)) &&& (1 : Int32)) = 0 → post (1 : Int32)))
set_option maxHeartbeats 4000000 in
set_option maxRecDepth 100000 in
theorem c_X0_holds_10 (l : Launch) (D : va_G) (q : Nat → Nat) (cI cO : ClassId) (hq : cOk q) (a1 : Int32) (a2 : Int32)  (I : Nat → Int32) (F : Nat → Nat → Int32) (post : Int32 → Prop) (h : w_X0_holds_10 a1 a2 I F post) : Met l yX0_holds wsX0_holds ({ frames := 0, cells := 0, slots := 0, locals := 0 } : Room) (gPre D (cTys cI cO) (cW q cI cO I F) (cEnv q) [.ref (q 10), .int a1, .int a2]) (va_Qi (fun r (_ : Unit) => post r) (gB D (fun _ : Unit => cW q cI cO I F)) (cA q)) 0 0 (cA q) := by
  refine gMetZ (by decide) rfl (Nat.le_of_ble_eq_true rfl) ?_
  intro p e R s m args below meth c Q ls hR hx hb hml hown hts hK hE hP hl hret
  have hRf : 0 ≤ R.frames := by subst hR; exact Nat.le_refl _
  have hRl : 0 ≤ R.locals := by subst hR; exact Nat.le_refl _
  have hown : s.vm.findClass RX0 = some m.cls := hown
  have hl : lv_has ls 3 [(0, .ref (q 10)), (1, .int a1), (2, .int a2)] := hl
  have hS : va_S (cA q) s.heap s.heap [] := va_S.rf
  have hP : va_P D vwCl (cW q cI cO I F) s.heap := hP
  refine lv_aload_n hx hb dX0_holds_0 rfl (lv_at hl 0 rfl) ?_
  refine va_get (D := D) (ci := 0) (v := .int (I 18)) (C := RX0) (T := TX0) (N := 2) hx hb hts (fun _ h9 => List.mem_cons_of_mem _ (List.mem_append_right _ h9)) hown hK hP 10 cAt10 rfl 1 (by decide) (hts _ (List.mem_of_getElem? (l := wsX0_holds) (i := 1) rfl)) (fun _ h9 => h9) rfl dX0_holds_1 ?_
  refine lv_iload_n hx hb dX0_holds_4 rfl (lv_at hl 1 rfl) ?_
  refine lv_iconst (v := (3 : Int32)) hx hb dX0_holds_5 (by decide) ?_
  refine lv_imul hx hb dX0_holds_6 ?_
  refine lv_iload_n hx hb dX0_holds_7 rfl (lv_at hl 2 rfl) ?_
  refine lv_iadd hx hb dX0_holds_8 ?_
  refine lv_ishr hx hb dX0_holds_9 ?_
  refine lv_iconst (v := (1 : Int32)) hx hb dX0_holds_10 (by decide) ?_
  refine lv_iand hx hb dX0_holds_11 ?_
  refine lv_if_eq (tgt := 19) hx hb dX0_holds_12 (by decide) (fun c1 => ?_) (fun c1 => ?_)
  · have h := h.1 c1
    refine lv_iconst (v := (0 : Int32)) hx hb dX0_holds_19 (by decide) ?_
    exact hret (0 : Int32) () _ _ _ _ dX0_holds_20 hP hS (by decide) h
  · have h := h.2 c1
    refine lv_iconst (v := (1 : Int32)) hx hb dX0_holds_15 (by decide) ?_
    refine lv_goto (tgt := 20) hx hb dX0_holds_16 (by decide) ?_
    exact hret (1 : Int32) () _ _ _ _ dX0_holds_20 hP hS (by decide) h
def w_X3_joined (a0 : Int32) (a1 : Int32) (I : Nat → Int32) (F : Nat → Nat → Int32) (post : Int32 → Prop) : Prop :=
  (((a0 >>> ((20 : Int32) &&& 31)) = (a1 >>> ((20 : Int32) &&& 31)) → ∀ v2 : Int32, v2 = (((a0 &&& (1048575 : Int32)) + (a1 &&& (1048575 : Int32))) - ((a0 &&& (1048575 : Int32)) + (a1 &&& (1048575 : Int32))) / (1000003 : Int32) * (1000003 : Int32)) → post ((a0 &&& (-1048576 : Int32)) ||| v2)) ∧ (¬ (a0 >>> ((20 : Int32) &&& 31)) = (a1 >>> ((20 : Int32) &&& 31)) → ((a1 ≤ a0 → post a1) ∧ (¬ a1 ≤ a0 → post a0))))
set_option maxHeartbeats 4000000 in
set_option maxRecDepth 100000 in
theorem c_X3_joined (l : Launch) (D : va_G) (q : Nat → Nat) (cI cO : ClassId) (hq : cOk q) (a0 : Int32) (a1 : Int32)  (I : Nat → Int32) (F : Nat → Nat → Int32) (post : Int32 → Prop) (h : w_X3_joined a0 a1 I F post) : Met l yX3_joined wsX3_joined ({ frames := 0, cells := 0, slots := 0, locals := 0 } : Room) (gPre D (cTys cI cO) (cW q cI cO I F) (cEnv q) [.int a0, .int a1]) (va_Qi (fun r (_ : Unit) => post r) (gB D (fun _ : Unit => cW q cI cO I F)) (cA q)) 0 0 (cA q) := by
  refine gMetI (by decide) rfl (Nat.le_of_ble_eq_true rfl) ?_
  intro p e R s m args below meth c Q ls hR hx hb hml hown hts hK hE hP hl hret
  have hRf : 0 ≤ R.frames := by subst hR; exact Nat.le_refl _
  have hRl : 0 ≤ R.locals := by subst hR; exact Nat.le_refl _
  have hown : s.vm.findClass RX3 = some m.cls := hown
  have hl : lv_has ls 3 [(0, .int a0), (1, .int a1)] := hl
  have hS : va_S (cA q) s.heap s.heap [] := va_S.rf
  have hP : va_P D vwCl (cW q cI cO I F) s.heap := hP
  refine lv_iload_n hx hb dX3_joined_0 rfl (lv_at hl 0 rfl) ?_
  refine lv_bipush (v := (20 : Int32)) hx hb dX3_joined_1 (by decide) ?_
  refine lv_ishr hx hb dX3_joined_3 ?_
  refine lv_iload_n hx hb dX3_joined_4 rfl (lv_at hl 1 rfl) ?_
  refine lv_bipush (v := (20 : Int32)) hx hb dX3_joined_5 (by decide) ?_
  refine lv_ishr hx hb dX3_joined_7 ?_
  refine lv_icmp_eq (tgt := 22) hx hb dX3_joined_8 (by decide) (fun c1 => ?_) (fun c1 => ?_)
  · have h := h.1 c1
    refine lv_iload_n hx hb dX3_joined_22 rfl (lv_at hl 0 rfl) ?_
    refine lv_ldc (v := (1048575 : Int32)) hx hb hown (hts _ (List.mem_of_getElem? (l := wsX3_joined) (i := 1) rfl)) dX3_joined_23 ?_
    refine lv_iand hx hb dX3_joined_25 ?_
    refine lv_iload_n hx hb dX3_joined_26 rfl (lv_at hl 1 rfl) ?_
    refine lv_ldc (v := (1048575 : Int32)) hx hb hown (hts _ (List.mem_of_getElem? (l := wsX3_joined) (i := 1) rfl)) dX3_joined_27 ?_
    refine lv_iand hx hb dX3_joined_29 ?_
    refine lv_iadd hx hb dX3_joined_30 ?_
    refine lv_ldc (v := (1000003 : Int32)) hx hb hown (hts _ (List.mem_of_getElem? (l := wsX3_joined) (i := 2) rfl)) dX3_joined_31 ?_
    refine lv_irem hx hb dX3_joined_33 (by decide) ?_
    refine lv_topi (fun v2 ev2 => ?_)
    have h := h v2 ev2
    refine lv_istore_n (lv' := [(2, .int v2), (0, .int a0), (1, .int a1)]) hx hb dX3_joined_34 rfl hl (by decide) rfl (fun ls hl => ?_)
    refine lv_iload_n hx hb dX3_joined_35 rfl (lv_at hl 1 rfl) ?_
    refine lv_ldc (v := (-1048576 : Int32)) hx hb hown (hts _ (List.mem_of_getElem? (l := wsX3_joined) (i := 3) rfl)) dX3_joined_36 ?_
    refine lv_iand hx hb dX3_joined_38 ?_
    refine lv_iload_n hx hb dX3_joined_39 rfl (lv_at hl 0 rfl) ?_
    refine lv_ior hx hb dX3_joined_40 ?_
    exact hret ((a0 &&& (-1048576 : Int32)) ||| v2) () _ _ _ _ dX3_joined_41 hP hS h
  · have h := h.2 c1
    refine lv_iload_n hx hb dX3_joined_11 rfl (lv_at hl 0 rfl) ?_
    refine lv_iload_n hx hb dX3_joined_12 rfl (lv_at hl 1 rfl) ?_
    refine lv_icmp_ge (tgt := 20) hx hb dX3_joined_13 (by decide) (fun c3 => ?_) (fun c3 => ?_)
    · have h := h.1 c3
      refine lv_iload_n hx hb dX3_joined_20 rfl (lv_at hl 1 rfl) ?_
      exact hret a1 () _ _ _ _ dX3_joined_21 hP hS h
    · have h := h.2 c3
      refine lv_iload_n hx hb dX3_joined_16 rfl (lv_at hl 0 rfl) ?_
      refine lv_goto (tgt := 21) hx hb dX3_joined_17 (by decide) ?_
      exact hret a0 () _ _ _ _ dX3_joined_21 hP hS h
def w_X3_gathered_9_r_B25 (x1 : Nat) (x2 : Int32) (x3 : Int32) (x4 : Int32) (x6 : Int32) (x7 : Int32) (I : Nat → Int32) (F : Nat → Nat → Int32) (k again : Int32 → Int32 → Prop) (x5 : Int32) (x8 : Int32) : Prop :=
  (((3 : Int32) ≤ x8 → k x5 x8) ∧ (¬ (3 : Int32) ≤ x8 → ((x8 = x7 → again x5 (x8 + (1 : Int32))) ∧ (¬ x8 = x7 → ((x4 = 0 → w_X0_holds_10 x6 x7 I F (fun (r4 : Int32) => ((¬ r4 = 0 → again x5 (x8 + (1 : Int32))) ∧ (r4 = 0 → vp_in x6 7 ∧ vp_in (x2 + ((x8 - x7) * (tabW (x6).toNatClampNeg))) 2187 ∧ ∀ v6 : Int32, v6 = (F x1 ((x2 + ((x8 - x7) * (tabW (x6).toNatClampNeg)))).toNatClampNeg) → ((v6 = (1073741824 : Int32) → again x5 (x8 + (1 : Int32))) ∧ (¬ v6 = (1073741824 : Int32) → w_X3_joined x5 (v6 + (1048576 : Int32)) I F (fun (r8 : Int32) => again r8 (x8 + (1 : Int32))))))))) ∧ (¬ x4 = 0 → w_X0_holds_10 x6 x8 I F (fun (r9 : Int32) => ((¬ r9 = 0 → again x5 (x8 + (1 : Int32))) ∧ (r9 = 0 → vp_in x6 7 ∧ vp_in (x2 + ((x8 - x7) * (tabW (x6).toNatClampNeg))) 2187 ∧ ∀ v11 : Int32, v11 = (F x1 ((x2 + ((x8 - x7) * (tabW (x6).toNatClampNeg)))).toNatClampNeg) → ((v11 = (1073741824 : Int32) → again x5 (x8 + (1 : Int32))) ∧ (¬ v11 = (1073741824 : Int32) → w_X3_joined x5 (v11 + (1048576 : Int32)) I F (fun (r13 : Int32) => again r13 (x8 + (1 : Int32))))))))))))))
def w_X3_gathered_9_r_B8 (x1 : Nat) (x2 : Int32) (x3 : Int32) (x4 : Int32) (I : Nat → Int32) (F : Nat → Nat → Int32) (k again : Int32 → Int32 → Prop) (x5 : Int32) (x6 : Int32) : Prop :=
  ((x3 ≤ x6 → k x5 x6) ∧ (¬ x3 ≤ x6 → w_X7_positionAt x2 x6 I F (fun (r15 : Int32) => gL (fun ag v => w_X3_gathered_9_r_B25 x1 x2 x3 x4 x6 r15 I F (fun (y16 : Int32) (y17 : Int32) => again y16 (x6 + (1 : Int32))) (fun b0 b1 => ag (b0, b1)) v.1 v.2) (x5, (0 : Int32)))))
def w_X3_gathered_9_r (r2 : Nat) (a2 : Int32) (a3 : Int32) (a4 : Int32) (I : Nat → Int32) (F : Nat → Nat → Int32) (post : Int32 → Prop) : Prop :=
  vp_in a2 2187 ∧ ∀ v18 : Int32, v18 = (F r2 (a2).toNatClampNeg) → gL (fun ag v => w_X3_gathered_9_r_B8 r2 a2 a3 a4 I F (fun (y19 : Int32) (y20 : Int32) => post y19) (fun b0 b1 => ag (b0, b1)) v.1 v.2) (v18, (0 : Int32))
set_option maxHeartbeats 4000000 in
set_option maxRecDepth 100000 in
theorem c_X3_gathered_9_r (l : Launch) (D : va_G) (q : Nat → Nat) (cI cO : ClassId) (hq : cOk q) (r2 : Nat) (a2 : Int32) (a3 : Int32) (a4 : Int32) (hr2 : 28 ≤ r2 ∧ r2 < 39) (I : Nat → Int32) (F : Nat → Nat → Int32) (post : Int32 → Prop) (h : w_X3_gathered_9_r r2 a2 a3 a4 I F post) : Met l yX3_gathered wsX3_gathered ({ frames := 1, cells := 0, slots := 0, locals := 22 } : Room) (gPre D (cTys cI cO) (cW q cI cO I F) (cEnv q) [.ref (q 9), .ref (q r2), .int a2, .int a3, .int a4]) (va_Qi (fun r (_ : Unit) => post r) (gB D (fun _ : Unit => cW q cI cO I F)) (cA q)) 0 0 (cA q) := by
  refine gMetI (by decide) rfl (Nat.le_of_ble_eq_true rfl) ?_
  intro p e R s m args below meth c Q ls hR hx hb hml hown hts hK hE hP hl hret
  have hRf : 1 ≤ R.frames := by subst hR; exact Nat.le_refl _
  have hRl : 22 ≤ R.locals := by subst hR; exact Nat.le_refl _
  have hown : s.vm.findClass RX3 = some m.cls := hown
  have hl : lv_has ls 10 [(0, .ref (q 9)), (1, .ref (q r2)), (2, .int a2), (3, .int a3), (4, .int a4)] := hl
  have hS : va_S (cA q) s.heap s.heap [] := va_S.rf
  have hP : va_P D vwCl (cW q cI cO I F) s.heap := hP
  have L25 : ∀ (n : Nat) (x1 : Nat) (x2 : Int32) (x3 : Int32) (x4 : Int32) (x6 : Int32) (x7 : Int32) (k : Int32 → Int32 → Prop) (x5 : Int32) (x8 : Int32) (H : Heap) (locs : List Loc) (ls : Array Slot), 28 ≤ x1 ∧ x1 < 39 → va_P D vwCl (cW q cI cO I F) H → va_S (cA q) s.heap H locs → lv_has ls 10 [(0, .ref (q 9)), (1, .ref (q x1)), (2, .int x2), (3, .int x3), (4, .int x4), (5, .int x5), (6, .int x6), (7, .int x7), (8, .int x8)] → gLN (fun ag v => w_X3_gathered_9_r_B25 x1 x2 x3 x4 x6 x7 I F k (fun b0 b1 => ag (b0, b1)) v.1 v.2) n (x5, x8) → (∀ (x5 : Int32) (x8 : Int32) (H : Heap) (locs : List Loc) (ls : Array Slot), va_P D vwCl (cW q cI cO I F) H → va_S (cA q) s.heap H locs → lv_has ls 10 [(0, .ref (q 9)), (1, .ref (q x1)), (2, .int x2), (3, .int x3), (4, .int x4), (5, .int x5), (6, .int x6)] → k x5 x8 → W p l e R s m args below meth c H locs 0 0 Q (F0 m 105 ls [])) → W p l e R s m args below meth c H locs 0 0 Q (F0 m 25 ls []) := by
    intro n
    induction n with
    | zero =>
      intro x1 x2 x3 x4 x6 x7 k x5 x8 H locs ls hx1 hP hS hl h K
      exact False.elim h
    | succ n ih =>
      intro x1 x2 x3 x4 x6 x7 k x5 x8 H locs ls hx1 hP hS hl h K
      have h : w_X3_gathered_9_r_B25 x1 x2 x3 x4 x6 x7 I F k (fun b0 b1 => gLN (fun ag v => w_X3_gathered_9_r_B25 x1 x2 x3 x4 x6 x7 I F k (fun b0 b1 => ag (b0, b1)) v.1 v.2) n (b0, b1)) x5 x8 := h
      refine lv_iload hx hb dX3_gathered_25 (lv_at hl 8 rfl) ?_
      refine lv_iconst (v := (3 : Int32)) hx hb dX3_gathered_27 (by decide) ?_
      refine lv_icmp_ge (tgt := 105) hx hb dX3_gathered_28 (by decide) (fun c1 => ?_) (fun c1 => ?_)
      · have h := h.1 c1
        exact K x5 x8 _ _ _  hP hS (lv_sub hl [0, 1, 2, 3, 4, 5, 6] rfl) h
      · have h := h.2 c1
        refine lv_iload hx hb dX3_gathered_31 (lv_at hl 8 rfl) ?_
        refine lv_iload hx hb dX3_gathered_33 (lv_at hl 7 rfl) ?_
        refine lv_icmp_eq (tgt := 99) hx hb dX3_gathered_35 (by decide) (fun c2 => ?_) (fun c2 => ?_)
        · have h := h.1 c2
          refine lv_iinc (v := (x8 + (1 : Int32))) (lv' := [(8, .int (x8 + (1 : Int32))), (0, .ref (q 9)), (1, .ref (q x1)), (2, .int x2), (3, .int x3), (4, .int x4), (5, .int x5), (6, .int x6), (7, .int x7)]) hx hb dX3_gathered_99 hl (k := 8) rfl rfl (by decide) rfl (fun ls hl => ?_)
          refine lv_goto (tgt := 25) hx hb dX3_gathered_102 (by decide) ?_
          exact ih x1 x2 x3 x4 x6 x7 _ x5 (x8 + (1 : Int32)) _ _ _ hx1 hP hS (lv_sub hl [1, 2, 3, 4, 5, 6, 7, 8, 0] rfl) h K
        · have h := h.2 c2
          refine lv_aload_n hx hb dX3_gathered_38 rfl (lv_at hl 0 rfl) ?_
          refine va_get (D := D) (ci := 3) (v := .ref (q 10)) (C := RX3) (T := TX3) (N := 12) hx hb hts (fun _ h9 => List.mem_cons_of_mem _ (List.mem_append_left _ (List.mem_append_right _ h9))) hown hK hP 9 cAt9 rfl 1 (by decide) (hts _ (List.mem_of_getElem? (l := wsX3_gathered) (i := 1) rfl)) (fun _ h9 => h9) rfl dX3_gathered_39 ?_
          refine lv_iload hx hb dX3_gathered_42 (lv_at hl 6 rfl) ?_
          refine lv_iload hx hb dX3_gathered_44 (lv_at hl 4 rfl) ?_
          refine lv_if_eq (tgt := 54) hx hb dX3_gathered_46 (by decide) (fun c3 => ?_) (fun c3 => ?_)
          · have h := h.1 c3
            refine lv_iload hx hb dX3_gathered_54 (lv_at hl 7 rfl) ?_
            refine gCallI (D := D) (va_runV (As := [.int x6, .int x7]) (rest := []) ⟨hx, hb, hml, hown, hts⟩ (c_X0_holds_10 l D q cI cO hq x6 x7  I F _ h) (cwV 2 hts gX3_gathered_X0_holds rfl rfl rfl (by decide +kernel) ⟨Nat.le_trans (Nat.le_of_ble_eq_true rfl) hRf, Nat.le_trans (Nat.le_of_ble_eq_true rfl) hRl⟩) (gPreV (ci := 0) (q0 := 10) cEok hE hK hP hS rfl cAt10) rfl rfl hl.1 rfl (lv_room (Nat.le_of_ble_eq_true rfl)) dX3_gathered_56 ⟨Nat.zero_le _, Nat.zero_le _⟩) hS (fun r4 _ H locs hP hS h => ?_)
            have hP : va_P D vwCl (cW q cI cO I F) H := hP
            refine lv_if_ne (tgt := 99) hx hb dX3_gathered_59 (by decide) (fun c5 => ?_) (fun c5 => ?_)
            · have h := h.1 c5
              refine lv_iinc (v := (x8 + (1 : Int32))) (lv' := [(8, .int (x8 + (1 : Int32))), (0, .ref (q 9)), (1, .ref (q x1)), (2, .int x2), (3, .int x3), (4, .int x4), (5, .int x5), (6, .int x6), (7, .int x7)]) hx hb dX3_gathered_99 hl (k := 8) rfl rfl (by decide) rfl (fun ls hl => ?_)
              refine lv_goto (tgt := 25) hx hb dX3_gathered_102 (by decide) ?_
              exact ih x1 x2 x3 x4 x6 x7 _ x5 (x8 + (1 : Int32)) _ _ _ hx1 hP hS (lv_sub hl [1, 2, 3, 4, 5, 6, 7, 8, 0] rfl) h K
            · have h := h.2 c5
              refine lv_aload_n hx hb dX3_gathered_62 rfl (lv_at hl 1 rfl) ?_
              refine lv_iload_n hx hb dX3_gathered_63 rfl (lv_at hl 2 rfl) ?_
              refine lv_iload hx hb dX3_gathered_64 (lv_at hl 8 rfl) ?_
              refine lv_iload hx hb dX3_gathered_66 (lv_at hl 7 rfl) ?_
              refine lv_isub hx hb dX3_gathered_68 ?_
              refine va_getsN (C := "HarpPedals$Settings") (v := .ref (q 40)) hx hb hE.2.2.1.1 hS hown (va_Nw.use rfl (hE.1.1 _ (List.mem_of_getElem? (l := cNF) (i := 18) rfl))) (fun _ h9 => h9) dX3_gathered_69 ?_
              refine lv_iload hx hb dX3_gathered_72 (lv_at hl 6 rfl) ?_
              refine va_ti (v := .int (tabW (x6).toNatClampNeg)) hx hb hE.2.2.1.2 hS h.1 rfl dX3_gathered_74 ?_
              have h := h.2
              refine lv_imul hx hb dX3_gathered_75 ?_
              refine lv_iadd hx hb dX3_gathered_76 ?_
              refine va_iald (D := D) hx hb hK hP x1 0 (cRow hx1) rfl h.1 dX3_gathered_77 ?_
              have h := h.2
              refine lv_topi (fun v6 ev6 => ?_)
              have h := h v6 ev6
              refine lv_istore (lv' := [(9, .int v6), (0, .ref (q 9)), (1, .ref (q x1)), (2, .int x2), (3, .int x3), (4, .int x4), (5, .int x5), (6, .int x6), (7, .int x7), (8, .int x8)]) hx hb dX3_gathered_78 hl (by decide) rfl (fun ls hl => ?_)
              refine lv_iload hx hb dX3_gathered_80 (lv_at hl 0 rfl) ?_
              refine lv_ldc (v := (1073741824 : Int32)) hx hb hown (hts _ (List.mem_of_getElem? (l := wsX3_gathered) (i := 2) rfl)) dX3_gathered_82 ?_
              refine lv_icmp_eq (tgt := 99) hx hb dX3_gathered_84 (by decide) (fun c7 => ?_) (fun c7 => ?_)
              · have h := h.1 c7
                refine lv_iinc (v := (x8 + (1 : Int32))) (lv' := [(8, .int (x8 + (1 : Int32))), (9, .int v6), (0, .ref (q 9)), (1, .ref (q x1)), (2, .int x2), (3, .int x3), (4, .int x4), (5, .int x5), (6, .int x6), (7, .int x7)]) hx hb dX3_gathered_99 hl (k := 9) rfl rfl (by decide) rfl (fun ls hl => ?_)
                refine lv_goto (tgt := 25) hx hb dX3_gathered_102 (by decide) ?_
                exact ih x1 x2 x3 x4 x6 x7 _ x5 (x8 + (1 : Int32)) _ _ _ hx1 hP hS (lv_sub hl [2, 3, 4, 5, 6, 7, 8, 9, 0] rfl) h K
              · have h := h.2 c7
                refine lv_iload hx hb dX3_gathered_87 (lv_at hl 6 rfl) ?_
                refine lv_iload hx hb dX3_gathered_89 (lv_at hl 0 rfl) ?_
                refine lv_ldc (v := (1048576 : Int32)) hx hb hown (hts _ (List.mem_of_getElem? (l := wsX3_gathered) (i := 3) rfl)) dX3_gathered_91 ?_
                refine lv_iadd hx hb dX3_gathered_93 ?_
                refine gCallI (D := D) (va_runS (As := [.int x5, .int (v6 + (1048576 : Int32))]) (rest := []) ⟨hx, hb, hml, hown, hts⟩ (c_X3_joined l D q cI cO hq x5 (v6 + (1048576 : Int32))  I F _ h) (va_cwS 2 hts gX3_gathered_X3_joined rfl rfl rfl (by decide +kernel) ⟨Nat.le_trans (Nat.le_of_ble_eq_true rfl) hRf, Nat.le_trans (Nat.le_of_ble_eq_true rfl) hRl⟩) (gPreS cEok hE hK hP hS) rfl rfl hl.1 rfl (lv_room (Nat.le_of_ble_eq_true rfl)) dX3_gathered_94 ⟨Nat.zero_le _, Nat.zero_le _⟩) hS (fun r8 _ H locs hP hS h => ?_)
                have hP : va_P D vwCl (cW q cI cO I F) H := hP
                refine lv_istore (lv' := [(5, .int r8), (9, .int v6), (0, .ref (q 9)), (1, .ref (q x1)), (2, .int x2), (3, .int x3), (4, .int x4), (6, .int x6), (7, .int x7), (8, .int x8)]) hx hb dX3_gathered_97 hl (by decide) rfl (fun ls hl => ?_)
                refine lv_iinc (v := (x8 + (1 : Int32))) (lv' := [(8, .int (x8 + (1 : Int32))), (5, .int r8), (9, .int v6), (0, .ref (q 9)), (1, .ref (q x1)), (2, .int x2), (3, .int x3), (4, .int x4), (6, .int x6), (7, .int x7)]) hx hb dX3_gathered_99 hl (k := 9) rfl rfl (by decide) rfl (fun ls hl => ?_)
                refine lv_goto (tgt := 25) hx hb dX3_gathered_102 (by decide) ?_
                exact ih x1 x2 x3 x4 x6 x7 _ r8 (x8 + (1 : Int32)) _ _ _ hx1 hP hS (lv_sub hl [3, 4, 5, 6, 7, 1, 8, 9, 0] rfl) h K
          · have h := h.2 c3
            refine lv_iload hx hb dX3_gathered_49 (lv_at hl 8 rfl) ?_
            refine lv_goto (tgt := 56) hx hb dX3_gathered_51 (by decide) ?_
            refine gCallI (D := D) (va_runV (As := [.int x6, .int x8]) (rest := []) ⟨hx, hb, hml, hown, hts⟩ (c_X0_holds_10 l D q cI cO hq x6 x8  I F _ h) (cwV 2 hts gX3_gathered_X0_holds rfl rfl rfl (by decide +kernel) ⟨Nat.le_trans (Nat.le_of_ble_eq_true rfl) hRf, Nat.le_trans (Nat.le_of_ble_eq_true rfl) hRl⟩) (gPreV (ci := 0) (q0 := 10) cEok hE hK hP hS rfl cAt10) rfl rfl hl.1 rfl (lv_room (Nat.le_of_ble_eq_true rfl)) dX3_gathered_56 ⟨Nat.zero_le _, Nat.zero_le _⟩) hS (fun r9 _ H locs hP hS h => ?_)
            have hP : va_P D vwCl (cW q cI cO I F) H := hP
            refine lv_if_ne (tgt := 99) hx hb dX3_gathered_59 (by decide) (fun c10 => ?_) (fun c10 => ?_)
            · have h := h.1 c10
              refine lv_iinc (v := (x8 + (1 : Int32))) (lv' := [(8, .int (x8 + (1 : Int32))), (0, .ref (q 9)), (1, .ref (q x1)), (2, .int x2), (3, .int x3), (4, .int x4), (5, .int x5), (6, .int x6), (7, .int x7)]) hx hb dX3_gathered_99 hl (k := 8) rfl rfl (by decide) rfl (fun ls hl => ?_)
              refine lv_goto (tgt := 25) hx hb dX3_gathered_102 (by decide) ?_
              exact ih x1 x2 x3 x4 x6 x7 _ x5 (x8 + (1 : Int32)) _ _ _ hx1 hP hS (lv_sub hl [1, 2, 3, 4, 5, 6, 7, 8, 0] rfl) h K
            · have h := h.2 c10
              refine lv_aload_n hx hb dX3_gathered_62 rfl (lv_at hl 1 rfl) ?_
              refine lv_iload_n hx hb dX3_gathered_63 rfl (lv_at hl 2 rfl) ?_
              refine lv_iload hx hb dX3_gathered_64 (lv_at hl 8 rfl) ?_
              refine lv_iload hx hb dX3_gathered_66 (lv_at hl 7 rfl) ?_
              refine lv_isub hx hb dX3_gathered_68 ?_
              refine va_getsN (C := "HarpPedals$Settings") (v := .ref (q 40)) hx hb hE.2.2.1.1 hS hown (va_Nw.use rfl (hE.1.1 _ (List.mem_of_getElem? (l := cNF) (i := 18) rfl))) (fun _ h9 => h9) dX3_gathered_69 ?_
              refine lv_iload hx hb dX3_gathered_72 (lv_at hl 6 rfl) ?_
              refine va_ti (v := .int (tabW (x6).toNatClampNeg)) hx hb hE.2.2.1.2 hS h.1 rfl dX3_gathered_74 ?_
              have h := h.2
              refine lv_imul hx hb dX3_gathered_75 ?_
              refine lv_iadd hx hb dX3_gathered_76 ?_
              refine va_iald (D := D) hx hb hK hP x1 0 (cRow hx1) rfl h.1 dX3_gathered_77 ?_
              have h := h.2
              refine lv_topi (fun v11 ev11 => ?_)
              have h := h v11 ev11
              refine lv_istore (lv' := [(9, .int v11), (0, .ref (q 9)), (1, .ref (q x1)), (2, .int x2), (3, .int x3), (4, .int x4), (5, .int x5), (6, .int x6), (7, .int x7), (8, .int x8)]) hx hb dX3_gathered_78 hl (by decide) rfl (fun ls hl => ?_)
              refine lv_iload hx hb dX3_gathered_80 (lv_at hl 0 rfl) ?_
              refine lv_ldc (v := (1073741824 : Int32)) hx hb hown (hts _ (List.mem_of_getElem? (l := wsX3_gathered) (i := 2) rfl)) dX3_gathered_82 ?_
              refine lv_icmp_eq (tgt := 99) hx hb dX3_gathered_84 (by decide) (fun c12 => ?_) (fun c12 => ?_)
              · have h := h.1 c12
                refine lv_iinc (v := (x8 + (1 : Int32))) (lv' := [(8, .int (x8 + (1 : Int32))), (9, .int v11), (0, .ref (q 9)), (1, .ref (q x1)), (2, .int x2), (3, .int x3), (4, .int x4), (5, .int x5), (6, .int x6), (7, .int x7)]) hx hb dX3_gathered_99 hl (k := 9) rfl rfl (by decide) rfl (fun ls hl => ?_)
                refine lv_goto (tgt := 25) hx hb dX3_gathered_102 (by decide) ?_
                exact ih x1 x2 x3 x4 x6 x7 _ x5 (x8 + (1 : Int32)) _ _ _ hx1 hP hS (lv_sub hl [2, 3, 4, 5, 6, 7, 8, 9, 0] rfl) h K
              · have h := h.2 c12
                refine lv_iload hx hb dX3_gathered_87 (lv_at hl 6 rfl) ?_
                refine lv_iload hx hb dX3_gathered_89 (lv_at hl 0 rfl) ?_
                refine lv_ldc (v := (1048576 : Int32)) hx hb hown (hts _ (List.mem_of_getElem? (l := wsX3_gathered) (i := 3) rfl)) dX3_gathered_91 ?_
                refine lv_iadd hx hb dX3_gathered_93 ?_
                refine gCallI (D := D) (va_runS (As := [.int x5, .int (v11 + (1048576 : Int32))]) (rest := []) ⟨hx, hb, hml, hown, hts⟩ (c_X3_joined l D q cI cO hq x5 (v11 + (1048576 : Int32))  I F _ h) (va_cwS 2 hts gX3_gathered_X3_joined rfl rfl rfl (by decide +kernel) ⟨Nat.le_trans (Nat.le_of_ble_eq_true rfl) hRf, Nat.le_trans (Nat.le_of_ble_eq_true rfl) hRl⟩) (gPreS cEok hE hK hP hS) rfl rfl hl.1 rfl (lv_room (Nat.le_of_ble_eq_true rfl)) dX3_gathered_94 ⟨Nat.zero_le _, Nat.zero_le _⟩) hS (fun r13 _ H locs hP hS h => ?_)
                have hP : va_P D vwCl (cW q cI cO I F) H := hP
                refine lv_istore (lv' := [(5, .int r13), (9, .int v11), (0, .ref (q 9)), (1, .ref (q x1)), (2, .int x2), (3, .int x3), (4, .int x4), (6, .int x6), (7, .int x7), (8, .int x8)]) hx hb dX3_gathered_97 hl (by decide) rfl (fun ls hl => ?_)
                refine lv_iinc (v := (x8 + (1 : Int32))) (lv' := [(8, .int (x8 + (1 : Int32))), (5, .int r13), (9, .int v11), (0, .ref (q 9)), (1, .ref (q x1)), (2, .int x2), (3, .int x3), (4, .int x4), (6, .int x6), (7, .int x7)]) hx hb dX3_gathered_99 hl (k := 9) rfl rfl (by decide) rfl (fun ls hl => ?_)
                refine lv_goto (tgt := 25) hx hb dX3_gathered_102 (by decide) ?_
                exact ih x1 x2 x3 x4 x6 x7 _ r13 (x8 + (1 : Int32)) _ _ _ hx1 hP hS (lv_sub hl [3, 4, 5, 6, 7, 1, 8, 9, 0] rfl) h K
  have L8 : ∀ (n : Nat) (x1 : Nat) (x2 : Int32) (x3 : Int32) (x4 : Int32) (k : Int32 → Int32 → Prop) (x5 : Int32) (x6 : Int32) (H : Heap) (locs : List Loc) (ls : Array Slot), 28 ≤ x1 ∧ x1 < 39 → va_P D vwCl (cW q cI cO I F) H → va_S (cA q) s.heap H locs → lv_has ls 10 [(0, .ref (q 9)), (1, .ref (q x1)), (2, .int x2), (3, .int x3), (4, .int x4), (5, .int x5), (6, .int x6)] → gLN (fun ag v => w_X3_gathered_9_r_B8 x1 x2 x3 x4 I F k (fun b0 b1 => ag (b0, b1)) v.1 v.2) n (x5, x6) → (∀ (x5 : Int32) (x6 : Int32) (H : Heap) (locs : List Loc) (ls : Array Slot), va_P D vwCl (cW q cI cO I F) H → va_S (cA q) s.heap H locs → lv_has ls 10 [(5, .int x5)] → k x5 x6 → W p l e R s m args below meth c H locs 0 0 Q (F0 m 111 ls [])) → W p l e R s m args below meth c H locs 0 0 Q (F0 m 8 ls []) := by
    intro n
    induction n with
    | zero =>
      intro x1 x2 x3 x4 k x5 x6 H locs ls hx1 hP hS hl h K
      exact False.elim h
    | succ n ih =>
      intro x1 x2 x3 x4 k x5 x6 H locs ls hx1 hP hS hl h K
      have h : w_X3_gathered_9_r_B8 x1 x2 x3 x4 I F k (fun b0 b1 => gLN (fun ag v => w_X3_gathered_9_r_B8 x1 x2 x3 x4 I F k (fun b0 b1 => ag (b0, b1)) v.1 v.2) n (b0, b1)) x5 x6 := h
      refine lv_iload hx hb dX3_gathered_8 (lv_at hl 6 rfl) ?_
      refine lv_iload_n hx hb dX3_gathered_10 rfl (lv_at hl 3 rfl) ?_
      refine lv_icmp_ge (tgt := 111) hx hb dX3_gathered_11 (by decide) (fun c14 => ?_) (fun c14 => ?_)
      · have h := h.1 c14
        exact K x5 x6 _ _ _  hP hS (lv_sub hl [5] rfl) h
      · have h := h.2 c14
        refine lv_iload_n hx hb dX3_gathered_14 rfl (lv_at hl 2 rfl) ?_
        refine lv_iload hx hb dX3_gathered_15 (lv_at hl 6 rfl) ?_
        refine gCallI (D := D) (va_runS (As := [.int x2, .int x6]) (rest := []) ⟨hx, hb, hml, hown, hts⟩ (c_X7_positionAt l D q cI cO hq x2 x6  I F _ h) (va_cwS 2 hts gX3_gathered_X7_positionAt rfl rfl rfl (by decide +kernel) ⟨Nat.le_trans (Nat.le_of_ble_eq_true rfl) hRf, Nat.le_trans (Nat.le_of_ble_eq_true rfl) hRl⟩) (gPreS cEok hE hK hP hS) rfl rfl hl.1 rfl (lv_room (Nat.le_of_ble_eq_true rfl)) dX3_gathered_17 ⟨Nat.zero_le _, Nat.zero_le _⟩) hS (fun r15 _ H locs hP hS h => ?_)
        have hP : va_P D vwCl (cW q cI cO I F) H := hP
        refine lv_istore (lv' := [(7, .int r15), (0, .ref (q 9)), (1, .ref (q x1)), (2, .int x2), (3, .int x3), (4, .int x4), (5, .int x5), (6, .int x6)]) hx hb dX3_gathered_20 hl (by decide) rfl (fun ls hl => ?_)
        refine lv_iconst (v := (0 : Int32)) hx hb dX3_gathered_22 (by decide) ?_
        refine lv_istore (lv' := [(8, .int (0 : Int32)), (7, .int r15), (0, .ref (q 9)), (1, .ref (q x1)), (2, .int x2), (3, .int x3), (4, .int x4), (5, .int x5), (6, .int x6)]) hx hb dX3_gathered_23 hl (by decide) rfl (fun ls hl => ?_)
        obtain ⟨n, h⟩ := h
        refine L25 n x1 x2 x3 x4 x6 r15 _ x5 (0 : Int32) _ _ _ hx1 hP hS (lv_sub hl [2, 3, 4, 5, 6, 7, 8, 1, 0] rfl) h (fun y16 y17 H locs ls  hP hS hl h => ?_)
        refine lv_iinc (v := (x6 + (1 : Int32))) (lv' := [(6, .int (x6 + (1 : Int32))), (0, .ref (q 9)), (1, .ref (q x1)), (2, .int x2), (3, .int x3), (4, .int x4), (5, .int y16)]) hx hb dX3_gathered_105 hl (k := 6) rfl rfl (by decide) rfl (fun ls hl => ?_)
        refine lv_goto (tgt := 8) hx hb dX3_gathered_108 (by decide) ?_
        exact ih x1 x2 x3 x4 _ y16 (x6 + (1 : Int32)) _ _ _ hx1 hP hS (lv_sub hl [1, 2, 3, 4, 5, 6, 0] rfl) h K
  refine lv_aload_n hx hb dX3_gathered_0 rfl (lv_at hl 1 rfl) ?_
  refine lv_iload_n hx hb dX3_gathered_1 rfl (lv_at hl 2 rfl) ?_
  refine va_iald (D := D) hx hb hK hP r2 0 (cRow hr2) rfl h.1 dX3_gathered_2 ?_
  have h := h.2
  refine lv_topi (fun v18 ev18 => ?_)
  have h := h v18 ev18
  refine lv_istore (lv' := [(5, .int v18), (0, .ref (q 9)), (1, .ref (q r2)), (2, .int a2), (3, .int a3), (4, .int a4)]) hx hb dX3_gathered_3 hl (by decide) rfl (fun ls hl => ?_)
  refine lv_iconst (v := (0 : Int32)) hx hb dX3_gathered_5 (by decide) ?_
  refine lv_istore (lv' := [(6, .int (0 : Int32)), (5, .int v18), (0, .ref (q 9)), (1, .ref (q r2)), (2, .int a2), (3, .int a3), (4, .int a4)]) hx hb dX3_gathered_6 hl (by decide) rfl (fun ls hl => ?_)
  obtain ⟨n, h⟩ := h
  refine L8 n r2 a2 a3 a4 _ v18 (0 : Int32) _ _ _ hr2 hP hS (lv_sub hl [2, 3, 4, 5, 6, 1, 0] rfl) h (fun y19 y20 H locs ls  hP hS hl h => ?_)
  refine lv_iload hx hb dX3_gathered_111 (lv_at hl 0 rfl) ?_
  exact hret y19 () _ _ _ _ dX3_gathered_113 hP hS h
