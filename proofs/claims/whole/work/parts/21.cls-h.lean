def w_X8_see (a1 : Int32) (a2 : Int32) (a3 : Int32) (I : Nat → Int32) (F : Nat → Nat → Int32) (post : Int32 → (Nat → Int32) → (Nat → Nat → Int32) → Prop) : Prop :=
  w_X2_has_4 a1 I F (fun (r1 : Int32) => ((¬ r1 = 0 → ((a2 < 0 → post (-102 : Int32) I F) ∧ (¬ a2 < 0 → ((a2 < (4 : Int32) → w_X6_add_6 a1 a2 a3 I F (fun (r5 : Int32) (I6 : Nat → Int32) (F7 : Nat → Nat → Int32) => ((r5 = 0 → post (-104 : Int32) I6 F7) ∧ (¬ r5 = 0 → post (I6 11) I6 F7)))) ∧ (¬ a2 < (4 : Int32) → post (-102 : Int32) I F))))) ∧ (r1 = 0 → post (-101 : Int32) I F)))
set_option maxHeartbeats 4000000 in
set_option maxRecDepth 100000 in
theorem c_X8_see (l : Launch) (D : va_G) (q : Nat → Nat) (cI cO : ClassId) (hq : cOk q) (a1 : Int32) (a2 : Int32) (a3 : Int32)  (I : Nat → Int32) (F : Nat → Nat → Int32) (post : Int32 → (Nat → Int32) → (Nat → Nat → Int32) → Prop) (h : w_X8_see a1 a2 a3 I F post) : Met l yX8_see wsX8_see ({ frames := 1, cells := 0, slots := 0, locals := 24 } : Room) (gPre D (cTys cI cO) (cW q cI cO I F) (cEnv q) [.ref (q 0), .int a1, .int a2, .int a3]) (va_Qi (fun r (u : cS) => post r u.1 u.2) (gB D (fun u : cS => cW q cI cO u.1 u.2)) (cA q)) 0 0 (cA q) := by
  refine gMetI (by decide) rfl (Nat.le_of_ble_eq_true rfl) ?_
  intro p e R s m args below meth c Q ls hR hx hb hml hown hts hK hE hP hl hret
  have hRf : 1 ≤ R.frames := by subst hR; exact Nat.le_refl _
  have hRl : 24 ≤ R.locals := by subst hR; exact Nat.le_refl _
  have hown : s.vm.findClass RX8 = some m.cls := hown
  have hl : lv_has ls 4 [(0, .ref (q 0)), (1, .int a1), (2, .int a2), (3, .int a3)] := hl
  have hS : va_S (cA q) s.heap s.heap [] := va_S.rf
  have hP : va_P D vwCl (cW q cI cO I F) s.heap := hP
  refine lv_aload_n hx hb dX8_see_0 rfl (lv_at hl 0 rfl) ?_
  refine va_get (D := D) (ci := 8) (v := .ref (q 4)) (C := RX8) (T := TX8) (N := 11) hx hb hts (fun _ h9 => List.mem_cons_of_mem _ (List.mem_append_left _ (List.mem_append_left _ (List.mem_append_right _ h9)))) hown hK hP 0 cAt0 rfl 2 (by decide) (hts _ (List.mem_of_getElem? (l := wsX8_see) (i := 1) rfl)) (fun _ h9 => h9) rfl dX8_see_1 ?_
  refine lv_iload_n hx hb dX8_see_4 rfl (lv_at hl 1 rfl) ?_
  refine gCallI (D := D) (va_runV (As := [.int a1]) (rest := []) ⟨hx, hb, hml, hown, hts⟩ (c_X2_has_4 l D q cI cO hq a1  I F _ h) (cwV 1 hts gX8_see_X2_has rfl rfl rfl (by decide +kernel) ⟨Nat.le_trans (Nat.le_of_ble_eq_true rfl) hRf, Nat.le_trans (Nat.le_of_ble_eq_true rfl) hRl⟩) (gPreV (ci := 2) (q0 := 4) cEok hE hK hP hS rfl cAt4) rfl rfl hl.1 rfl (lv_room (Nat.le_of_ble_eq_true rfl)) dX8_see_5 ⟨Nat.zero_le _, Nat.zero_le _⟩) hS (fun r1 _ H locs hP hS h => ?_)
  have hP : va_P D vwCl (cW q cI cO I F) H := hP
  refine lv_if_ne (tgt := 14) hx hb dX8_see_8 (by decide) (fun c2 => ?_) (fun c2 => ?_)
  · have h := h.1 c2
    refine lv_iload_n hx hb dX8_see_14 rfl (lv_at hl 2 rfl) ?_
    refine lv_if_lt (tgt := 23) hx hb dX8_see_15 (by decide) (fun c3 => ?_) (fun c3 => ?_)
    · have h := h.1 c3
      refine lv_bipush (v := (-102 : Int32)) hx hb dX8_see_23 (by decide) ?_
      exact hret (-102 : Int32) (I, F) _ _ _ _ dX8_see_25 hP hS h
    · have h := h.2 c3
      refine lv_iload_n hx hb dX8_see_18 rfl (lv_at hl 2 rfl) ?_
      refine lv_iconst (v := (4 : Int32)) hx hb dX8_see_19 (by decide) ?_
      refine lv_icmp_lt (tgt := 26) hx hb dX8_see_20 (by decide) (fun c4 => ?_) (fun c4 => ?_)
      · have h := h.1 c4
        refine lv_aload_n hx hb dX8_see_26 rfl (lv_at hl 0 rfl) ?_
        refine va_get (D := D) (ci := 8) (v := .ref (q 6)) (C := RX8) (T := TX8) (N := 11) hx hb hts (fun _ h9 => List.mem_cons_of_mem _ (List.mem_append_left _ (List.mem_append_left _ (List.mem_append_right _ h9)))) hown hK hP 0 cAt0 rfl 4 (by decide) (hts _ (List.mem_of_getElem? (l := wsX8_see) (i := 2) rfl)) (fun _ h9 => h9) rfl dX8_see_27 ?_
        refine lv_iload_n hx hb dX8_see_30 rfl (lv_at hl 1 rfl) ?_
        refine lv_iload_n hx hb dX8_see_31 rfl (lv_at hl 2 rfl) ?_
        refine lv_iload_n hx hb dX8_see_32 rfl (lv_at hl 3 rfl) ?_
        refine gCallI (D := D) (va_runV (As := [.int a1, .int a2, .int a3]) (rest := []) ⟨hx, hb, hml, hown, hts⟩ (c_X6_add_6 l D q cI cO hq a1 a2 a3  I F _ h) (cwV 3 hts gX8_see_X6_add rfl rfl rfl (by decide +kernel) ⟨Nat.le_trans (Nat.le_of_ble_eq_true rfl) hRf, Nat.le_trans (Nat.le_of_ble_eq_true rfl) hRl⟩) (gPreV (ci := 6) (q0 := 6) cEok hE hK hP hS rfl cAt6) rfl rfl hl.1 rfl (lv_room (Nat.le_of_ble_eq_true rfl)) dX8_see_33 ⟨Nat.zero_le _, Nat.zero_le _⟩) hS (fun r5 u H locs hP hS h => ?_)
        obtain ⟨I6, F7⟩ := u
        have hP : va_P D vwCl (cW q cI cO I6 F7) H := hP
        refine lv_if_eq (tgt := 49) hx hb dX8_see_36 (by decide) (fun c8 => ?_) (fun c8 => ?_)
        · have h := h.1 c8
          refine lv_bipush (v := (-104 : Int32)) hx hb dX8_see_49 (by decide) ?_
          exact hret (-104 : Int32) (I6, F7) _ _ _ _ dX8_see_51 hP hS h
        · have h := h.2 c8
          refine lv_aload_n hx hb dX8_see_39 rfl (lv_at hl 0 rfl) ?_
          refine va_get (D := D) (ci := 8) (v := .ref (q 6)) (C := RX8) (T := TX8) (N := 11) hx hb hts (fun _ h9 => List.mem_cons_of_mem _ (List.mem_append_left _ (List.mem_append_left _ (List.mem_append_right _ h9)))) hown hK hP 0 cAt0 rfl 4 (by decide) (hts _ (List.mem_of_getElem? (l := wsX8_see) (i := 2) rfl)) (fun _ h9 => h9) rfl dX8_see_40 ?_
          refine va_getN (D := D) (ci := 6) (v := .int (I6 11)) (C := RX6) (T := TX6) (N := 3) hx hb hts (fun _ h9 => List.mem_cons_of_mem _ (List.mem_append_left _ (List.mem_append_right _ h9))) hown hK hP 6 cAt6 rfl 0 (by decide) (va_Nw.use rfl (hE.1.1 _ (List.mem_of_getElem? (l := cNF) (i := 13) rfl))) (fun _ h9 => h9) rfl dX8_see_43 ?_
          refine lv_goto (tgt := 51) hx hb dX8_see_46 (by decide) ?_
          exact hret (I6 11) (I6, F7) _ _ _ _ dX8_see_51 hP hS h
      · have h := h.2 c4
        refine lv_bipush (v := (-102 : Int32)) hx hb dX8_see_23 (by decide) ?_
        exact hret (-102 : Int32) (I, F) _ _ _ _ dX8_see_25 hP hS h
  · have h := h.2 c2
    refine lv_bipush (v := (-101 : Int32)) hx hb dX8_see_11 (by decide) ?_
    exact hret (-101 : Int32) (I, F) _ _ _ _ dX8_see_13 hP hS h
def w_X8_forget  (I : Nat → Int32) (F : Nat → Nat → Int32) (post : Int32 → (Nat → Int32) → (Nat → Nat → Int32) → Prop) : Prop :=
  w_X6_clear_6 I F (fun (r1 : Int32) (I2 : Nat → Int32) (F3 : Nat → Nat → Int32) => post r1 I2 F3)
set_option maxHeartbeats 4000000 in
set_option maxRecDepth 100000 in
theorem c_X8_forget (l : Launch) (D : va_G) (q : Nat → Nat) (cI cO : ClassId) (hq : cOk q)   (I : Nat → Int32) (F : Nat → Nat → Int32) (post : Int32 → (Nat → Int32) → (Nat → Nat → Int32) → Prop) (h : w_X8_forget  I F post) : Met l yX8_forget wsX8_forget ({ frames := 1, cells := 0, slots := 0, locals := 21 } : Room) (gPre D (cTys cI cO) (cW q cI cO I F) (cEnv q) [.ref (q 0)]) (va_Qi (fun r (u : cS) => post r u.1 u.2) (gB D (fun u : cS => cW q cI cO u.1 u.2)) (cA q)) 0 0 (cA q) := by
  refine gMetI (by decide) rfl (Nat.le_of_ble_eq_true rfl) ?_
  intro p e R s m args below meth c Q ls hR hx hb hml hown hts hK hE hP hl hret
  have hRf : 1 ≤ R.frames := by subst hR; exact Nat.le_refl _
  have hRl : 21 ≤ R.locals := by subst hR; exact Nat.le_refl _
  have hown : s.vm.findClass RX8 = some m.cls := hown
  have hl : lv_has ls 1 [(0, .ref (q 0))] := hl
  have hS : va_S (cA q) s.heap s.heap [] := va_S.rf
  have hP : va_P D vwCl (cW q cI cO I F) s.heap := hP
  refine lv_aload_n hx hb dX8_forget_0 rfl (lv_at hl 0 rfl) ?_
  refine va_get (D := D) (ci := 8) (v := .ref (q 6)) (C := RX8) (T := TX8) (N := 11) hx hb hts (fun _ h9 => List.mem_cons_of_mem _ (List.mem_append_left _ (List.mem_append_right _ h9))) hown hK hP 0 cAt0 rfl 4 (by decide) (hts _ (List.mem_of_getElem? (l := wsX8_forget) (i := 1) rfl)) (fun _ h9 => h9) rfl dX8_forget_1 ?_
  refine gCallI (D := D) (va_runV (As := []) (rest := []) ⟨hx, hb, hml, hown, hts⟩ (c_X6_clear_6 l D q cI cO hq   I F _ h) (cwV 0 hts gX8_forget_X6_clear rfl rfl rfl (by decide +kernel) ⟨Nat.le_trans (Nat.le_of_ble_eq_true rfl) hRf, Nat.le_trans (Nat.le_of_ble_eq_true rfl) hRl⟩) (gPreV (ci := 6) (q0 := 6) cEok hE hK hP hS rfl cAt6) rfl rfl hl.1 rfl (lv_room (Nat.le_of_ble_eq_true rfl)) dX8_forget_4 ⟨Nat.zero_le _, Nat.zero_le _⟩) hS (fun r1 u H locs hP hS h => ?_)
  obtain ⟨I2, F3⟩ := u
  have hP : va_P D vwCl (cW q cI cO I2 F3) H := hP
  exact hret r1 (I2, F3) _ _ _ _ dX8_forget_7 hP hS h
def w_X4_nextDraw_11  (I : Nat → Int32) (F : Nat → Nat → Int32) (post : Int32 → (Nat → Int32) → (Nat → Nat → Int32) → Prop) : Prop :=
  ∀ I1 : Nat → Int32, I1 = upd I 19 ((((((1103515245 : Int64) * (((I 19)).toInt64)) + (12345 : Int64)) &&& (2147483647 : Int64))).toInt32) → post ((I1 19) / (65536 : Int32)) I1 F
set_option maxHeartbeats 4000000 in
set_option maxRecDepth 100000 in
theorem c_X4_nextDraw_11 (l : Launch) (D : va_G) (q : Nat → Nat) (cI cO : ClassId) (hq : cOk q)   (I : Nat → Int32) (F : Nat → Nat → Int32) (post : Int32 → (Nat → Int32) → (Nat → Nat → Int32) → Prop) (h : w_X4_nextDraw_11  I F post) : Met l yX4_nextDraw wsX4_nextDraw ({ frames := 0, cells := 0, slots := 0, locals := 0 } : Room) (gPre D (cTys cI cO) (cW q cI cO I F) (cEnv q) [.ref (q 11)]) (va_Qi (fun r (u : cS) => post r u.1 u.2) (gB D (fun u : cS => cW q cI cO u.1 u.2)) (cA q)) 0 0 (cA q) := by
  refine gMetI (by decide) rfl (Nat.le_of_ble_eq_true rfl) ?_
  intro p e R s m args below meth c Q ls hR hx hb hml hown hts hK hE hP hl hret
  have hRf : 0 ≤ R.frames := by subst hR; exact Nat.le_refl _
  have hRl : 0 ≤ R.locals := by subst hR; exact Nat.le_refl _
  have hown : s.vm.findClass RX4 = some m.cls := hown
  have hl : lv_has ls 1 [(0, .ref (q 11))] := hl
  have hS : va_S (cA q) s.heap s.heap [] := va_S.rf
  have hP : va_P D vwCl (cW q cI cO I F) s.heap := hP
  refine lv_aload_n hx hb dX4_nextDraw_0 rfl (lv_at hl 0 rfl) ?_
  refine lv_ldc2 (v := (1103515245 : Int64)) hx hb hown (hts _ (List.mem_of_getElem? (l := wsX4_nextDraw) (i := 1) rfl)) dX4_nextDraw_1 ?_
  refine lv_aload_n hx hb dX4_nextDraw_4 rfl (lv_at hl 0 rfl) ?_
  refine va_get (D := D) (ci := 4) (v := .int (I 19)) (C := RX4) (T := TX4) (N := 6) hx hb hts (fun _ h9 => List.mem_cons_of_mem _ (List.mem_append_right _ h9)) hown hK hP 11 cAt11 rfl 2 (by decide) (hts _ (List.mem_of_getElem? (l := wsX4_nextDraw) (i := 2) rfl)) (fun _ h9 => h9) rfl dX4_nextDraw_5 ?_
  refine lv_i2l (v := ((I 19)).toInt64) hx hb dX4_nextDraw_8 rfl ?_
  refine lv_lmul hx hb dX4_nextDraw_9 ?_
  refine lv_ldc2 (v := (12345 : Int64)) hx hb hown (hts _ (List.mem_of_getElem? (l := wsX4_nextDraw) (i := 3) rfl)) dX4_nextDraw_10 ?_
  refine lv_ladd hx hb dX4_nextDraw_13 ?_
  refine lv_ldc2 (v := (2147483647 : Int64)) hx hb hown (hts _ (List.mem_of_getElem? (l := wsX4_nextDraw) (i := 4) rfl)) dX4_nextDraw_14 ?_
  refine lv_land hx hb dX4_nextDraw_17 ?_
  refine lv_l2i (v := (((((1103515245 : Int64) * (((I 19)).toInt64)) + (12345 : Int64)) &&& (2147483647 : Int64))).toInt32) hx hb dX4_nextDraw_18 rfl ?_
  refine gPut (D := D) (ci := 4) (ty := .int) (C := RX4) (T := TX4) (N := 6) hx hb hts (fun _ h9 => List.mem_cons_of_mem _ (List.mem_append_right _ h9)) tyX4 tyX4_ok nmX4 hown hK hP (cD hq) hS 11 cAt11 rfl 2 (by decide) (hts _ (List.mem_of_getElem? (l := wsX4_nextDraw) (i := 2) rfl)) (fun _ h9 => h9) rfl (by decide +kernel) rfl rfl (Nat.le_of_ble_eq_true rfl) dX4_nextDraw_19 (cSet19 ((((((1103515245 : Int64) * (((I 19)).toInt64)) + (12345 : Int64)) &&& (2147483647 : Int64))).toInt32)) (fun H locs hP hS => ?_)
  obtain ⟨I1, eI1⟩ : ∃ z : Nat → Int32, z = upd I 19 ((((((1103515245 : Int64) * (((I 19)).toInt64)) + (12345 : Int64)) &&& (2147483647 : Int64))).toInt32) := ⟨_, rfl⟩
  rw [← eI1] at hP
  have h := h I1 eI1
  refine lv_aload_n hx hb dX4_nextDraw_22 rfl (lv_at hl 0 rfl) ?_
  refine va_get (D := D) (ci := 4) (v := .int (I1 19)) (C := RX4) (T := TX4) (N := 6) hx hb hts (fun _ h9 => List.mem_cons_of_mem _ (List.mem_append_right _ h9)) hown hK hP 11 cAt11 rfl 2 (by decide) (hts _ (List.mem_of_getElem? (l := wsX4_nextDraw) (i := 2) rfl)) (fun _ h9 => h9) rfl dX4_nextDraw_23 ?_
  refine lv_ldc (v := (65536 : Int32)) hx hb hown (hts _ (List.mem_of_getElem? (l := wsX4_nextDraw) (i := 5) rfl)) dX4_nextDraw_26 ?_
  refine lv_idiv hx hb dX4_nextDraw_28 (by decide) ?_
  exact hret ((I1 19) / (65536 : Int32)) (I1, F) _ _ _ _ dX4_nextDraw_29 hP hS h
def w_X0_holds_12 (a1 : Int32) (a2 : Int32) (I : Nat → Int32) (F : Nat → Nat → Int32) (post : Int32 → Prop) : Prop :=
  (((((I 24) >>> (((a1 * (3 : Int32)) + a2) &&& 31)) &&& (1 : Int32)) = 0 → post (0 : Int32)) ∧ (¬ (((I 24) >>> (((a1 * (3 : Int32)) + a2) &&& 31)) &&& (1 : Int32)) = 0 → post (1 : Int32)))
set_option maxHeartbeats 4000000 in
set_option maxRecDepth 100000 in
theorem c_X0_holds_12 (l : Launch) (D : va_G) (q : Nat → Nat) (cI cO : ClassId) (hq : cOk q) (a1 : Int32) (a2 : Int32)  (I : Nat → Int32) (F : Nat → Nat → Int32) (post : Int32 → Prop) (h : w_X0_holds_12 a1 a2 I F post) : Met l yX0_holds wsX0_holds ({ frames := 0, cells := 0, slots := 0, locals := 0 } : Room) (gPre D (cTys cI cO) (cW q cI cO I F) (cEnv q) [.ref (q 12), .int a1, .int a2]) (va_Qi (fun r (_ : Unit) => post r) (gB D (fun _ : Unit => cW q cI cO I F)) (cA q)) 0 0 (cA q) := by
  refine gMetZ (by decide) rfl (Nat.le_of_ble_eq_true rfl) ?_
  intro p e R s m args below meth c Q ls hR hx hb hml hown hts hK hE hP hl hret
  have hRf : 0 ≤ R.frames := by subst hR; exact Nat.le_refl _
  have hRl : 0 ≤ R.locals := by subst hR; exact Nat.le_refl _
  have hown : s.vm.findClass RX0 = some m.cls := hown
  have hl : lv_has ls 3 [(0, .ref (q 12)), (1, .int a1), (2, .int a2)] := hl
  have hS : va_S (cA q) s.heap s.heap [] := va_S.rf
  have hP : va_P D vwCl (cW q cI cO I F) s.heap := hP
  refine lv_aload_n hx hb dX0_holds_0 rfl (lv_at hl 0 rfl) ?_
  refine va_get (D := D) (ci := 0) (v := .int (I 24)) (C := RX0) (T := TX0) (N := 2) hx hb hts (fun _ h9 => List.mem_cons_of_mem _ (List.mem_append_right _ h9)) hown hK hP 12 cAt12 rfl 1 (by decide) (hts _ (List.mem_of_getElem? (l := wsX0_holds) (i := 1) rfl)) (fun _ h9 => h9) rfl dX0_holds_1 ?_
  refine lv_iload_n hx hb dX0_holds_4 rfl (lv_at hl 1 rfl) ?_
  refine lv_iconst (v := (3 : Int32)) hx hb dX0_holds_5 (by decide) ?_
  refine lv_imul hx hb dX0_holds_6 ?_
  refine lv_iload_n hx hb dX0_holds_7 rfl (lv_at hl 2 rfl) ?_
  refine lv_iadd hx hb dX0_holds_8 ?_
  refine lv_ishr hx hb dX0_holds_9 ?_
  refine lv_iconst (v := (1 : Int32)) hx hb dX0_holds_10 (by decide) ?_
  refine lv_iand hx hb dX0_holds_11 ?_
  refine lv_if_eq (tgt := 19) hx hb dX0_holds_12 (by decide) (fun c1 => ?_) (fun c1 => ?_)
  · have h := h.1 c1
    refine lv_iconst (v := (0 : Int32)) hx hb dX0_holds_19 (by decide) ?_
    exact hret (0 : Int32) () _ _ _ _ dX0_holds_20 hP hS (by decide) h
  · have h := h.2 c1
    refine lv_iconst (v := (1 : Int32)) hx hb dX0_holds_15 (by decide) ?_
    refine lv_goto (tgt := 20) hx hb dX0_holds_16 (by decide) ?_
    exact hret (1 : Int32) () _ _ _ _ dX0_holds_20 hP hS (by decide) h
def w_X0_movesBetween_12_B8 (x1 : Int32) (x2 : Int32) (I : Nat → Int32) (F : Nat → Nat → Int32) (post : Int32 → Prop) (k again : Int32 → Int32 → Int32 → Prop) (x3 : Int32) (x4 : Int32) (x5 : Int32) : Prop :=
  (((7 : Int32) ≤ x5 → k x3 x4 x5) ∧ (¬ (7 : Int32) ≤ x5 → w_X7_positionAt x1 x5 I F (fun (r2 : Int32) => w_X7_positionAt x2 x5 I F (fun (r3 : Int32) => ((r2 = r3 → again x3 x4 (x5 + (1 : Int32))) ∧ (¬ r2 = r3 → w_X0_holds_12 x5 r2 I F (fun (r5 : Int32) => ((r5 = 0 → (((3 : Int32) ≤ x5 → (((1 : Int32) < x3 → post (-1 : Int32)) ∧ (¬ (1 : Int32) < x3 → (((x4 + (1 : Int32)) ≤ (1 : Int32) → again x3 (x4 + (1 : Int32)) (x5 + (1 : Int32))) ∧ (¬ (x4 + (1 : Int32)) ≤ (1 : Int32) → post (-1 : Int32)))))) ∧ (¬ (3 : Int32) ≤ x5 → (((1 : Int32) < (x3 + (1 : Int32)) → post (-1 : Int32)) ∧ (¬ (1 : Int32) < (x3 + (1 : Int32)) → ((x4 ≤ (1 : Int32) → again (x3 + (1 : Int32)) x4 (x5 + (1 : Int32))) ∧ (¬ x4 ≤ (1 : Int32) → post (-1 : Int32)))))))) ∧ (¬ r5 = 0 → post (-1 : Int32))))))))))
def w_X0_movesBetween_12 (a1 : Int32) (a2 : Int32) (I : Nat → Int32) (F : Nat → Nat → Int32) (post : Int32 → Prop) : Prop :=
  gL (fun ag v => w_X0_movesBetween_12_B8 a1 a2 I F post (fun (y12 : Int32) (y13 : Int32) (y14 : Int32) => (((I 23) < (y12 + y13) → post (-1 : Int32)) ∧ (¬ (I 23) < (y12 + y13) → post (y12 + y13)))) (fun b0 b1 b2 => ag (b0, b1, b2)) v.1 v.2.1 v.2.2) ((0 : Int32), (0 : Int32), (0 : Int32))
set_option maxHeartbeats 4000000 in
set_option maxRecDepth 100000 in
theorem c_X0_movesBetween_12 (l : Launch) (D : va_G) (q : Nat → Nat) (cI cO : ClassId) (hq : cOk q) (a1 : Int32) (a2 : Int32)  (I : Nat → Int32) (F : Nat → Nat → Int32) (post : Int32 → Prop) (h : w_X0_movesBetween_12 a1 a2 I F post) : Met l yX0_movesBetween wsX0_movesBetween ({ frames := 1, cells := 0, slots := 0, locals := 22 } : Room) (gPre D (cTys cI cO) (cW q cI cO I F) (cEnv q) [.ref (q 12), .int a1, .int a2]) (va_Qi (fun r (_ : Unit) => post r) (gB D (fun _ : Unit => cW q cI cO I F)) (cA q)) 0 0 (cA q) := by
  refine gMetI (by decide) rfl (Nat.le_of_ble_eq_true rfl) ?_
  intro p e R s m args below meth c Q ls hR hx hb hml hown hts hK hE hP hl hret
  have hRf : 1 ≤ R.frames := by subst hR; exact Nat.le_refl _
  have hRl : 22 ≤ R.locals := by subst hR; exact Nat.le_refl _
  have hown : s.vm.findClass RX0 = some m.cls := hown
  have hl : lv_has ls 7 [(0, .ref (q 12)), (1, .int a1), (2, .int a2)] := hl
  have hS : va_S (cA q) s.heap s.heap [] := va_S.rf
  have hP : va_P D vwCl (cW q cI cO I F) s.heap := hP
  have L8 : ∀ (n : Nat) (x1 : Int32) (x2 : Int32) (k : Int32 → Int32 → Int32 → Prop) (x3 : Int32) (x4 : Int32) (x5 : Int32) (H : Heap) (locs : List Loc) (ls : Array Slot), va_P D vwCl (cW q cI cO I F) H → va_S (cA q) s.heap H locs → lv_has ls 7 [(0, .ref (q 12)), (1, .int x1), (2, .int x2), (3, .int x3), (4, .int x4), (5, .int x5)] → gLN (fun ag v => w_X0_movesBetween_12_B8 x1 x2 I F post k (fun b0 b1 b2 => ag (b0, b1, b2)) v.1 v.2.1 v.2.2) n (x3, x4, x5) → (∀ (x3 : Int32) (x4 : Int32) (x5 : Int32) (H : Heap) (locs : List Loc) (ls : Array Slot), va_P D vwCl (cW q cI cO I F) H → va_S (cA q) s.heap H locs → lv_has ls 7 [(0, .ref (q 12)), (3, .int x3), (4, .int x4)] → k x3 x4 x5 → W p l e R s m args below meth c H locs 0 0 Q (F0 m 81 ls [])) → W p l e R s m args below meth c H locs 0 0 Q (F0 m 8 ls []) := by
    intro n
    induction n with
    | zero =>
      intro x1 x2 k x3 x4 x5 H locs ls  hP hS hl h K
      exact False.elim h
    | succ n ih =>
      intro x1 x2 k x3 x4 x5 H locs ls  hP hS hl h K
      have h : w_X0_movesBetween_12_B8 x1 x2 I F post k (fun b0 b1 b2 => gLN (fun ag v => w_X0_movesBetween_12_B8 x1 x2 I F post k (fun b0 b1 b2 => ag (b0, b1, b2)) v.1 v.2.1 v.2.2) n (b0, b1, b2)) x3 x4 x5 := h
      refine lv_iload hx hb dX0_movesBetween_8 (lv_at hl 5 rfl) ?_
      refine lv_bipush (v := (7 : Int32)) hx hb dX0_movesBetween_10 (by decide) ?_
      refine lv_icmp_ge (tgt := 81) hx hb dX0_movesBetween_12 (by decide) (fun c1 => ?_) (fun c1 => ?_)
      · have h := h.1 c1
        exact K x3 x4 x5 _ _ _  hP hS (lv_sub hl [0, 3, 4] rfl) h
      · have h := h.2 c1
        refine lv_iload_n hx hb dX0_movesBetween_15 rfl (lv_at hl 1 rfl) ?_
        refine lv_iload hx hb dX0_movesBetween_16 (lv_at hl 5 rfl) ?_
        refine gCallI (D := D) (va_runS (As := [.int x1, .int x5]) (rest := []) ⟨hx, hb, hml, hown, hts⟩ (c_X7_positionAt l D q cI cO hq x1 x5  I F _ h) (va_cwS 2 hts gX0_movesBetween_X7_positionAt rfl rfl rfl (by decide +kernel) ⟨Nat.le_trans (Nat.le_of_ble_eq_true rfl) hRf, Nat.le_trans (Nat.le_of_ble_eq_true rfl) hRl⟩) (gPreS cEok hE hK hP hS) rfl rfl hl.1 rfl (lv_room (Nat.le_of_ble_eq_true rfl)) dX0_movesBetween_18 ⟨Nat.zero_le _, Nat.zero_le _⟩) hS (fun r2 _ H locs hP hS h => ?_)
        have hP : va_P D vwCl (cW q cI cO I F) H := hP
        refine lv_istore (lv' := [(6, .int r2), (0, .ref (q 12)), (1, .int x1), (2, .int x2), (3, .int x3), (4, .int x4), (5, .int x5)]) hx hb dX0_movesBetween_21 hl (by decide) rfl (fun ls hl => ?_)
        refine lv_iload hx hb dX0_movesBetween_23 (lv_at hl 0 rfl) ?_
        refine lv_iload_n hx hb dX0_movesBetween_25 rfl (lv_at hl 3 rfl) ?_
        refine lv_iload hx hb dX0_movesBetween_26 (lv_at hl 6 rfl) ?_
        refine gCallI (D := D) (va_runS (As := [.int x2, .int x5]) (rest := [.int r2]) ⟨hx, hb, hml, hown, hts⟩ (c_X7_positionAt l D q cI cO hq x2 x5  I F _ h) (va_cwS 2 hts gX0_movesBetween_X7_positionAt rfl rfl rfl (by decide +kernel) ⟨Nat.le_trans (Nat.le_of_ble_eq_true rfl) hRf, Nat.le_trans (Nat.le_of_ble_eq_true rfl) hRl⟩) (gPreS cEok hE hK hP hS) rfl rfl hl.1 rfl (lv_room (Nat.le_of_ble_eq_true rfl)) dX0_movesBetween_28 ⟨Nat.zero_le _, Nat.zero_le _⟩) hS (fun r3 _ H locs hP hS h => ?_)
        have hP : va_P D vwCl (cW q cI cO I F) H := hP
        refine lv_icmp_eq (tgt := 75) hx hb dX0_movesBetween_31 (by decide) (fun c4 => ?_) (fun c4 => ?_)
        · have h := h.1 c4
          refine lv_iinc (v := (x5 + (1 : Int32))) (lv' := [(5, .int (x5 + (1 : Int32))), (6, .int r2), (0, .ref (q 12)), (1, .int x1), (2, .int x2), (3, .int x3), (4, .int x4)]) hx hb dX0_movesBetween_75 hl (k := 6) rfl rfl (by decide) rfl (fun ls hl => ?_)
          refine lv_goto (tgt := 8) hx hb dX0_movesBetween_78 (by decide) ?_
          exact ih x1 x2 _ x3 x4 (x5 + (1 : Int32)) _ _ _  hP hS (lv_sub hl [2, 3, 4, 5, 6, 0] rfl) h K
        · have h := h.2 c4
          refine lv_aload_n hx hb dX0_movesBetween_34 rfl (lv_at hl 1 rfl) ?_
          refine lv_iload hx hb dX0_movesBetween_35 (lv_at hl 6 rfl) ?_
          refine lv_iload hx hb dX0_movesBetween_37 (lv_at hl 0 rfl) ?_
          refine gCallI (D := D) (va_runV (As := [.int x5, .int r2]) (rest := []) ⟨hx, hb, hml, hown, hts⟩ (c_X0_holds_12 l D q cI cO hq x5 r2  I F _ h) (cwV 2 hts gX0_movesBetween_X0_holds rfl rfl rfl (by decide +kernel) ⟨Nat.le_trans (Nat.le_of_ble_eq_true rfl) hRf, Nat.le_trans (Nat.le_of_ble_eq_true rfl) hRl⟩) (gPreV (ci := 0) (q0 := 12) cEok hE hK hP hS rfl cAt12) rfl rfl hl.1 rfl (lv_room (Nat.le_of_ble_eq_true rfl)) dX0_movesBetween_39 ⟨Nat.zero_le _, Nat.zero_le _⟩) hS (fun r5 _ H locs hP hS h => ?_)
          have hP : va_P D vwCl (cW q cI cO I F) H := hP
          refine lv_if_eq (tgt := 47) hx hb dX0_movesBetween_42 (by decide) (fun c6 => ?_) (fun c6 => ?_)
          · have h := h.1 c6
            refine lv_iload hx hb dX0_movesBetween_47 (lv_at hl 6 rfl) ?_
            refine lv_iconst (v := (3 : Int32)) hx hb dX0_movesBetween_49 (by decide) ?_
            refine lv_icmp_ge (tgt := 59) hx hb dX0_movesBetween_50 (by decide) (fun c7 => ?_) (fun c7 => ?_)
            · have h := h.1 c7
              refine lv_iinc (v := (x4 + (1 : Int32))) (lv' := [(4, .int (x4 + (1 : Int32))), (6, .int r2), (0, .ref (q 12)), (1, .int x1), (2, .int x2), (3, .int x3), (5, .int x5)]) hx hb dX0_movesBetween_59 hl (k := 5) rfl rfl (by decide) rfl (fun ls hl => ?_)
              refine lv_iload_n hx hb dX0_movesBetween_62 rfl (lv_at hl 5 rfl) ?_
              refine lv_iconst (v := (1 : Int32)) hx hb dX0_movesBetween_63 (by decide) ?_
              refine lv_icmp_gt (tgt := 73) hx hb dX0_movesBetween_64 (by decide) (fun c8 => ?_) (fun c8 => ?_)
              · have h := h.1 c8
                refine lv_iconst (v := (-1 : Int32)) hx hb dX0_movesBetween_73 (by decide) ?_
                exact hret (-1 : Int32) () _ _ _ _ dX0_movesBetween_74 hP hS h
              · have h := h.2 c8
                refine lv_iload hx hb dX0_movesBetween_67 (lv_at hl 0 rfl) ?_
                refine lv_iconst (v := (1 : Int32)) hx hb dX0_movesBetween_69 (by decide) ?_
                refine lv_icmp_le (tgt := 75) hx hb dX0_movesBetween_70 (by decide) (fun c9 => ?_) (fun c9 => ?_)
                · have h := h.1 c9
                  refine lv_iinc (v := (x5 + (1 : Int32))) (lv' := [(5, .int (x5 + (1 : Int32))), (4, .int (x4 + (1 : Int32))), (6, .int r2), (0, .ref (q 12)), (1, .int x1), (2, .int x2), (3, .int x3)]) hx hb dX0_movesBetween_75 hl (k := 6) rfl rfl (by decide) rfl (fun ls hl => ?_)
                  refine lv_goto (tgt := 8) hx hb dX0_movesBetween_78 (by decide) ?_
                  exact ih x1 x2 _ x3 (x4 + (1 : Int32)) (x5 + (1 : Int32)) _ _ _  hP hS (lv_sub hl [3, 4, 5, 6, 1, 0] rfl) h K
                · have h := h.2 c9
                  refine lv_iconst (v := (-1 : Int32)) hx hb dX0_movesBetween_73 (by decide) ?_
                  exact hret (-1 : Int32) () _ _ _ _ dX0_movesBetween_74 hP hS h
            · have h := h.2 c7
              refine lv_iinc (v := (x3 + (1 : Int32))) (lv' := [(3, .int (x3 + (1 : Int32))), (6, .int r2), (0, .ref (q 12)), (1, .int x1), (2, .int x2), (4, .int x4), (5, .int x5)]) hx hb dX0_movesBetween_53 hl (k := 4) rfl rfl (by decide) rfl (fun ls hl => ?_)
              refine lv_goto (tgt := 62) hx hb dX0_movesBetween_56 (by decide) ?_
              refine lv_iload_n hx hb dX0_movesBetween_62 rfl (lv_at hl 0 rfl) ?_
              refine lv_iconst (v := (1 : Int32)) hx hb dX0_movesBetween_63 (by decide) ?_
              refine lv_icmp_gt (tgt := 73) hx hb dX0_movesBetween_64 (by decide) (fun c10 => ?_) (fun c10 => ?_)
              · have h := h.1 c10
                refine lv_iconst (v := (-1 : Int32)) hx hb dX0_movesBetween_73 (by decide) ?_
                exact hret (-1 : Int32) () _ _ _ _ dX0_movesBetween_74 hP hS h
              · have h := h.2 c10
                refine lv_iload hx hb dX0_movesBetween_67 (lv_at hl 5 rfl) ?_
                refine lv_iconst (v := (1 : Int32)) hx hb dX0_movesBetween_69 (by decide) ?_
                refine lv_icmp_le (tgt := 75) hx hb dX0_movesBetween_70 (by decide) (fun c11 => ?_) (fun c11 => ?_)
                · have h := h.1 c11
                  refine lv_iinc (v := (x5 + (1 : Int32))) (lv' := [(5, .int (x5 + (1 : Int32))), (3, .int (x3 + (1 : Int32))), (6, .int r2), (0, .ref (q 12)), (1, .int x1), (2, .int x2), (4, .int x4)]) hx hb dX0_movesBetween_75 hl (k := 6) rfl rfl (by decide) rfl (fun ls hl => ?_)
                  refine lv_goto (tgt := 8) hx hb dX0_movesBetween_78 (by decide) ?_
                  exact ih x1 x2 _ (x3 + (1 : Int32)) x4 (x5 + (1 : Int32)) _ _ _  hP hS (lv_sub hl [3, 4, 5, 1, 6, 0] rfl) h K
                · have h := h.2 c11
                  refine lv_iconst (v := (-1 : Int32)) hx hb dX0_movesBetween_73 (by decide) ?_
                  exact hret (-1 : Int32) () _ _ _ _ dX0_movesBetween_74 hP hS h
          · have h := h.2 c6
            refine lv_iconst (v := (-1 : Int32)) hx hb dX0_movesBetween_45 (by decide) ?_
            exact hret (-1 : Int32) () _ _ _ _ dX0_movesBetween_46 hP hS h
  refine lv_iconst (v := (0 : Int32)) hx hb dX0_movesBetween_0 (by decide) ?_
  refine lv_istore_n (lv' := [(3, .int (0 : Int32)), (0, .ref (q 12)), (1, .int a1), (2, .int a2)]) hx hb dX0_movesBetween_1 rfl hl (by decide) rfl (fun ls hl => ?_)
  refine lv_iconst (v := (0 : Int32)) hx hb dX0_movesBetween_2 (by decide) ?_
  refine lv_istore (lv' := [(4, .int (0 : Int32)), (3, .int (0 : Int32)), (0, .ref (q 12)), (1, .int a1), (2, .int a2)]) hx hb dX0_movesBetween_3 hl (by decide) rfl (fun ls hl => ?_)
  refine lv_iconst (v := (0 : Int32)) hx hb dX0_movesBetween_5 (by decide) ?_
  refine lv_istore (lv' := [(5, .int (0 : Int32)), (4, .int (0 : Int32)), (3, .int (0 : Int32)), (0, .ref (q 12)), (1, .int a1), (2, .int a2)]) hx hb dX0_movesBetween_6 hl (by decide) rfl (fun ls hl => ?_)
  obtain ⟨n, h⟩ := h
  refine L8 n a1 a2 _ (0 : Int32) (0 : Int32) (0 : Int32) _ _ _  hP hS (lv_sub hl [3, 4, 5, 2, 1, 0] rfl) h (fun y12 y13 y14 H locs ls  hP hS hl h => ?_)
  refine lv_iload_n hx hb dX0_movesBetween_81 rfl (lv_at hl 1 rfl) ?_
  refine lv_iload hx hb dX0_movesBetween_82 (lv_at hl 2 rfl) ?_
  refine lv_iadd hx hb dX0_movesBetween_84 ?_
  refine lv_aload_n hx hb dX0_movesBetween_85 rfl (lv_at hl 0 rfl) ?_
  refine va_get (D := D) (ci := 0) (v := .int (I 23)) (C := RX0) (T := TX0) (N := 2) hx hb hts (fun _ h9 => List.mem_cons_of_mem _ (List.mem_append_right _ h9)) hown hK hP 12 cAt12 rfl 0 (by decide) (hts _ (List.mem_of_getElem? (l := wsX0_movesBetween) (i := 1) rfl)) (fun _ h9 => h9) rfl dX0_movesBetween_86 ?_
  refine lv_icmp_gt (tgt := 99) hx hb dX0_movesBetween_89 (by decide) (fun c15 => ?_) (fun c15 => ?_)
  · have h := h.1 c15
    refine lv_iconst (v := (-1 : Int32)) hx hb dX0_movesBetween_99 (by decide) ?_
    exact hret (-1 : Int32) () _ _ _ _ dX0_movesBetween_100 hP hS h
  · have h := h.2 c15
    refine lv_iload_n hx hb dX0_movesBetween_92 rfl (lv_at hl 1 rfl) ?_
    refine lv_iload hx hb dX0_movesBetween_93 (lv_at hl 2 rfl) ?_
    refine lv_iadd hx hb dX0_movesBetween_95 ?_
    refine lv_goto (tgt := 100) hx hb dX0_movesBetween_96 (by decide) ?_
    exact hret (y12 + y13) () _ _ _ _ dX0_movesBetween_100 hP hS h
def w_X4_playChord_11_B8 (x1 : Int32) (I : Nat → Int32) (F : Nat → Nat → Int32) (k again : Int32 → Int32 → Int32 → Prop) (x2 : Int32) (x3 : Int32) (x4 : Int32) : Prop :=
  (((2187 : Int32) ≤ x4 → k x2 x3 x4) ∧ (¬ (2187 : Int32) ≤ x4 → w_X7_fits_8 x4 (0 : Int32) x1 I F (fun (r2 : Int32) => ((r2 = 0 → again x2 x3 (x4 + (1 : Int32))) ∧ (¬ r2 = 0 → w_X0_movesBetween_12 (I 20) x4 I F (fun (r4 : Int32) => ((r4 = (-1 : Int32) → again x2 x3 (x4 + (1 : Int32))) ∧ (¬ r4 = (-1 : Int32) → ((x3 ≤ r4 → again x2 x3 (x4 + (1 : Int32))) ∧ (¬ x3 ≤ r4 → again x4 r4 (x4 + (1 : Int32))))))))))))
def w_X4_playChord_11 (a1 : Int32) (I : Nat → Int32) (F : Nat → Nat → Int32) (post : (Nat → Int32) → (Nat → Nat → Int32) → Prop) : Prop :=
  gL (fun ag v => w_X4_playChord_11_B8 a1 I F (fun (y7 : Int32) (y8 : Int32) (y9 : Int32) => ((y7 = (-1 : Int32) → post I F) ∧ (¬ y7 = (-1 : Int32) → ∀ I11 : Nat → Int32, I11 = upd I 20 y7 → ∀ I12 : Nat → Int32, I12 = upd I11 21 ((I11 21) + (1 : Int32)) → ∀ I13 : Nat → Int32, I13 = upd I12 22 ((I12 22) + y8) → post I13 F))) (fun b0 b1 b2 => ag (b0, b1, b2)) v.1 v.2.1 v.2.2) ((-1 : Int32), (7 : Int32), (0 : Int32))
set_option maxHeartbeats 4000000 in
set_option maxRecDepth 100000 in
theorem c_X4_playChord_11 (l : Launch) (D : va_G) (q : Nat → Nat) (cI cO : ClassId) (hq : cOk q) (a1 : Int32)  (I : Nat → Int32) (F : Nat → Nat → Int32) (post : (Nat → Int32) → (Nat → Nat → Int32) → Prop) (h : w_X4_playChord_11 a1 I F post) : Met l yX4_playChord wsX4_playChord ({ frames := 2, cells := 0, slots := 0, locals := 48 } : Room) (gPre D (cTys cI cO) (cW q cI cO I F) (cEnv q) [.ref (q 11), .int a1]) (va_Qv (fun (u : cS) => post u.1 u.2) (gB D (fun u : cS => cW q cI cO u.1 u.2)) (cA q)) 0 0 (cA q) := by
  refine gMetV (by decide) rfl (Nat.le_of_ble_eq_true rfl) ?_
  intro p e R s m args below meth c Q ls hR hx hb hml hown hts hK hE hP hl hret
  have hRf : 2 ≤ R.frames := by subst hR; exact Nat.le_refl _
  have hRl : 48 ≤ R.locals := by subst hR; exact Nat.le_refl _
  have hown : s.vm.findClass RX4 = some m.cls := hown
  have hl : lv_has ls 6 [(0, .ref (q 11)), (1, .int a1)] := hl
  have hS : va_S (cA q) s.heap s.heap [] := va_S.rf
  have hP : va_P D vwCl (cW q cI cO I F) s.heap := hP
  have L8 : ∀ (n : Nat) (x1 : Int32) (I : Nat → Int32) (F : Nat → Nat → Int32) (k : Int32 → Int32 → Int32 → Prop) (x2 : Int32) (x3 : Int32) (x4 : Int32) (H : Heap) (locs : List Loc) (ls : Array Slot), va_P D vwCl (cW q cI cO I F) H → va_S (cA q) s.heap H locs → lv_has ls 6 [(0, .ref (q 11)), (1, .int x1), (2, .int x2), (3, .int x3), (4, .int x4)] → gLN (fun ag v => w_X4_playChord_11_B8 x1 I F k (fun b0 b1 b2 => ag (b0, b1, b2)) v.1 v.2.1 v.2.2) n (x2, x3, x4) → (∀ (x2 : Int32) (x3 : Int32) (x4 : Int32) (H : Heap) (locs : List Loc) (ls : Array Slot), va_P D vwCl (cW q cI cO I F) H → va_S (cA q) s.heap H locs → lv_has ls 6 [(0, .ref (q 11)), (2, .int x2), (3, .int x3)] → k x2 x3 x4 → W p l e R s m args below meth c H locs 0 0 Q (F0 m 69 ls [])) → W p l e R s m args below meth c H locs 0 0 Q (F0 m 8 ls []) := by
    intro n
    induction n with
    | zero =>
      intro x1 I F k x2 x3 x4 H locs ls  hP hS hl h K
      exact False.elim h
    | succ n ih =>
      intro x1 I F k x2 x3 x4 H locs ls  hP hS hl h K
      have h : w_X4_playChord_11_B8 x1 I F k (fun b0 b1 b2 => gLN (fun ag v => w_X4_playChord_11_B8 x1 I F k (fun b0 b1 b2 => ag (b0, b1, b2)) v.1 v.2.1 v.2.2) n (b0, b1, b2)) x2 x3 x4 := h
      refine lv_iload hx hb dX4_playChord_8 (lv_at hl 4 rfl) ?_
      refine lv_sipush (v := (2187 : Int32)) hx hb dX4_playChord_10 (by decide) ?_
      refine lv_icmp_ge (tgt := 69) hx hb dX4_playChord_13 (by decide) (fun c1 => ?_) (fun c1 => ?_)
      · have h := h.1 c1
        exact K x2 x3 x4 _ _ _  hP hS (lv_sub hl [0, 2, 3] rfl) h
      · have h := h.2 c1
        refine lv_aload_n hx hb dX4_playChord_16 rfl (lv_at hl 0 rfl) ?_
        refine va_get (D := D) (ci := 4) (v := .ref (q 8)) (C := RX4) (T := TX4) (N := 6) hx hb hts (fun _ h9 => List.mem_cons_of_mem _ (List.mem_append_left _ (List.mem_append_left _ (List.mem_append_right _ h9)))) hown hK hP 11 cAt11 rfl 0 (by decide) (hts _ (List.mem_of_getElem? (l := wsX4_playChord) (i := 1) rfl)) (fun _ h9 => h9) rfl dX4_playChord_17 ?_
        refine lv_iload hx hb dX4_playChord_20 (lv_at hl 4 rfl) ?_
        refine lv_iconst (v := (0 : Int32)) hx hb dX4_playChord_22 (by decide) ?_
        refine lv_iload_n hx hb dX4_playChord_23 rfl (lv_at hl 1 rfl) ?_
        refine gCallI (D := D) (va_runV (As := [.int x4, .int (0 : Int32), .int x1]) (rest := []) ⟨hx, hb, hml, hown, hts⟩ (c_X7_fits_8 l D q cI cO hq x4 (0 : Int32) x1  I F _ h) (cwV 3 hts gX4_playChord_X7_fits rfl rfl rfl (by decide +kernel) ⟨Nat.le_trans (Nat.le_of_ble_eq_true rfl) hRf, Nat.le_trans (Nat.le_of_ble_eq_true rfl) hRl⟩) (gPreV (ci := 7) (q0 := 8) cEok hE hK hP hS rfl cAt8) rfl rfl hl.1 rfl (lv_room (Nat.le_of_ble_eq_true rfl)) dX4_playChord_24 ⟨Nat.zero_le _, Nat.zero_le _⟩) hS (fun r2 _ H locs hP hS h => ?_)
        have hP : va_P D vwCl (cW q cI cO I F) H := hP
        refine lv_if_eq (tgt := 63) hx hb dX4_playChord_27 (by decide) (fun c3 => ?_) (fun c3 => ?_)
        · have h := h.1 c3
          refine lv_iinc (v := (x4 + (1 : Int32))) (lv' := [(4, .int (x4 + (1 : Int32))), (0, .ref (q 11)), (1, .int x1), (2, .int x2), (3, .int x3)]) hx hb dX4_playChord_63 hl (k := 4) rfl rfl (by decide) rfl (fun ls hl => ?_)
          refine lv_goto (tgt := 8) hx hb dX4_playChord_66 (by decide) ?_
          exact ih x1 I F _ x2 x3 (x4 + (1 : Int32)) _ _ _  hP hS (lv_sub hl [1, 2, 3, 4, 0] rfl) h K
        · have h := h.2 c3
          refine lv_aload_n hx hb dX4_playChord_30 rfl (lv_at hl 0 rfl) ?_
          refine va_get (D := D) (ci := 4) (v := .ref (q 12)) (C := RX4) (T := TX4) (N := 6) hx hb hts (fun _ h9 => List.mem_cons_of_mem _ (List.mem_append_left _ (List.mem_append_left _ (List.mem_append_right _ h9)))) hown hK hP 11 cAt11 rfl 1 (by decide) (hts _ (List.mem_of_getElem? (l := wsX4_playChord) (i := 2) rfl)) (fun _ h9 => h9) rfl dX4_playChord_31 ?_
          refine lv_aload_n hx hb dX4_playChord_34 rfl (lv_at hl 0 rfl) ?_
          refine va_get (D := D) (ci := 4) (v := .int (I 20)) (C := RX4) (T := TX4) (N := 6) hx hb hts (fun _ h9 => List.mem_cons_of_mem _ (List.mem_append_left _ (List.mem_append_left _ (List.mem_append_right _ h9)))) hown hK hP 11 cAt11 rfl 3 (by decide) (hts _ (List.mem_of_getElem? (l := wsX4_playChord) (i := 3) rfl)) (fun _ h9 => h9) rfl dX4_playChord_35 ?_
          refine lv_iload hx hb dX4_playChord_38 (lv_at hl 4 rfl) ?_
          refine gCallI (D := D) (va_runV (As := [.int (I 20), .int x4]) (rest := []) ⟨hx, hb, hml, hown, hts⟩ (c_X0_movesBetween_12 l D q cI cO hq (I 20) x4  I F _ h) (cwV 2 hts gX4_playChord_X0_movesBetween rfl rfl rfl (by decide +kernel) ⟨Nat.le_trans (Nat.le_of_ble_eq_true rfl) hRf, Nat.le_trans (Nat.le_of_ble_eq_true rfl) hRl⟩) (gPreV (ci := 0) (q0 := 12) cEok hE hK hP hS rfl cAt12) rfl rfl hl.1 rfl (lv_room (Nat.le_of_ble_eq_true rfl)) dX4_playChord_40 ⟨Nat.zero_le _, Nat.zero_le _⟩) hS (fun r4 _ H locs hP hS h => ?_)
          have hP : va_P D vwCl (cW q cI cO I F) H := hP
          refine lv_istore (lv' := [(5, .int r4), (0, .ref (q 11)), (1, .int x1), (2, .int x2), (3, .int x3), (4, .int x4)]) hx hb dX4_playChord_43 hl (by decide) rfl (fun ls hl => ?_)
          refine lv_iload hx hb dX4_playChord_45 (lv_at hl 0 rfl) ?_
          refine lv_iconst (v := (-1 : Int32)) hx hb dX4_playChord_47 (by decide) ?_
          refine lv_icmp_eq (tgt := 63) hx hb dX4_playChord_48 (by decide) (fun c5 => ?_) (fun c5 => ?_)
          · have h := h.1 c5
            refine lv_iinc (v := (x4 + (1 : Int32))) (lv' := [(4, .int (x4 + (1 : Int32))), (5, .int r4), (0, .ref (q 11)), (1, .int x1), (2, .int x2), (3, .int x3)]) hx hb dX4_playChord_63 hl (k := 5) rfl rfl (by decide) rfl (fun ls hl => ?_)
            refine lv_goto (tgt := 8) hx hb dX4_playChord_66 (by decide) ?_
            exact ih x1 I F _ x2 x3 (x4 + (1 : Int32)) _ _ _  hP hS (lv_sub hl [2, 3, 4, 5, 0] rfl) h K
          · have h := h.2 c5
            refine lv_iload hx hb dX4_playChord_51 (lv_at hl 0 rfl) ?_
            refine lv_iload_n hx hb dX4_playChord_53 rfl (lv_at hl 4 rfl) ?_
            refine lv_icmp_ge (tgt := 63) hx hb dX4_playChord_54 (by decide) (fun c6 => ?_) (fun c6 => ?_)
            · have h := h.1 c6
              refine lv_iinc (v := (x4 + (1 : Int32))) (lv' := [(4, .int (x4 + (1 : Int32))), (5, .int r4), (0, .ref (q 11)), (1, .int x1), (2, .int x2), (3, .int x3)]) hx hb dX4_playChord_63 hl (k := 5) rfl rfl (by decide) rfl (fun ls hl => ?_)
              refine lv_goto (tgt := 8) hx hb dX4_playChord_66 (by decide) ?_
              exact ih x1 I F _ x2 x3 (x4 + (1 : Int32)) _ _ _  hP hS (lv_sub hl [2, 3, 4, 5, 0] rfl) h K
            · have h := h.2 c6
              refine lv_iload hx hb dX4_playChord_57 (lv_at hl 5 rfl) ?_
              refine lv_istore_n (lv' := [(2, .int x4), (5, .int r4), (0, .ref (q 11)), (1, .int x1), (3, .int x3), (4, .int x4)]) hx hb dX4_playChord_59 rfl hl (by decide) rfl (fun ls hl => ?_)
              refine lv_iload hx hb dX4_playChord_60 (lv_at hl 1 rfl) ?_
              refine lv_istore_n (lv' := [(3, .int r4), (2, .int x4), (5, .int r4), (0, .ref (q 11)), (1, .int x1), (4, .int x4)]) hx hb dX4_playChord_62 rfl hl (by decide) rfl (fun ls hl => ?_)
              refine lv_iinc (v := (x4 + (1 : Int32))) (lv' := [(4, .int (x4 + (1 : Int32))), (3, .int r4), (2, .int x4), (5, .int r4), (0, .ref (q 11)), (1, .int x1)]) hx hb dX4_playChord_63 hl (k := 5) rfl rfl (by decide) rfl (fun ls hl => ?_)
              refine lv_goto (tgt := 8) hx hb dX4_playChord_66 (by decide) ?_
              exact ih x1 I F _ x4 r4 (x4 + (1 : Int32)) _ _ _  hP hS (lv_sub hl [4, 5, 2, 1, 0] rfl) h K
  refine lv_iconst (v := (-1 : Int32)) hx hb dX4_playChord_0 (by decide) ?_
  refine lv_istore_n (lv' := [(2, .int (-1 : Int32)), (0, .ref (q 11)), (1, .int a1)]) hx hb dX4_playChord_1 rfl hl (by decide) rfl (fun ls hl => ?_)
  refine lv_bipush (v := (7 : Int32)) hx hb dX4_playChord_2 (by decide) ?_
  refine lv_istore_n (lv' := [(3, .int (7 : Int32)), (2, .int (-1 : Int32)), (0, .ref (q 11)), (1, .int a1)]) hx hb dX4_playChord_4 rfl hl (by decide) rfl (fun ls hl => ?_)
  refine lv_iconst (v := (0 : Int32)) hx hb dX4_playChord_5 (by decide) ?_
  refine lv_istore (lv' := [(4, .int (0 : Int32)), (3, .int (7 : Int32)), (2, .int (-1 : Int32)), (0, .ref (q 11)), (1, .int a1)]) hx hb dX4_playChord_6 hl (by decide) rfl (fun ls hl => ?_)
  obtain ⟨n, h⟩ := h
  refine L8 n a1 I F _ (-1 : Int32) (7 : Int32) (0 : Int32) _ _ _  hP hS (lv_sub hl [3, 4, 2, 1, 0] rfl) h (fun y7 y8 y9 H locs ls  hP hS hl h => ?_)
  refine lv_iload_n hx hb dX4_playChord_69 rfl (lv_at hl 1 rfl) ?_
  refine lv_iconst (v := (-1 : Int32)) hx hb dX4_playChord_70 (by decide) ?_
  refine lv_icmp_eq (tgt := 99) hx hb dX4_playChord_71 (by decide) (fun c10 => ?_) (fun c10 => ?_)
  · have h := h.1 c10
    exact hret (I, F) _ _ _ _ dX4_playChord_99 hP hS h
  · have h := h.2 c10
    refine lv_aload_n hx hb dX4_playChord_74 rfl (lv_at hl 0 rfl) ?_
    refine lv_iload_n hx hb dX4_playChord_75 rfl (lv_at hl 1 rfl) ?_
    refine gPut (D := D) (ci := 4) (ty := .int) (C := RX4) (T := TX4) (N := 6) hx hb hts (fun _ h9 => List.mem_cons_of_mem _ (List.mem_append_left _ (List.mem_append_left _ (List.mem_append_right _ h9)))) tyX4 tyX4_ok nmX4 hown hK hP (cD hq) hS 11 cAt11 rfl 3 (by decide) (hts _ (List.mem_of_getElem? (l := wsX4_playChord) (i := 3) rfl)) (fun _ h9 => h9) rfl (by decide +kernel) rfl rfl (Nat.le_of_ble_eq_true rfl) dX4_playChord_76 (cSet20 y7) (fun H locs hP hS => ?_)
    obtain ⟨I11, eI11⟩ : ∃ z : Nat → Int32, z = upd I 20 y7 := ⟨_, rfl⟩
    rw [← eI11] at hP
    have h := h I11 eI11
    refine lv_aload_n hx hb dX4_playChord_79 rfl (lv_at hl 0 rfl) ?_
    refine lv_dup hx hb dX4_playChord_80 rfl ?_
    refine va_get (D := D) (ci := 4) (v := .int (I11 21)) (C := RX4) (T := TX4) (N := 6) hx hb hts (fun _ h9 => List.mem_cons_of_mem _ (List.mem_append_left _ (List.mem_append_left _ (List.mem_append_right _ h9)))) hown hK hP 11 cAt11 rfl 4 (by decide) (hts _ (List.mem_of_getElem? (l := wsX4_playChord) (i := 4) rfl)) (fun _ h9 => h9) rfl dX4_playChord_81 ?_
    refine lv_iconst (v := (1 : Int32)) hx hb dX4_playChord_84 (by decide) ?_
    refine lv_iadd hx hb dX4_playChord_85 ?_
    refine gPut (D := D) (ci := 4) (ty := .int) (C := RX4) (T := TX4) (N := 6) hx hb hts (fun _ h9 => List.mem_cons_of_mem _ (List.mem_append_left _ (List.mem_append_left _ (List.mem_append_right _ h9)))) tyX4 tyX4_ok nmX4 hown hK hP (cD hq) hS 11 cAt11 rfl 4 (by decide) (hts _ (List.mem_of_getElem? (l := wsX4_playChord) (i := 4) rfl)) (fun _ h9 => h9) rfl (by decide +kernel) rfl rfl (Nat.le_of_ble_eq_true rfl) dX4_playChord_86 (cSet21 ((I11 21) + (1 : Int32))) (fun H locs hP hS => ?_)
    obtain ⟨I12, eI12⟩ : ∃ z : Nat → Int32, z = upd I11 21 ((I11 21) + (1 : Int32)) := ⟨_, rfl⟩
    rw [← eI12] at hP
    have h := h I12 eI12
    refine lv_aload_n hx hb dX4_playChord_89 rfl (lv_at hl 0 rfl) ?_
    refine lv_dup hx hb dX4_playChord_90 rfl ?_
    refine va_get (D := D) (ci := 4) (v := .int (I12 22)) (C := RX4) (T := TX4) (N := 6) hx hb hts (fun _ h9 => List.mem_cons_of_mem _ (List.mem_append_left _ (List.mem_append_left _ (List.mem_append_right _ h9)))) hown hK hP 11 cAt11 rfl 5 (by decide) (hts _ (List.mem_of_getElem? (l := wsX4_playChord) (i := 5) rfl)) (fun _ h9 => h9) rfl dX4_playChord_91 ?_
    refine lv_iload_n hx hb dX4_playChord_94 rfl (lv_at hl 2 rfl) ?_
    refine lv_iadd hx hb dX4_playChord_95 ?_
    refine gPut (D := D) (ci := 4) (ty := .int) (C := RX4) (T := TX4) (N := 6) hx hb hts (fun _ h9 => List.mem_cons_of_mem _ (List.mem_append_left _ (List.mem_append_left _ (List.mem_append_right _ h9)))) tyX4 tyX4_ok nmX4 hown hK hP (cD hq) hS 11 cAt11 rfl 5 (by decide) (hts _ (List.mem_of_getElem? (l := wsX4_playChord) (i := 5) rfl)) (fun _ h9 => h9) rfl (by decide +kernel) rfl rfl (Nat.le_of_ble_eq_true rfl) dX4_playChord_96 (cSet22 ((I12 22) + y8)) (fun H locs hP hS => ?_)
    obtain ⟨I13, eI13⟩ : ∃ z : Nat → Int32, z = upd I12 22 ((I12 22) + y8) := ⟨_, rfl⟩
    rw [← eI13] at hP
    have h := h I13 eI13
    exact hret (I13, F) _ _ _ _ dX4_playChord_99 hP hS h
def w_X0_set_12_B39 (x2 : Int32) (x3 : Int32) (k again : Int32 → (Nat → Int32) → (Nat → Nat → Int32) → Prop) (x4 : Int32) (I : Nat → Int32) (F : Nat → Nat → Int32) : Prop :=
  (((3 : Int32) ≤ x4 → k x4 I F) ∧ (¬ (3 : Int32) ≤ x4 → w_X7_toneAt x3 x4 I F (fun (r2 : Int32) => ∀ v3 : Int32, v3 = ((x2 >>> (r2 &&& 31)) &&& (1 : Int32)) → ∀ I4 : Nat → Int32, I4 = upd I 24 ((I 24) ||| (v3 <<< (((x3 * (3 : Int32)) + x4) &&& 31))) → again (x4 + (1 : Int32)) I4 F)))
def w_X0_set_12_B30 (x2 : Int32) (k again : Int32 → (Nat → Int32) → (Nat → Nat → Int32) → Prop) (x3 : Int32) (I : Nat → Int32) (F : Nat → Nat → Int32) : Prop :=
  (((7 : Int32) ≤ x3 → k x3 I F) ∧ (¬ (7 : Int32) ≤ x3 → gL (fun ag v => w_X0_set_12_B39 x2 x3 (fun (y6 : Int32) (I7 : Nat → Int32) (F8 : Nat → Nat → Int32) => again (x3 + (1 : Int32)) I7 F8) (fun b0 b1 b2 => ag (b0, b1, b2)) v.1 v.2.1 v.2.2) ((0 : Int32), I, F)))
def w_X0_set_12_J20 (x2 : Int32) (z1 : Int32) (I : Nat → Int32) (F : Nat → Nat → Int32) (post : (Nat → Int32) → (Nat → Nat → Int32) → Prop) : Prop :=
  ∀ I9 : Nat → Int32, I9 = upd I 23 z1 → ∀ I10 : Nat → Int32, I10 = upd I9 24 (0 : Int32) → gL (fun ag v => w_X0_set_12_B30 x2 (fun (y11 : Int32) (I12 : Nat → Int32) (F13 : Nat → Nat → Int32) => post I12 F13) (fun b0 b1 b2 => ag (b0, b1, b2)) v.1 v.2.1 v.2.2) ((0 : Int32), I10, F)
def w_X0_set_12 (a1 : Int32) (a2 : Int32) (I : Nat → Int32) (F : Nat → Nat → Int32) (post : (Nat → Int32) → (Nat → Nat → Int32) → Prop) : Prop :=
  ((¬ a1 = (4 : Int32) → ((¬ a1 = (3 : Int32) → w_X0_set_12_J20 a2 (2 : Int32) I F post) ∧ (a1 = (3 : Int32) → w_X0_set_12_J20 a2 (1 : Int32) I F post))) ∧ (a1 = (4 : Int32) → w_X0_set_12_J20 a2 (0 : Int32) I F post))
set_option maxHeartbeats 4000000 in
set_option maxRecDepth 100000 in
theorem c_X0_set_12 (l : Launch) (D : va_G) (q : Nat → Nat) (cI cO : ClassId) (hq : cOk q) (a1 : Int32) (a2 : Int32)  (I : Nat → Int32) (F : Nat → Nat → Int32) (post : (Nat → Int32) → (Nat → Nat → Int32) → Prop) (h : w_X0_set_12 a1 a2 I F post) : Met l yX0_set wsX0_set ({ frames := 1, cells := 0, slots := 0, locals := 21 } : Room) (gPre D (cTys cI cO) (cW q cI cO I F) (cEnv q) [.ref (q 12), .int a1, .int a2]) (va_Qv (fun (u : cS) => post u.1 u.2) (gB D (fun u : cS => cW q cI cO u.1 u.2)) (cA q)) 0 0 (cA q) := by
  refine gMetV (by decide) rfl (Nat.le_of_ble_eq_true rfl) ?_
  intro p e R s m args below meth c Q ls hR hx hb hml hown hts hK hE hP hl hret
  have hRf : 1 ≤ R.frames := by subst hR; exact Nat.le_refl _
  have hRl : 21 ≤ R.locals := by subst hR; exact Nat.le_refl _
  have hown : s.vm.findClass RX0 = some m.cls := hown
  have hl : lv_has ls 6 [(0, .ref (q 12)), (1, .int a1), (2, .int a2)] := hl
  have hS : va_S (cA q) s.heap s.heap [] := va_S.rf
  have hP : va_P D vwCl (cW q cI cO I F) s.heap := hP
  have L39 : ∀ (n : Nat) (x2 : Int32) (x3 : Int32) (k : Int32 → (Nat → Int32) → (Nat → Nat → Int32) → Prop) (x4 : Int32) (I : Nat → Int32) (F : Nat → Nat → Int32) (H : Heap) (locs : List Loc) (ls : Array Slot), va_P D vwCl (cW q cI cO I F) H → va_S (cA q) s.heap H locs → lv_has ls 6 [(0, .ref (q 12)), (2, .int x2), (3, .int x3), (4, .int x4)] → gLN (fun ag v => w_X0_set_12_B39 x2 x3 k (fun b0 b1 b2 => ag (b0, b1, b2)) v.1 v.2.1 v.2.2) n (x4, I, F) → (∀ (x4 : Int32) (I : Nat → Int32) (F : Nat → Nat → Int32) (H : Heap) (locs : List Loc) (ls : Array Slot), va_P D vwCl (cW q cI cO I F) H → va_S (cA q) s.heap H locs → lv_has ls 6 [(0, .ref (q 12)), (2, .int x2), (3, .int x3)] → k x4 I F → W p l e R s m args below meth c H locs 0 0 Q (F0 m 81 ls [])) → W p l e R s m args below meth c H locs 0 0 Q (F0 m 39 ls []) := by
    intro n
    induction n with
    | zero =>
      intro x2 x3 k x4 I F H locs ls  hP hS hl h K
      exact False.elim h
    | succ n ih =>
      intro x2 x3 k x4 I F H locs ls  hP hS hl h K
      have h : w_X0_set_12_B39 x2 x3 k (fun b0 b1 b2 => gLN (fun ag v => w_X0_set_12_B39 x2 x3 k (fun b0 b1 b2 => ag (b0, b1, b2)) v.1 v.2.1 v.2.2) n (b0, b1, b2)) x4 I F := h
      refine lv_iload hx hb dX0_set_39 (lv_at hl 3 rfl) ?_
      refine lv_iconst (v := (3 : Int32)) hx hb dX0_set_41 (by decide) ?_
      refine lv_icmp_ge (tgt := 81) hx hb dX0_set_42 (by decide) (fun c1 => ?_) (fun c1 => ?_)
      · have h := h.1 c1
        exact K x4 I F _ _ _  hP hS (lv_sub hl [0, 1, 2] rfl) h
      · have h := h.2 c1
        refine lv_iload_n hx hb dX0_set_45 rfl (lv_at hl 1 rfl) ?_
        refine lv_iload_n hx hb dX0_set_46 rfl (lv_at hl 2 rfl) ?_
        refine lv_iload hx hb dX0_set_47 (lv_at hl 3 rfl) ?_
        refine gCallI (D := D) (va_runS (As := [.int x3, .int x4]) (rest := [.int x2]) ⟨hx, hb, hml, hown, hts⟩ (c_X7_toneAt l D q cI cO hq x3 x4  I F _ h) (va_cwS 2 hts gX0_set_X7_toneAt rfl rfl rfl (by decide +kernel) ⟨Nat.le_trans (Nat.le_of_ble_eq_true rfl) hRf, Nat.le_trans (Nat.le_of_ble_eq_true rfl) hRl⟩) (gPreS cEok hE hK hP hS) rfl rfl hl.1 rfl (lv_room (Nat.le_of_ble_eq_true rfl)) dX0_set_49 ⟨Nat.zero_le _, Nat.zero_le _⟩) hS (fun r2 _ H locs hP hS h => ?_)
        have hP : va_P D vwCl (cW q cI cO I F) H := hP
        refine lv_ishr hx hb dX0_set_52 ?_
        refine lv_iconst (v := (1 : Int32)) hx hb dX0_set_53 (by decide) ?_
        refine lv_iand hx hb dX0_set_54 ?_
        refine lv_topi (fun v3 ev3 => ?_)
        have h := h v3 ev3
        refine lv_istore (lv' := [(5, .int v3), (0, .ref (q 12)), (2, .int x2), (3, .int x3), (4, .int x4)]) hx hb dX0_set_55 hl (by decide) rfl (fun ls hl => ?_)
        refine lv_aload_n hx hb dX0_set_57 rfl (lv_at hl 1 rfl) ?_
        refine lv_dup hx hb dX0_set_58 rfl ?_
        refine va_get (D := D) (ci := 0) (v := .int (I 24)) (C := RX0) (T := TX0) (N := 2) hx hb hts (fun _ h9 => List.mem_cons_of_mem _ (List.mem_append_right _ h9)) hown hK hP 12 cAt12 rfl 1 (by decide) (hts _ (List.mem_of_getElem? (l := wsX0_set) (i := 2) rfl)) (fun _ h9 => h9) rfl dX0_set_59 ?_
        refine lv_iload hx hb dX0_set_62 (lv_at hl 0 rfl) ?_
        refine lv_iload_n hx hb dX0_set_64 rfl (lv_at hl 3 rfl) ?_
        refine lv_iconst (v := (3 : Int32)) hx hb dX0_set_65 (by decide) ?_
        refine lv_imul hx hb dX0_set_66 ?_
        refine lv_iload hx hb dX0_set_67 (lv_at hl 4 rfl) ?_
        refine lv_iadd hx hb dX0_set_69 ?_
        refine lv_ishl hx hb dX0_set_70 ?_
        refine lv_ior hx hb dX0_set_71 ?_
        refine gPut (D := D) (ci := 0) (ty := .int) (C := RX0) (T := TX0) (N := 2) hx hb hts (fun _ h9 => List.mem_cons_of_mem _ (List.mem_append_right _ h9)) tyX0 tyX0_ok nmX0 hown hK hP (cD hq) hS 12 cAt12 rfl 1 (by decide) (hts _ (List.mem_of_getElem? (l := wsX0_set) (i := 2) rfl)) (fun _ h9 => h9) rfl (by decide +kernel) rfl rfl (Nat.le_of_ble_eq_true rfl) dX0_set_72 (cSet24 ((I 24) ||| (v3 <<< (((x3 * (3 : Int32)) + x4) &&& 31)))) (fun H locs hP hS => ?_)
        obtain ⟨I4, eI4⟩ : ∃ z : Nat → Int32, z = upd I 24 ((I 24) ||| (v3 <<< (((x3 * (3 : Int32)) + x4) &&& 31))) := ⟨_, rfl⟩
        rw [← eI4] at hP
        have h := h I4 eI4
        refine lv_iinc (v := (x4 + (1 : Int32))) (lv' := [(4, .int (x4 + (1 : Int32))), (5, .int v3), (0, .ref (q 12)), (2, .int x2), (3, .int x3)]) hx hb dX0_set_75 hl (k := 4) rfl rfl (by decide) rfl (fun ls hl => ?_)
        refine lv_goto (tgt := 39) hx hb dX0_set_78 (by decide) ?_
        exact ih x2 x3 _ (x4 + (1 : Int32)) I4 F _ _ _  hP hS (lv_sub hl [2, 3, 4, 0] rfl) h K
  have L30 : ∀ (n : Nat) (x2 : Int32) (k : Int32 → (Nat → Int32) → (Nat → Nat → Int32) → Prop) (x3 : Int32) (I : Nat → Int32) (F : Nat → Nat → Int32) (H : Heap) (locs : List Loc) (ls : Array Slot), va_P D vwCl (cW q cI cO I F) H → va_S (cA q) s.heap H locs → lv_has ls 6 [(0, .ref (q 12)), (2, .int x2), (3, .int x3)] → gLN (fun ag v => w_X0_set_12_B30 x2 k (fun b0 b1 b2 => ag (b0, b1, b2)) v.1 v.2.1 v.2.2) n (x3, I, F) → (∀ (x3 : Int32) (I : Nat → Int32) (F : Nat → Nat → Int32) (H : Heap) (locs : List Loc) (ls : Array Slot), va_P D vwCl (cW q cI cO I F) H → va_S (cA q) s.heap H locs → lv_has ls 6 [] → k x3 I F → W p l e R s m args below meth c H locs 0 0 Q (F0 m 87 ls [])) → W p l e R s m args below meth c H locs 0 0 Q (F0 m 30 ls []) := by
    intro n
    induction n with
    | zero =>
      intro x2 k x3 I F H locs ls  hP hS hl h K
      exact False.elim h
    | succ n ih =>
      intro x2 k x3 I F H locs ls  hP hS hl h K
      have h : w_X0_set_12_B30 x2 k (fun b0 b1 b2 => gLN (fun ag v => w_X0_set_12_B30 x2 k (fun b0 b1 b2 => ag (b0, b1, b2)) v.1 v.2.1 v.2.2) n (b0, b1, b2)) x3 I F := h
      refine lv_iload_n hx hb dX0_set_30 rfl (lv_at hl 2 rfl) ?_
      refine lv_bipush (v := (7 : Int32)) hx hb dX0_set_31 (by decide) ?_
      refine lv_icmp_ge (tgt := 87) hx hb dX0_set_33 (by decide) (fun c5 => ?_) (fun c5 => ?_)
      · have h := h.1 c5
        exact K x3 I F _ _ _  hP hS (lv_sub hl [] rfl) h
      · have h := h.2 c5
        refine lv_iconst (v := (0 : Int32)) hx hb dX0_set_36 (by decide) ?_
        refine lv_istore (lv' := [(4, .int (0 : Int32)), (0, .ref (q 12)), (2, .int x2), (3, .int x3)]) hx hb dX0_set_37 hl (by decide) rfl (fun ls hl => ?_)
        obtain ⟨n, h⟩ := h
        refine L39 n x2 x3 _ (0 : Int32) I F _ _ _  hP hS (lv_sub hl [1, 2, 3, 0] rfl) h (fun y6 I7 F8 H locs ls  hP hS hl h => ?_)
        refine lv_iinc (v := (x3 + (1 : Int32))) (lv' := [(3, .int (x3 + (1 : Int32))), (0, .ref (q 12)), (2, .int x2)]) hx hb dX0_set_81 hl (k := 2) rfl rfl (by decide) rfl (fun ls hl => ?_)
        refine lv_goto (tgt := 30) hx hb dX0_set_84 (by decide) ?_
        exact ih x2 _ (x3 + (1 : Int32)) I7 F8 _ _ _  hP hS (lv_sub hl [1, 2, 0] rfl) h K
  have J20 : ∀ (x2 : Int32) (z1 : Int32) (I : Nat → Int32) (F : Nat → Nat → Int32) (H : Heap) (locs : List Loc) (ls : Array Slot), va_P D vwCl (cW q cI cO I F) H → va_S (cA q) s.heap H locs → lv_has ls 6 [(0, .ref (q 12)), (2, .int x2)] → w_X0_set_12_J20 x2 z1 I F post → W p l e R s m args below meth c H locs 0 0 Q (F0 m 20 ls [.int z1, .ref (q 12)]) := by
    intro x2 z1 I F H locs ls  hP hS hl h
    refine gPut (D := D) (ci := 0) (ty := .int) (C := RX0) (T := TX0) (N := 2) hx hb hts (fun _ h9 => List.mem_cons_of_mem _ (List.mem_append_right _ h9)) tyX0 tyX0_ok nmX0 hown hK hP (cD hq) hS 12 cAt12 rfl 0 (by decide) (hts _ (List.mem_of_getElem? (l := wsX0_set) (i := 1) rfl)) (fun _ h9 => h9) rfl (by decide +kernel) rfl rfl (Nat.le_of_ble_eq_true rfl) dX0_set_20 (cSet23 z1) (fun H locs hP hS => ?_)
    obtain ⟨I9, eI9⟩ : ∃ z : Nat → Int32, z = upd I 23 z1 := ⟨_, rfl⟩
    rw [← eI9] at hP
    have h := h I9 eI9
    refine lv_aload_n hx hb dX0_set_23 rfl (lv_at hl 0 rfl) ?_
    refine lv_iconst (v := (0 : Int32)) hx hb dX0_set_24 (by decide) ?_
    refine gPut (D := D) (ci := 0) (ty := .int) (C := RX0) (T := TX0) (N := 2) hx hb hts (fun _ h9 => List.mem_cons_of_mem _ (List.mem_append_right _ h9)) tyX0 tyX0_ok nmX0 hown hK hP (cD hq) hS 12 cAt12 rfl 1 (by decide) (hts _ (List.mem_of_getElem? (l := wsX0_set) (i := 2) rfl)) (fun _ h9 => h9) rfl (by decide +kernel) rfl rfl (Nat.le_of_ble_eq_true rfl) dX0_set_25 (cSet24 (0 : Int32)) (fun H locs hP hS => ?_)
    obtain ⟨I10, eI10⟩ : ∃ z : Nat → Int32, z = upd I9 24 (0 : Int32) := ⟨_, rfl⟩
    rw [← eI10] at hP
    have h := h I10 eI10
    refine lv_iconst (v := (0 : Int32)) hx hb dX0_set_28 (by decide) ?_
    refine lv_istore_n (lv' := [(3, .int (0 : Int32)), (0, .ref (q 12)), (2, .int x2)]) hx hb dX0_set_29 rfl hl (by decide) rfl (fun ls hl => ?_)
    obtain ⟨n, h⟩ := h
    refine L30 n x2 _ (0 : Int32) I10 F _ _ _  hP hS (lv_sub hl [1, 2, 0] rfl) h (fun y11 I12 F13 H locs ls  hP hS hl h => ?_)
    exact hret (I12, F13) _ _ _ _ dX0_set_87 hP hS h
  refine lv_aload_n hx hb dX0_set_0 rfl (lv_at hl 0 rfl) ?_
  refine lv_iload_n hx hb dX0_set_1 rfl (lv_at hl 1 rfl) ?_
  refine lv_iconst (v := (4 : Int32)) hx hb dX0_set_2 (by decide) ?_
  refine lv_icmp_ne (tgt := 10) hx hb dX0_set_3 (by decide) (fun c14 => ?_) (fun c14 => ?_)
  · have h := h.1 c14
    refine lv_iload_n hx hb dX0_set_10 rfl (lv_at hl 1 rfl) ?_
    refine lv_iconst (v := (3 : Int32)) hx hb dX0_set_11 (by decide) ?_
    refine lv_icmp_ne (tgt := 19) hx hb dX0_set_12 (by decide) (fun c15 => ?_) (fun c15 => ?_)
    · have h := h.1 c15
      refine lv_iconst (v := (2 : Int32)) hx hb dX0_set_19 (by decide) ?_
      exact J20 a2 (2 : Int32) I F _ _ _  hP hS (lv_sub hl [0, 2] rfl) h
    · have h := h.2 c15
      refine lv_iconst (v := (1 : Int32)) hx hb dX0_set_15 (by decide) ?_
      refine lv_goto (tgt := 20) hx hb dX0_set_16 (by decide) ?_
      exact J20 a2 (1 : Int32) I F _ _ _  hP hS (lv_sub hl [0, 2] rfl) h
  · have h := h.2 c14
    refine lv_iconst (v := (0 : Int32)) hx hb dX0_set_6 (by decide) ?_
    refine lv_goto (tgt := 20) hx hb dX0_set_7 (by decide) ?_
    exact J20 a2 (0 : Int32) I F _ _ _  hP hS (lv_sub hl [0, 2] rfl) h
def w_X4_playDrawn_11_B32 (x2 : Int32) (k again : Int32 → (Nat → Int32) → (Nat → Nat → Int32) → Prop) (x4 : Int32) (I : Nat → Int32) (F : Nat → Nat → Int32) : Prop :=
  ((x2 ≤ x4 → k x4 I F) ∧ (¬ x2 ≤ x4 → w_X4_nextDraw_11 I F (fun (r2 : Int32) (I3 : Nat → Int32) (F4 : Nat → Nat → Int32) => ∀ v5 : Int32, v5 = (r2 - r2 / (12 : Int32) * (12 : Int32)) → w_X4_nextDraw_11 I3 F4 (fun (r6 : Int32) (I7 : Nat → Int32) (F8 : Nat → Nat → Int32) => ∀ v9 : Int32, v9 = (((v5 + (r6 - r6 / (11 : Int32) * (11 : Int32))) + (1 : Int32)) - ((v5 + (r6 - r6 / (11 : Int32) * (11 : Int32))) + (1 : Int32)) / (12 : Int32) * (12 : Int32)) → w_X4_playChord_11 (((1 : Int32) <<< (v5 &&& 31)) ||| ((1 : Int32) <<< (v9 &&& 31))) I7 F8 (fun (I10 : Nat → Int32) (F11 : Nat → Nat → Int32) => again (x4 + (1 : Int32)) I10 F11)))))
def w_X4_playDrawn_11 (a1 : Int32) (a2 : Int32) (a3 : Int32) (I : Nat → Int32) (F : Nat → Nat → Int32) (post : (Nat → Int32) → (Nat → Nat → Int32) → Prop) : Prop :=
  ∀ I12 : Nat → Int32, I12 = upd I 19 a3 → ∀ I13 : Nat → Int32, I13 = upd I12 20 a1 → ∀ I14 : Nat → Int32, I14 = upd I13 21 (0 : Int32) → ∀ I15 : Nat → Int32, I15 = upd I14 22 (0 : Int32) → w_X0_set_12 (0 : Int32) (0 : Int32) I15 F (fun (I16 : Nat → Int32) (F17 : Nat → Nat → Int32) => gL (fun ag v => w_X4_playDrawn_11_B32 a2 (fun (y18 : Int32) (I19 : Nat → Int32) (F20 : Nat → Nat → Int32) => post I19 F20) (fun b0 b1 b2 => ag (b0, b1, b2)) v.1 v.2.1 v.2.2) ((0 : Int32), I16, F17))
set_option maxHeartbeats 4000000 in
set_option maxRecDepth 100000 in
theorem c_X4_playDrawn_11 (l : Launch) (D : va_G) (q : Nat → Nat) (cI cO : ClassId) (hq : cOk q) (a1 : Int32) (a2 : Int32) (a3 : Int32)  (I : Nat → Int32) (F : Nat → Nat → Int32) (post : (Nat → Int32) → (Nat → Nat → Int32) → Prop) (h : w_X4_playDrawn_11 a1 a2 a3 I F post) : Met l yX4_playDrawn wsX4_playDrawn ({ frames := 3, cells := 0, slots := 0, locals := 73 } : Room) (gPre D (cTys cI cO) (cW q cI cO I F) (cEnv q) [.ref (q 11), .int a1, .int a2, .int a3]) (va_Qv (fun (u : cS) => post u.1 u.2) (gB D (fun u : cS => cW q cI cO u.1 u.2)) (cA q)) 0 0 (cA q) := by
  refine gMetV (by decide) rfl (Nat.le_of_ble_eq_true rfl) ?_
  intro p e R s m args below meth c Q ls hR hx hb hml hown hts hK hE hP hl hret
  have hRf : 3 ≤ R.frames := by subst hR; exact Nat.le_refl _
  have hRl : 73 ≤ R.locals := by subst hR; exact Nat.le_refl _
  have hown : s.vm.findClass RX4 = some m.cls := hown
  have hl : lv_has ls 7 [(0, .ref (q 11)), (1, .int a1), (2, .int a2), (3, .int a3)] := hl
  have hS : va_S (cA q) s.heap s.heap [] := va_S.rf
  have hP : va_P D vwCl (cW q cI cO I F) s.heap := hP
  have L32 : ∀ (n : Nat) (x2 : Int32) (k : Int32 → (Nat → Int32) → (Nat → Nat → Int32) → Prop) (x4 : Int32) (I : Nat → Int32) (F : Nat → Nat → Int32) (H : Heap) (locs : List Loc) (ls : Array Slot), va_P D vwCl (cW q cI cO I F) H → va_S (cA q) s.heap H locs → lv_has ls 7 [(0, .ref (q 11)), (2, .int x2), (4, .int x4)] → gLN (fun ag v => w_X4_playDrawn_11_B32 x2 k (fun b0 b1 b2 => ag (b0, b1, b2)) v.1 v.2.1 v.2.2) n (x4, I, F) → (∀ (x4 : Int32) (I : Nat → Int32) (F : Nat → Nat → Int32) (H : Heap) (locs : List Loc) (ls : Array Slot), va_P D vwCl (cW q cI cO I F) H → va_S (cA q) s.heap H locs → lv_has ls 7 [] → k x4 I F → W p l e R s m args below meth c H locs 0 0 Q (F0 m 83 ls [])) → W p l e R s m args below meth c H locs 0 0 Q (F0 m 32 ls []) := by
    intro n
    induction n with
    | zero =>
      intro x2 k x4 I F H locs ls  hP hS hl h K
      exact False.elim h
    | succ n ih =>
      intro x2 k x4 I F H locs ls  hP hS hl h K
      have h : w_X4_playDrawn_11_B32 x2 k (fun b0 b1 b2 => gLN (fun ag v => w_X4_playDrawn_11_B32 x2 k (fun b0 b1 b2 => ag (b0, b1, b2)) v.1 v.2.1 v.2.2) n (b0, b1, b2)) x4 I F := h
      refine lv_iload hx hb dX4_playDrawn_32 (lv_at hl 2 rfl) ?_
      refine lv_iload_n hx hb dX4_playDrawn_34 rfl (lv_at hl 1 rfl) ?_
      refine lv_icmp_ge (tgt := 83) hx hb dX4_playDrawn_35 (by decide) (fun c1 => ?_) (fun c1 => ?_)
      · have h := h.1 c1
        exact K x4 I F _ _ _  hP hS (lv_sub hl [] rfl) h
      · have h := h.2 c1
        refine lv_aload_n hx hb dX4_playDrawn_38 rfl (lv_at hl 0 rfl) ?_
        refine gCallI (D := D) (va_runV (As := []) (rest := []) ⟨hx, hb, hml, hown, hts⟩ (c_X4_nextDraw_11 l D q cI cO hq   I F _ h) (cwV 0 hts gX4_playDrawn_X4_nextDraw rfl rfl rfl (by decide +kernel) ⟨Nat.le_trans (Nat.le_of_ble_eq_true rfl) hRf, Nat.le_trans (Nat.le_of_ble_eq_true rfl) hRl⟩) (gPreV (ci := 4) (q0 := 11) cEok hE hK hP hS rfl cAt11) rfl rfl hl.1 rfl (lv_room (Nat.le_of_ble_eq_true rfl)) dX4_playDrawn_39 ⟨Nat.zero_le _, Nat.zero_le _⟩) hS (fun r2 u H locs hP hS h => ?_)
        obtain ⟨I3, F4⟩ := u
        have hP : va_P D vwCl (cW q cI cO I3 F4) H := hP
        refine lv_bipush (v := (12 : Int32)) hx hb dX4_playDrawn_42 (by decide) ?_
        refine lv_irem hx hb dX4_playDrawn_44 (by decide) ?_
        refine lv_topi (fun v5 ev5 => ?_)
        have h := h v5 ev5
        refine lv_istore (lv' := [(5, .int v5), (0, .ref (q 11)), (2, .int x2), (4, .int x4)]) hx hb dX4_playDrawn_45 hl (by decide) rfl (fun ls hl => ?_)
        refine lv_iload hx hb dX4_playDrawn_47 (lv_at hl 0 rfl) ?_
        refine lv_aload_n hx hb dX4_playDrawn_49 rfl (lv_at hl 1 rfl) ?_
        refine gCallI (D := D) (va_runV (As := []) (rest := [.int v5]) ⟨hx, hb, hml, hown, hts⟩ (c_X4_nextDraw_11 l D q cI cO hq   I3 F4 _ h) (cwV 0 hts gX4_playDrawn_X4_nextDraw rfl rfl rfl (by decide +kernel) ⟨Nat.le_trans (Nat.le_of_ble_eq_true rfl) hRf, Nat.le_trans (Nat.le_of_ble_eq_true rfl) hRl⟩) (gPreV (ci := 4) (q0 := 11) cEok hE hK hP hS rfl cAt11) rfl rfl hl.1 rfl (lv_room (Nat.le_of_ble_eq_true rfl)) dX4_playDrawn_50 ⟨Nat.zero_le _, Nat.zero_le _⟩) hS (fun r6 u H locs hP hS h => ?_)
        obtain ⟨I7, F8⟩ := u
        have hP : va_P D vwCl (cW q cI cO I7 F8) H := hP
        refine lv_bipush (v := (11 : Int32)) hx hb dX4_playDrawn_53 (by decide) ?_
        refine lv_irem hx hb dX4_playDrawn_55 (by decide) ?_
        refine lv_iadd hx hb dX4_playDrawn_56 ?_
        refine lv_iconst (v := (1 : Int32)) hx hb dX4_playDrawn_57 (by decide) ?_
        refine lv_iadd hx hb dX4_playDrawn_58 ?_
        refine lv_bipush (v := (12 : Int32)) hx hb dX4_playDrawn_59 (by decide) ?_
        refine lv_irem hx hb dX4_playDrawn_61 (by decide) ?_
        refine lv_topi (fun v9 ev9 => ?_)
        have h := h v9 ev9
        refine lv_istore (lv' := [(6, .int v9), (5, .int v5), (0, .ref (q 11)), (2, .int x2), (4, .int x4)]) hx hb dX4_playDrawn_62 hl (by decide) rfl (fun ls hl => ?_)
        refine lv_aload_n hx hb dX4_playDrawn_64 rfl (lv_at hl 2 rfl) ?_
        refine lv_iconst (v := (1 : Int32)) hx hb dX4_playDrawn_65 (by decide) ?_
        refine lv_iload hx hb dX4_playDrawn_66 (lv_at hl 1 rfl) ?_
        refine lv_ishl hx hb dX4_playDrawn_68 ?_
        refine lv_iconst (v := (1 : Int32)) hx hb dX4_playDrawn_69 (by decide) ?_
        refine lv_iload hx hb dX4_playDrawn_70 (lv_at hl 0 rfl) ?_
        refine lv_ishl hx hb dX4_playDrawn_72 ?_
        refine lv_ior hx hb dX4_playDrawn_73 ?_
        refine gCallV (D := D) (va_runV (As := [.int (((1 : Int32) <<< (v5 &&& 31)) ||| ((1 : Int32) <<< (v9 &&& 31)))]) (rest := []) ⟨hx, hb, hml, hown, hts⟩ (c_X4_playChord_11 l D q cI cO hq (((1 : Int32) <<< (v5 &&& 31)) ||| ((1 : Int32) <<< (v9 &&& 31)))  I7 F8 _ h) (cwV 1 hts gX4_playDrawn_X4_playChord rfl rfl rfl (by decide +kernel) ⟨Nat.le_trans (Nat.le_of_ble_eq_true rfl) hRf, Nat.le_trans (Nat.le_of_ble_eq_true rfl) hRl⟩) (gPreV (ci := 4) (q0 := 11) cEok hE hK hP hS rfl cAt11) rfl rfl hl.1 rfl (lv_room (Nat.le_of_ble_eq_true rfl)) dX4_playDrawn_74 ⟨Nat.zero_le _, Nat.zero_le _⟩) hS (fun u H locs hP hS h => ?_)
        obtain ⟨I10, F11⟩ := u
        have hP : va_P D vwCl (cW q cI cO I10 F11) H := hP
        refine lv_iinc (v := (x4 + (1 : Int32))) (lv' := [(4, .int (x4 + (1 : Int32))), (6, .int v9), (5, .int v5), (0, .ref (q 11)), (2, .int x2)]) hx hb dX4_playDrawn_77 hl (k := 4) rfl rfl (by decide) rfl (fun ls hl => ?_)
        refine lv_goto (tgt := 32) hx hb dX4_playDrawn_80 (by decide) ?_
        exact ih x2 _ (x4 + (1 : Int32)) I10 F11 _ _ _  hP hS (lv_sub hl [3, 4, 0] rfl) h K
  refine lv_aload_n hx hb dX4_playDrawn_0 rfl (lv_at hl 0 rfl) ?_
  refine lv_iload_n hx hb dX4_playDrawn_1 rfl (lv_at hl 3 rfl) ?_
  refine gPut (D := D) (ci := 4) (ty := .int) (C := RX4) (T := TX4) (N := 6) hx hb hts (fun _ h9 => List.mem_cons_of_mem _ (List.mem_append_left _ (List.mem_append_left _ (List.mem_append_right _ h9)))) tyX4 tyX4_ok nmX4 hown hK hP (cD hq) hS 11 cAt11 rfl 2 (by decide) (hts _ (List.mem_of_getElem? (l := wsX4_playDrawn) (i := 1) rfl)) (fun _ h9 => h9) rfl (by decide +kernel) rfl rfl (Nat.le_of_ble_eq_true rfl) dX4_playDrawn_2 (cSet19 a3) (fun H locs hP hS => ?_)
  obtain ⟨I12, eI12⟩ : ∃ z : Nat → Int32, z = upd I 19 a3 := ⟨_, rfl⟩
  rw [← eI12] at hP
  have h := h I12 eI12
  refine lv_aload_n hx hb dX4_playDrawn_5 rfl (lv_at hl 0 rfl) ?_
  refine lv_iload_n hx hb dX4_playDrawn_6 rfl (lv_at hl 1 rfl) ?_
  refine gPut (D := D) (ci := 4) (ty := .int) (C := RX4) (T := TX4) (N := 6) hx hb hts (fun _ h9 => List.mem_cons_of_mem _ (List.mem_append_left _ (List.mem_append_left _ (List.mem_append_right _ h9)))) tyX4 tyX4_ok nmX4 hown hK hP (cD hq) hS 11 cAt11 rfl 3 (by decide) (hts _ (List.mem_of_getElem? (l := wsX4_playDrawn) (i := 2) rfl)) (fun _ h9 => h9) rfl (by decide +kernel) rfl rfl (Nat.le_of_ble_eq_true rfl) dX4_playDrawn_7 (cSet20 a1) (fun H locs hP hS => ?_)
  obtain ⟨I13, eI13⟩ : ∃ z : Nat → Int32, z = upd I12 20 a1 := ⟨_, rfl⟩
  rw [← eI13] at hP
  have h := h I13 eI13
  refine lv_aload_n hx hb dX4_playDrawn_10 rfl (lv_at hl 0 rfl) ?_
  refine lv_iconst (v := (0 : Int32)) hx hb dX4_playDrawn_11 (by decide) ?_
  refine gPut (D := D) (ci := 4) (ty := .int) (C := RX4) (T := TX4) (N := 6) hx hb hts (fun _ h9 => List.mem_cons_of_mem _ (List.mem_append_left _ (List.mem_append_left _ (List.mem_append_right _ h9)))) tyX4 tyX4_ok nmX4 hown hK hP (cD hq) hS 11 cAt11 rfl 4 (by decide) (hts _ (List.mem_of_getElem? (l := wsX4_playDrawn) (i := 3) rfl)) (fun _ h9 => h9) rfl (by decide +kernel) rfl rfl (Nat.le_of_ble_eq_true rfl) dX4_playDrawn_12 (cSet21 (0 : Int32)) (fun H locs hP hS => ?_)
  obtain ⟨I14, eI14⟩ : ∃ z : Nat → Int32, z = upd I13 21 (0 : Int32) := ⟨_, rfl⟩
  rw [← eI14] at hP
  have h := h I14 eI14
  refine lv_aload_n hx hb dX4_playDrawn_15 rfl (lv_at hl 0 rfl) ?_
  refine lv_iconst (v := (0 : Int32)) hx hb dX4_playDrawn_16 (by decide) ?_
  refine gPut (D := D) (ci := 4) (ty := .int) (C := RX4) (T := TX4) (N := 6) hx hb hts (fun _ h9 => List.mem_cons_of_mem _ (List.mem_append_left _ (List.mem_append_left _ (List.mem_append_right _ h9)))) tyX4 tyX4_ok nmX4 hown hK hP (cD hq) hS 11 cAt11 rfl 5 (by decide) (hts _ (List.mem_of_getElem? (l := wsX4_playDrawn) (i := 4) rfl)) (fun _ h9 => h9) rfl (by decide +kernel) rfl rfl (Nat.le_of_ble_eq_true rfl) dX4_playDrawn_17 (cSet22 (0 : Int32)) (fun H locs hP hS => ?_)
  obtain ⟨I15, eI15⟩ : ∃ z : Nat → Int32, z = upd I14 22 (0 : Int32) := ⟨_, rfl⟩
  rw [← eI15] at hP
  have h := h I15 eI15
  refine lv_aload_n hx hb dX4_playDrawn_20 rfl (lv_at hl 0 rfl) ?_
  refine va_get (D := D) (ci := 4) (v := .ref (q 12)) (C := RX4) (T := TX4) (N := 6) hx hb hts (fun _ h9 => List.mem_cons_of_mem _ (List.mem_append_left _ (List.mem_append_left _ (List.mem_append_right _ h9)))) hown hK hP 11 cAt11 rfl 1 (by decide) (hts _ (List.mem_of_getElem? (l := wsX4_playDrawn) (i := 5) rfl)) (fun _ h9 => h9) rfl dX4_playDrawn_21 ?_
  refine lv_iconst (v := (0 : Int32)) hx hb dX4_playDrawn_24 (by decide) ?_
  refine lv_iconst (v := (0 : Int32)) hx hb dX4_playDrawn_25 (by decide) ?_
  refine gCallV (D := D) (va_runV (As := [.int (0 : Int32), .int (0 : Int32)]) (rest := []) ⟨hx, hb, hml, hown, hts⟩ (c_X0_set_12 l D q cI cO hq (0 : Int32) (0 : Int32)  I15 F _ h) (cwV 2 hts gX4_playDrawn_X0_set rfl rfl rfl (by decide +kernel) ⟨Nat.le_trans (Nat.le_of_ble_eq_true rfl) hRf, Nat.le_trans (Nat.le_of_ble_eq_true rfl) hRl⟩) (gPreV (ci := 0) (q0 := 12) cEok hE hK hP hS rfl cAt12) rfl rfl hl.1 rfl (lv_room (Nat.le_of_ble_eq_true rfl)) dX4_playDrawn_26 ⟨Nat.zero_le _, Nat.zero_le _⟩) hS (fun u H locs hP hS h => ?_)
  obtain ⟨I16, F17⟩ := u
  have hP : va_P D vwCl (cW q cI cO I16 F17) H := hP
  refine lv_iconst (v := (0 : Int32)) hx hb dX4_playDrawn_29 (by decide) ?_
  refine lv_istore (lv' := [(4, .int (0 : Int32)), (0, .ref (q 11)), (1, .int a1), (2, .int a2), (3, .int a3)]) hx hb dX4_playDrawn_30 hl (by decide) rfl (fun ls hl => ?_)
  obtain ⟨n, h⟩ := h
  refine L32 n a2 _ (0 : Int32) I16 F17 _ _ _  hP hS (lv_sub hl [1, 3, 0] rfl) h (fun y18 I19 F20 H locs ls  hP hS hl h => ?_)
  exact hret (I19, F20) _ _ _ _ dX4_playDrawn_83 hP hS h
def w_X8_drawn (a1 : Int32) (a2 : Int32) (a3 : Int32) (I : Nat → Int32) (F : Nat → Nat → Int32) (post : Int32 → (Nat → Int32) → (Nat → Nat → Int32) → Prop) : Prop :=
  ((a1 < (1 : Int32) → post (-102 : Int32) I F) ∧ (¬ a1 < (1 : Int32) → (((30 : Int32) < a1 → post (-102 : Int32) I F) ∧ (¬ (30 : Int32) < a1 → ((a2 < 0 → post (-102 : Int32) I F) ∧ (¬ a2 < 0 → ((a3 < 0 → post (-102 : Int32) I F) ∧ (¬ a3 < 0 → ((a3 < (3 : Int32) → ((¬ (I 8) = 0 → w_X4_playDrawn_11 (I 7) a1 a2 I F (fun (I7 : Nat → Int32) (F8 : Nat → Nat → Int32) => ((a3 = (0 : Int32) → post (I7 21) I7 F8) ∧ (a3 = (1 : Int32) → post (I7 22) I7 F8) ∧ (¬ a3 = (0 : Int32) → ¬ a3 = (1 : Int32) → post (I7 19) I7 F8)))) ∧ ((I 8) = 0 → post (-103 : Int32) I F))) ∧ (¬ a3 < (3 : Int32) → post (-102 : Int32) I F))))))))))
set_option maxHeartbeats 4000000 in
set_option maxRecDepth 100000 in
theorem c_X8_drawn (l : Launch) (D : va_G) (q : Nat → Nat) (cI cO : ClassId) (hq : cOk q) (a1 : Int32) (a2 : Int32) (a3 : Int32)  (I : Nat → Int32) (F : Nat → Nat → Int32) (post : Int32 → (Nat → Int32) → (Nat → Nat → Int32) → Prop) (h : w_X8_drawn a1 a2 a3 I F post) : Met l yX8_drawn wsX8_drawn ({ frames := 4, cells := 0, slots := 0, locals := 99 } : Room) (gPre D (cTys cI cO) (cW q cI cO I F) (cEnv q) [.ref (q 0), .int a1, .int a2, .int a3]) (va_Qi (fun r (u : cS) => post r u.1 u.2) (gB D (fun u : cS => cW q cI cO u.1 u.2)) (cA q)) 0 0 (cA q) := by
  refine gMetI (by decide) rfl (Nat.le_of_ble_eq_true rfl) ?_
  intro p e R s m args below meth c Q ls hR hx hb hml hown hts hK hE hP hl hret
  have hRf : 4 ≤ R.frames := by subst hR; exact Nat.le_refl _
  have hRl : 99 ≤ R.locals := by subst hR; exact Nat.le_refl _
  have hown : s.vm.findClass RX8 = some m.cls := hown
  have hl : lv_has ls 4 [(0, .ref (q 0)), (1, .int a1), (2, .int a2), (3, .int a3)] := hl
  have hS : va_S (cA q) s.heap s.heap [] := va_S.rf
  have hP : va_P D vwCl (cW q cI cO I F) s.heap := hP
  refine lv_iload_n hx hb dX8_drawn_0 rfl (lv_at hl 1 rfl) ?_
  refine lv_iconst (v := (1 : Int32)) hx hb dX8_drawn_1 (by decide) ?_
  refine lv_icmp_lt (tgt := 24) hx hb dX8_drawn_2 (by decide) (fun c1 => ?_) (fun c1 => ?_)
  · have h := h.1 c1
    refine lv_bipush (v := (-102 : Int32)) hx hb dX8_drawn_24 (by decide) ?_
    exact hret (-102 : Int32) (I, F) _ _ _ _ dX8_drawn_26 hP hS h
  · have h := h.2 c1
    refine lv_iload_n hx hb dX8_drawn_5 rfl (lv_at hl 1 rfl) ?_
    refine lv_bipush (v := (30 : Int32)) hx hb dX8_drawn_6 (by decide) ?_
    refine lv_icmp_gt (tgt := 24) hx hb dX8_drawn_8 (by decide) (fun c2 => ?_) (fun c2 => ?_)
    · have h := h.1 c2
      refine lv_bipush (v := (-102 : Int32)) hx hb dX8_drawn_24 (by decide) ?_
      exact hret (-102 : Int32) (I, F) _ _ _ _ dX8_drawn_26 hP hS h
    · have h := h.2 c2
      refine lv_iload_n hx hb dX8_drawn_11 rfl (lv_at hl 2 rfl) ?_
      refine lv_if_lt (tgt := 24) hx hb dX8_drawn_12 (by decide) (fun c3 => ?_) (fun c3 => ?_)
      · have h := h.1 c3
        refine lv_bipush (v := (-102 : Int32)) hx hb dX8_drawn_24 (by decide) ?_
        exact hret (-102 : Int32) (I, F) _ _ _ _ dX8_drawn_26 hP hS h
      · have h := h.2 c3
        refine lv_iload_n hx hb dX8_drawn_15 rfl (lv_at hl 3 rfl) ?_
        refine lv_if_lt (tgt := 24) hx hb dX8_drawn_16 (by decide) (fun c4 => ?_) (fun c4 => ?_)
        · have h := h.1 c4
          refine lv_bipush (v := (-102 : Int32)) hx hb dX8_drawn_24 (by decide) ?_
          exact hret (-102 : Int32) (I, F) _ _ _ _ dX8_drawn_26 hP hS h
        · have h := h.2 c4
          refine lv_iload_n hx hb dX8_drawn_19 rfl (lv_at hl 3 rfl) ?_
          refine lv_iconst (v := (3 : Int32)) hx hb dX8_drawn_20 (by decide) ?_
          refine lv_icmp_lt (tgt := 27) hx hb dX8_drawn_21 (by decide) (fun c5 => ?_) (fun c5 => ?_)
          · have h := h.1 c5
            refine lv_aload_n hx hb dX8_drawn_27 rfl (lv_at hl 0 rfl) ?_
            refine va_get (D := D) (ci := 8) (v := .ref (q 4)) (C := RX8) (T := TX8) (N := 11) hx hb hts (fun _ h9 => List.mem_cons_of_mem _ (List.mem_append_left _ (List.mem_append_left _ (List.mem_append_left _ (List.mem_append_left _ (List.mem_append_right _ h9)))))) hown hK hP 0 cAt0 rfl 2 (by decide) (hts _ (List.mem_of_getElem? (l := wsX8_drawn) (i := 1) rfl)) (fun _ h9 => h9) rfl dX8_drawn_28 ?_
            refine va_getN (D := D) (ci := 2) (v := .int (I 8)) (C := RX2) (T := TX2) (N := 4) hx hb hts (fun _ h9 => List.mem_cons_of_mem _ (List.mem_append_left _ (List.mem_append_left _ (List.mem_append_left _ (List.mem_append_right _ h9))))) hown hK hP 4 cAt4 rfl 1 (by decide) (va_Nw.use rfl (hE.1.1 _ (List.mem_of_getElem? (l := cNF) (i := 6) rfl))) (fun _ h9 => h9) rfl dX8_drawn_31 ?_
            refine lv_if_ne (tgt := 40) hx hb dX8_drawn_34 (by decide) (fun c6 => ?_) (fun c6 => ?_)
            · have h := h.1 c6
              refine lv_aload_n hx hb dX8_drawn_40 rfl (lv_at hl 0 rfl) ?_
              refine va_get (D := D) (ci := 8) (v := .ref (q 11)) (C := RX8) (T := TX8) (N := 11) hx hb hts (fun _ h9 => List.mem_cons_of_mem _ (List.mem_append_left _ (List.mem_append_left _ (List.mem_append_left _ (List.mem_append_left _ (List.mem_append_right _ h9)))))) hown hK hP 0 cAt0 rfl 8 (by decide) (hts _ (List.mem_of_getElem? (l := wsX8_drawn) (i := 2) rfl)) (fun _ h9 => h9) rfl dX8_drawn_41 ?_
              refine lv_aload_n hx hb dX8_drawn_44 rfl (lv_at hl 0 rfl) ?_
              refine va_get (D := D) (ci := 8) (v := .ref (q 4)) (C := RX8) (T := TX8) (N := 11) hx hb hts (fun _ h9 => List.mem_cons_of_mem _ (List.mem_append_left _ (List.mem_append_left _ (List.mem_append_left _ (List.mem_append_left _ (List.mem_append_right _ h9)))))) hown hK hP 0 cAt0 rfl 2 (by decide) (hts _ (List.mem_of_getElem? (l := wsX8_drawn) (i := 1) rfl)) (fun _ h9 => h9) rfl dX8_drawn_45 ?_
              refine va_getN (D := D) (ci := 2) (v := .int (I 7)) (C := RX2) (T := TX2) (N := 4) hx hb hts (fun _ h9 => List.mem_cons_of_mem _ (List.mem_append_left _ (List.mem_append_left _ (List.mem_append_left _ (List.mem_append_right _ h9))))) hown hK hP 4 cAt4 rfl 0 (by decide) (va_Nw.use rfl (hE.1.1 _ (List.mem_of_getElem? (l := cNF) (i := 4) rfl))) (fun _ h9 => h9) rfl dX8_drawn_48 ?_
              refine lv_iload_n hx hb dX8_drawn_51 rfl (lv_at hl 1 rfl) ?_
              refine lv_iload_n hx hb dX8_drawn_52 rfl (lv_at hl 2 rfl) ?_
              refine gCallV (D := D) (va_runV (As := [.int (I 7), .int a1, .int a2]) (rest := []) ⟨hx, hb, hml, hown, hts⟩ (c_X4_playDrawn_11 l D q cI cO hq (I 7) a1 a2  I F _ h) (cwV 3 hts gX8_drawn_X4_playDrawn rfl rfl rfl (by decide +kernel) ⟨Nat.le_trans (Nat.le_of_ble_eq_true rfl) hRf, Nat.le_trans (Nat.le_of_ble_eq_true rfl) hRl⟩) (gPreV (ci := 4) (q0 := 11) cEok hE hK hP hS rfl cAt11) rfl rfl hl.1 rfl (lv_room (Nat.le_of_ble_eq_true rfl)) dX8_drawn_53 ⟨Nat.zero_le _, Nat.zero_le _⟩) hS (fun u H locs hP hS h => ?_)
              obtain ⟨I7, F8⟩ := u
              have hP : va_P D vwCl (cW q cI cO I7 F8) H := hP
              refine lv_iload_n hx hb dX8_drawn_56 rfl (lv_at hl 3 rfl) ?_
              by_cases c9_0 : a3 = (0 : Int32)
              · have h := h.1 c9_0
                refine lv_lookup (tgt := 84) (off := 27) hx hb dX8_drawn_57 (by decide) (by rw [c9_0]; rfl) (by decide) ?_
                refine lv_aload_n hx hb dX8_drawn_84 rfl (lv_at hl 0 rfl) ?_
                refine va_get (D := D) (ci := 8) (v := .ref (q 11)) (C := RX8) (T := TX8) (N := 11) hx hb hts (fun _ h9 => List.mem_cons_of_mem _ (List.mem_append_left _ (List.mem_append_left _ (List.mem_append_left _ (List.mem_append_left _ (List.mem_append_right _ h9)))))) hown hK hP 0 cAt0 rfl 8 (by decide) (hts _ (List.mem_of_getElem? (l := wsX8_drawn) (i := 2) rfl)) (fun _ h9 => h9) rfl dX8_drawn_85 ?_
                refine va_getN (D := D) (ci := 4) (v := .int (I7 21)) (C := RX4) (T := TX4) (N := 6) hx hb hts (fun _ h9 => List.mem_cons_of_mem _ (List.mem_append_left _ (List.mem_append_left _ (List.mem_append_right _ h9)))) hown hK hP 11 cAt11 rfl 4 (by decide) (va_Nw.use rfl (hE.1.1 _ (List.mem_of_getElem? (l := cNF) (i := 16) rfl))) (fun _ h9 => h9) rfl dX8_drawn_88 ?_
                exact hret (I7 21) (I7, F8) _ _ _ _ dX8_drawn_91 hP hS h
              by_cases c9_1 : a3 = (1 : Int32)
              · have h := h.2.1 c9_1
                refine lv_lookup (tgt := 92) (off := 35) hx hb dX8_drawn_57 (by decide) (by rw [c9_1]; rfl) (by decide) ?_
                refine lv_aload_n hx hb dX8_drawn_92 rfl (lv_at hl 0 rfl) ?_
                refine va_get (D := D) (ci := 8) (v := .ref (q 11)) (C := RX8) (T := TX8) (N := 11) hx hb hts (fun _ h9 => List.mem_cons_of_mem _ (List.mem_append_left _ (List.mem_append_left _ (List.mem_append_left _ (List.mem_append_left _ (List.mem_append_right _ h9)))))) hown hK hP 0 cAt0 rfl 8 (by decide) (hts _ (List.mem_of_getElem? (l := wsX8_drawn) (i := 2) rfl)) (fun _ h9 => h9) rfl dX8_drawn_93 ?_
                refine va_getN (D := D) (ci := 4) (v := .int (I7 22)) (C := RX4) (T := TX4) (N := 6) hx hb hts (fun _ h9 => List.mem_cons_of_mem _ (List.mem_append_left _ (List.mem_append_left _ (List.mem_append_right _ h9)))) hown hK hP 11 cAt11 rfl 5 (by decide) (va_Nw.use rfl (hE.1.1 _ (List.mem_of_getElem? (l := cNF) (i := 17) rfl))) (fun _ h9 => h9) rfl dX8_drawn_96 ?_
                exact hret (I7 22) (I7, F8) _ _ _ _ dX8_drawn_99 hP hS h
              have h := h.2.2 c9_0 c9_1
              refine lv_lookup (tgt := 100) (off := 43) hx hb dX8_drawn_57 (by decide) ((lv_osw c9_0 rfl).trans ((lv_osw c9_1 rfl).trans rfl)) (by decide) ?_
              refine lv_aload_n hx hb dX8_drawn_100 rfl (lv_at hl 0 rfl) ?_
              refine va_get (D := D) (ci := 8) (v := .ref (q 11)) (C := RX8) (T := TX8) (N := 11) hx hb hts (fun _ h9 => List.mem_cons_of_mem _ (List.mem_append_left _ (List.mem_append_left _ (List.mem_append_left _ (List.mem_append_left _ (List.mem_append_right _ h9)))))) hown hK hP 0 cAt0 rfl 8 (by decide) (hts _ (List.mem_of_getElem? (l := wsX8_drawn) (i := 2) rfl)) (fun _ h9 => h9) rfl dX8_drawn_101 ?_
              refine va_getN (D := D) (ci := 4) (v := .int (I7 19)) (C := RX4) (T := TX4) (N := 6) hx hb hts (fun _ h9 => List.mem_cons_of_mem _ (List.mem_append_left _ (List.mem_append_left _ (List.mem_append_right _ h9)))) hown hK hP 11 cAt11 rfl 2 (by decide) (va_Nw.use rfl (hE.1.1 _ (List.mem_of_getElem? (l := cNF) (i := 15) rfl))) (fun _ h9 => h9) rfl dX8_drawn_104 ?_
              exact hret (I7 19) (I7, F8) _ _ _ _ dX8_drawn_107 hP hS h
            · have h := h.2 c6
              refine lv_bipush (v := (-103 : Int32)) hx hb dX8_drawn_37 (by decide) ?_
              exact hret (-103 : Int32) (I, F) _ _ _ _ dX8_drawn_39 hP hS h
          · have h := h.2 c5
            refine lv_bipush (v := (-102 : Int32)) hx hb dX8_drawn_24 (by decide) ?_
            exact hret (-102 : Int32) (I, F) _ _ _ _ dX8_drawn_26 hP hS h
def w_X2_become_5_4  (I : Nat → Int32) (F : Nat → Nat → Int32) (post : (Nat → Int32) → (Nat → Nat → Int32) → Prop) : Prop :=
  ∀ I1 : Nat → Int32, I1 = upd I 9 (I 7) → ∀ I2 : Nat → Int32, I2 = upd I1 10 (I1 8) → ∀ F3 : Nat → Nat → Int32, F3 = upF F 19 (va_cpy (F 17) (F 19) ((0 : Int32)).toNatClampNeg ((0 : Int32)).toNatClampNeg ((8 : Int32)).toNatClampNeg) → ∀ F4 : Nat → Nat → Int32, F4 = upF F3 20 (va_cpy (F3 18) (F3 20) ((0 : Int32)).toNatClampNeg ((0 : Int32)).toNatClampNeg ((8 : Int32)).toNatClampNeg) → post I2 F4
set_option maxHeartbeats 4000000 in
set_option maxRecDepth 100000 in
theorem c_X2_become_5_4 (l : Launch) (D : va_G) (q : Nat → Nat) (cI cO : ClassId) (hq : cOk q)   (I : Nat → Int32) (F : Nat → Nat → Int32) (post : (Nat → Int32) → (Nat → Nat → Int32) → Prop) (h : w_X2_become_5_4  I F post) : Met l yX2_become wsX2_become ({ frames := 1, cells := 0, slots := 0, locals := 40 } : Room) (gPre D (cTys cI cO) (cW q cI cO I F) (cEnv q) [.ref (q 5), .ref (q 4)]) (va_Qv (fun (u : cS) => post u.1 u.2) (gB D (fun u : cS => cW q cI cO u.1 u.2)) (cA q)) 0 0 (cA q) := by
  refine gMetV (by decide) rfl (Nat.le_of_ble_eq_true rfl) ?_
  intro p e R s m args below meth c Q ls hR hx hb hml hown hts hK hE hP hl hret
  have hRf : 1 ≤ R.frames := by subst hR; exact Nat.le_refl _
  have hRl : 40 ≤ R.locals := by subst hR; exact Nat.le_refl _
  have hown : s.vm.findClass RX2 = some m.cls := hown
  have hl : lv_has ls 2 [(0, .ref (q 5)), (1, .ref (q 4))] := hl
  have hS : va_S (cA q) s.heap s.heap [] := va_S.rf
  have hP : va_P D vwCl (cW q cI cO I F) s.heap := hP
  refine lv_aload_n hx hb dX2_become_0 rfl (lv_at hl 0 rfl) ?_
  refine lv_aload_n hx hb dX2_become_1 rfl (lv_at hl 1 rfl) ?_
  refine va_get (D := D) (ci := 2) (v := .int (I 7)) (C := RX2) (T := TX2) (N := 4) hx hb hts (fun _ h9 => List.mem_cons_of_mem _ (List.mem_append_right _ h9)) hown hK hP 4 cAt4 rfl 0 (by decide) (hts _ (List.mem_of_getElem? (l := wsX2_become) (i := 1) rfl)) (fun _ h9 => h9) rfl dX2_become_2 ?_
  refine gPut (D := D) (ci := 2) (ty := .int) (C := RX2) (T := TX2) (N := 4) hx hb hts (fun _ h9 => List.mem_cons_of_mem _ (List.mem_append_right _ h9)) tyX2 tyX2_ok nmX2 hown hK hP (cD hq) hS 5 cAt5 rfl 0 (by decide) (hts _ (List.mem_of_getElem? (l := wsX2_become) (i := 1) rfl)) (fun _ h9 => h9) rfl (by decide +kernel) rfl rfl (Nat.le_of_ble_eq_true rfl) dX2_become_5 (cSet9 (I 7)) (fun H locs hP hS => ?_)
  obtain ⟨I1, eI1⟩ : ∃ z : Nat → Int32, z = upd I 9 (I 7) := ⟨_, rfl⟩
  rw [← eI1] at hP
  have h := h I1 eI1
  refine lv_aload_n hx hb dX2_become_8 rfl (lv_at hl 0 rfl) ?_
  refine lv_aload_n hx hb dX2_become_9 rfl (lv_at hl 1 rfl) ?_
  refine va_get (D := D) (ci := 2) (v := .int (I1 8)) (C := RX2) (T := TX2) (N := 4) hx hb hts (fun _ h9 => List.mem_cons_of_mem _ (List.mem_append_right _ h9)) hown hK hP 4 cAt4 rfl 1 (by decide) (hts _ (List.mem_of_getElem? (l := wsX2_become) (i := 2) rfl)) (fun _ h9 => h9) rfl dX2_become_10 ?_
  refine gPut (D := D) (ci := 2) (ty := .int) (C := RX2) (T := TX2) (N := 4) hx hb hts (fun _ h9 => List.mem_cons_of_mem _ (List.mem_append_right _ h9)) tyX2 tyX2_ok nmX2 hown hK hP (cD hq) hS 5 cAt5 rfl 1 (by decide) (hts _ (List.mem_of_getElem? (l := wsX2_become) (i := 2) rfl)) (fun _ h9 => h9) rfl (by decide +kernel) rfl rfl (Nat.le_of_ble_eq_true rfl) dX2_become_13 (cSet10 (I1 8)) (fun H locs hP hS => ?_)
  obtain ⟨I2, eI2⟩ : ∃ z : Nat → Int32, z = upd I1 10 (I1 8) := ⟨_, rfl⟩
  rw [← eI2] at hP
  have h := h I2 eI2
  refine lv_aload_n hx hb dX2_become_16 rfl (lv_at hl 1 rfl) ?_
  refine va_get (D := D) (ci := 2) (v := .ref (q 17)) (C := RX2) (T := TX2) (N := 4) hx hb hts (fun _ h9 => List.mem_cons_of_mem _ (List.mem_append_right _ h9)) hown hK hP 4 cAt4 rfl 2 (by decide) (hts _ (List.mem_of_getElem? (l := wsX2_become) (i := 3) rfl)) (fun _ h9 => h9) rfl dX2_become_17 ?_
  refine lv_iconst (v := (0 : Int32)) hx hb dX2_become_20 (by decide) ?_
  refine lv_aload_n hx hb dX2_become_21 rfl (lv_at hl 0 rfl) ?_
  refine va_get (D := D) (ci := 2) (v := .ref (q 19)) (C := RX2) (T := TX2) (N := 4) hx hb hts (fun _ h9 => List.mem_cons_of_mem _ (List.mem_append_right _ h9)) hown hK hP 5 cAt5 rfl 2 (by decide) (hts _ (List.mem_of_getElem? (l := wsX2_become) (i := 3) rfl)) (fun _ h9 => h9) rfl dX2_become_22 ?_
  refine lv_iconst (v := (0 : Int32)) hx hb dX2_become_25 (by decide) ?_
  refine lv_bipush (v := (8 : Int32)) hx hb dX2_become_26 (by decide) ?_
  refine gCopy (D := D) hx hb (hml.trans hl.1.symm) hown (hts _ (List.mem_of_getElem? (l := wsX2_become) (i := 4) rfl)) (hts _ (List.mem_of_getElem? (l := wsX2_become) (i := 5) rfl)) (hts _ (List.mem_of_getElem? (l := wsX2_become) (i := 6) rfl)) (hts _ (List.mem_of_getElem? (l := wsX2_become) (i := 7) rfl)) hK hP (cD hq) hS 17 19 0 cAr17 cAr19 rfl (by decide) (by decide) (by decide) (by decide) (by decide) (Nat.le_trans (by decide) hRf) (Nat.le_trans (by decide) hRl) dX2_become_28 (cSA19 _) (fun H locs hP hS => ?_)
  obtain ⟨F3, eF3⟩ : ∃ z : Nat → Nat → Int32, z = upF F 19 (va_cpy (F 17) (F 19) ((0 : Int32)).toNatClampNeg ((0 : Int32)).toNatClampNeg ((8 : Int32)).toNatClampNeg) := ⟨_, rfl⟩
  rw [← eF3] at hP
  have h := h F3 eF3
  refine lv_aload_n hx hb dX2_become_31 rfl (lv_at hl 1 rfl) ?_
  refine va_get (D := D) (ci := 2) (v := .ref (q 18)) (C := RX2) (T := TX2) (N := 4) hx hb hts (fun _ h9 => List.mem_cons_of_mem _ (List.mem_append_right _ h9)) hown hK hP 4 cAt4 rfl 3 (by decide) (hts _ (List.mem_of_getElem? (l := wsX2_become) (i := 8) rfl)) (fun _ h9 => h9) rfl dX2_become_32 ?_
  refine lv_iconst (v := (0 : Int32)) hx hb dX2_become_35 (by decide) ?_
  refine lv_aload_n hx hb dX2_become_36 rfl (lv_at hl 0 rfl) ?_
  refine va_get (D := D) (ci := 2) (v := .ref (q 20)) (C := RX2) (T := TX2) (N := 4) hx hb hts (fun _ h9 => List.mem_cons_of_mem _ (List.mem_append_right _ h9)) hown hK hP 5 cAt5 rfl 3 (by decide) (hts _ (List.mem_of_getElem? (l := wsX2_become) (i := 8) rfl)) (fun _ h9 => h9) rfl dX2_become_37 ?_
  refine lv_iconst (v := (0 : Int32)) hx hb dX2_become_40 (by decide) ?_
  refine lv_bipush (v := (8 : Int32)) hx hb dX2_become_41 (by decide) ?_
  refine gCopy (D := D) hx hb (hml.trans hl.1.symm) hown (hts _ (List.mem_of_getElem? (l := wsX2_become) (i := 4) rfl)) (hts _ (List.mem_of_getElem? (l := wsX2_become) (i := 5) rfl)) (hts _ (List.mem_of_getElem? (l := wsX2_become) (i := 6) rfl)) (hts _ (List.mem_of_getElem? (l := wsX2_become) (i := 7) rfl)) hK hP (cD hq) hS 18 20 0 cAr18 cAr20 rfl (by decide) (by decide) (by decide) (by decide) (by decide) (Nat.le_trans (by decide) hRf) (Nat.le_trans (by decide) hRl) dX2_become_43 (cSA20 _) (fun H locs hP hS => ?_)
  obtain ⟨F4, eF4⟩ : ∃ z : Nat → Nat → Int32, z = upF F3 20 (va_cpy (F3 18) (F3 20) ((0 : Int32)).toNatClampNeg ((0 : Int32)).toNatClampNeg ((8 : Int32)).toNatClampNeg) := ⟨_, rfl⟩
  rw [← eF4] at hP
  have h := h F4 eF4
  exact hret (I2, F4) _ _ _ _ dX2_become_46 hP hS h
