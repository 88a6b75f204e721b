def w_X1_readBy_1_2_B6  (post : Int32 → (Nat → Int32) → (Nat → Nat → Int32) → Prop) (k again : Int32 → (Nat → Int32) → (Nat → Nat → Int32) → Prop) (x2 : Int32) (I : Nat → Int32) (F : Nat → Nat → Int32) : Prop :=
  (((I 2) ≤ x2 → k x2 I F) ∧ (¬ (I 2) ≤ x2 → vp_in x2 56 ∧ w_X5_accept_2 (F 14 (x2).toNatClampNeg) I F (fun (r2 : Int32) (I3 : Nat → Int32) (F4 : Nat → Nat → Int32) => ((¬ r2 = 0 → again (x2 + (1 : Int32)) I3 F4) ∧ (r2 = 0 → post x2 I3 F4)))))
def w_X1_readBy_1_2  (I : Nat → Int32) (F : Nat → Nat → Int32) (post : Int32 → (Nat → Int32) → (Nat → Nat → Int32) → Prop) : Prop :=
  w_X5_restart_2 I F (fun (I6 : Nat → Int32) (F7 : Nat → Nat → Int32) => gL (fun ag v => w_X1_readBy_1_2_B6  post (fun (y8 : Int32) (I9 : Nat → Int32) (F10 : Nat → Nat → Int32) => post (I9 2) I9 F10) (fun b0 b1 b2 => ag (b0, b1, b2)) v.1 v.2.1 v.2.2) ((0 : Int32), I6, F7))
set_option maxHeartbeats 4000000 in
set_option maxRecDepth 100000 in
theorem c_X1_readBy_1_2 (l : Launch) (D : va_G) (q : Nat → Nat) (cI cO : ClassId) (hq : cOk q)   (I : Nat → Int32) (F : Nat → Nat → Int32) (post : Int32 → (Nat → Int32) → (Nat → Nat → Int32) → Prop) (h : w_X1_readBy_1_2  I F post) : Met l yX1_readBy wsX1_readBy ({ frames := 3, cells := 0, slots := 0, locals := 68 } : Room) (gPre D (cTys cI cO) (cW q cI cO I F) (cEnv q) [.ref (q 1), .ref (q 2)]) (va_Qi (fun r (u : cS) => post r u.1 u.2) (gB D (fun u : cS => cW q cI cO u.1 u.2)) (cA q)) 0 0 (cA q) := by
  refine gMetI (by decide) rfl (Nat.le_of_ble_eq_true rfl) ?_
  intro p e R s m args below meth c Q ls hR hx hb hml hown hts hK hE hP hl hret
  have hRf : 3 ≤ R.frames := by subst hR; exact Nat.le_refl _
  have hRl : 68 ≤ R.locals := by subst hR; exact Nat.le_refl _
  have hown : s.vm.findClass RX1 = some m.cls := hown
  have hl : lv_has ls 3 [(0, .ref (q 1)), (1, .ref (q 2))] := hl
  have hS : va_S (cA q) s.heap s.heap [] := va_S.rf
  have hP : va_P D vwCl (cW q cI cO I F) s.heap := hP
  have L6 : ∀ (n : Nat)  (k : Int32 → (Nat → Int32) → (Nat → Nat → Int32) → Prop) (x2 : Int32) (I : Nat → Int32) (F : Nat → Nat → Int32) (H : Heap) (locs : List Loc) (ls : Array Slot), va_P D vwCl (cW q cI cO I F) H → va_S (cA q) s.heap H locs → lv_has ls 3 [(0, .ref (q 1)), (1, .ref (q 2)), (2, .int x2)] → gLN (fun ag v => w_X1_readBy_1_2_B6  post k (fun b0 b1 b2 => ag (b0, b1, b2)) v.1 v.2.1 v.2.2) n (x2, I, F) → (∀ (x2 : Int32) (I : Nat → Int32) (F : Nat → Nat → Int32) (H : Heap) (locs : List Loc) (ls : Array Slot), va_P D vwCl (cW q cI cO I F) H → va_S (cA q) s.heap H locs → lv_has ls 3 [(0, .ref (q 1))] → k x2 I F → W p l e R s m args below meth c H locs 0 0 Q (F0 m 35 ls [])) → W p l e R s m args below meth c H locs 0 0 Q (F0 m 6 ls []) := by
    intro n
    induction n with
    | zero =>
      intro  k x2 I F H locs ls  hP hS hl h K
      exact False.elim h
    | succ n ih =>
      intro  k x2 I F H locs ls  hP hS hl h K
      have h : w_X1_readBy_1_2_B6  post k (fun b0 b1 b2 => gLN (fun ag v => w_X1_readBy_1_2_B6  post k (fun b0 b1 b2 => ag (b0, b1, b2)) v.1 v.2.1 v.2.2) n (b0, b1, b2)) x2 I F := h
      refine lv_iload_n hx hb dX1_readBy_6 rfl (lv_at hl 2 rfl) ?_
      refine lv_aload_n hx hb dX1_readBy_7 rfl (lv_at hl 0 rfl) ?_
      refine va_get (D := D) (ci := 1) (v := .int (I 2)) (C := RX1) (T := TX1) (N := 2) hx hb hts (fun _ h9 => List.mem_cons_of_mem _ (List.mem_append_left _ (List.mem_append_left _ (List.mem_append_right _ h9)))) hown hK hP 1 cAt1 rfl 1 (by decide) (hts _ (List.mem_of_getElem? (l := wsX1_readBy) (i := 1) rfl)) (fun _ h9 => h9) rfl dX1_readBy_8 ?_
      refine lv_icmp_ge (tgt := 35) hx hb dX1_readBy_11 (by decide) (fun c1 => ?_) (fun c1 => ?_)
      · have h := h.1 c1
        exact K x2 I F _ _ _  hP hS (lv_sub hl [0] rfl) h
      · have h := h.2 c1
        refine lv_aload_n hx hb dX1_readBy_14 rfl (lv_at hl 1 rfl) ?_
        refine lv_aload_n hx hb dX1_readBy_15 rfl (lv_at hl 0 rfl) ?_
        refine va_get (D := D) (ci := 1) (v := .ref (q 14)) (C := RX1) (T := TX1) (N := 2) hx hb hts (fun _ h9 => List.mem_cons_of_mem _ (List.mem_append_left _ (List.mem_append_left _ (List.mem_append_right _ h9)))) hown hK hP 1 cAt1 rfl 0 (by decide) (hts _ (List.mem_of_getElem? (l := wsX1_readBy) (i := 2) rfl)) (fun _ h9 => h9) rfl dX1_readBy_16 ?_
        refine lv_iload_n hx hb dX1_readBy_19 rfl (lv_at hl 2 rfl) ?_
        refine va_iald (D := D) hx hb hK hP 14 0 cAr14 rfl h.1 dX1_readBy_20 ?_
        have h := h.2
        refine gCallI (D := D) (va_runV (As := [.int (F 14 (x2).toNatClampNeg)]) (rest := []) ⟨hx, hb, hml, hown, hts⟩ (c_X5_accept_2 l D q cI cO hq (F 14 (x2).toNatClampNeg)  I F _ h) (cwV 1 hts gX1_readBy_X5_accept rfl rfl rfl (by decide +kernel) ⟨Nat.le_trans (Nat.le_of_ble_eq_true rfl) hRf, Nat.le_trans (Nat.le_of_ble_eq_true rfl) hRl⟩) (gPreV (ci := 5) (q0 := 2) cEok hE hK hP hS rfl cAt2) rfl rfl hl.1 rfl (lv_room (Nat.le_of_ble_eq_true rfl)) dX1_readBy_21 ⟨Nat.zero_le _, Nat.zero_le _⟩) hS (fun r2 u H locs hP hS h => ?_)
        obtain ⟨I3, F4⟩ := u
        have hP : va_P D vwCl (cW q cI cO I3 F4) H := hP
        refine lv_if_ne (tgt := 29) hx hb dX1_readBy_24 (by decide) (fun c5 => ?_) (fun c5 => ?_)
        · have h := h.1 c5
          refine lv_iinc (v := (x2 + (1 : Int32))) (lv' := [(2, .int (x2 + (1 : Int32))), (0, .ref (q 1)), (1, .ref (q 2))]) hx hb dX1_readBy_29 hl (k := 2) rfl rfl (by decide) rfl (fun ls hl => ?_)
          refine lv_goto (tgt := 6) hx hb dX1_readBy_32 (by decide) ?_
          exact ih  _ (x2 + (1 : Int32)) I3 F4 _ _ _  hP hS (lv_sub hl [1, 2, 0] rfl) h K
        · have h := h.2 c5
          refine lv_iload_n hx hb dX1_readBy_27 rfl (lv_at hl 2 rfl) ?_
          exact hret x2 (I3, F4) _ _ _ _ dX1_readBy_28 hP hS h
  refine lv_aload_n hx hb dX1_readBy_0 rfl (lv_at hl 1 rfl) ?_
  refine gCallV (D := D) (va_runV (As := []) (rest := []) ⟨hx, hb, hml, hown, hts⟩ (c_X5_restart_2 l D q cI cO hq   I F _ h) (cwV 0 hts gX1_readBy_X5_restart rfl rfl rfl (by decide +kernel) ⟨Nat.le_trans (Nat.le_of_ble_eq_true rfl) hRf, Nat.le_trans (Nat.le_of_ble_eq_true rfl) hRl⟩) (gPreV (ci := 5) (q0 := 2) cEok hE hK hP hS rfl cAt2) rfl rfl hl.1 rfl (lv_room (Nat.le_of_ble_eq_true rfl)) dX1_readBy_1 ⟨Nat.zero_le _, Nat.zero_le _⟩) hS (fun u H locs hP hS h => ?_)
  obtain ⟨I6, F7⟩ := u
  have hP : va_P D vwCl (cW q cI cO I6 F7) H := hP
  refine lv_iconst (v := (0 : Int32)) hx hb dX1_readBy_4 (by decide) ?_
  refine lv_istore_n (lv' := [(2, .int (0 : Int32)), (0, .ref (q 1)), (1, .ref (q 2))]) hx hb dX1_readBy_5 rfl hl (by decide) rfl (fun ls hl => ?_)
  obtain ⟨n, h⟩ := h
  refine L6 n  _ (0 : Int32) I6 F7 _ _ _  hP hS (lv_sub hl [1, 2, 0] rfl) h (fun y8 I9 F10 H locs ls  hP hS hl h => ?_)
  refine lv_aload_n hx hb dX1_readBy_35 rfl (lv_at hl 0 rfl) ?_
  refine va_get (D := D) (ci := 1) (v := .int (I9 2)) (C := RX1) (T := TX1) (N := 2) hx hb hts (fun _ h9 => List.mem_cons_of_mem _ (List.mem_append_left _ (List.mem_append_left _ (List.mem_append_right _ h9)))) hown hK hP 1 cAt1 rfl 1 (by decide) (hts _ (List.mem_of_getElem? (l := wsX1_readBy) (i := 1) rfl)) (fun _ h9 => h9) rfl dX1_readBy_36 ?_
  exact hret (I9 2) (I9, F10) _ _ _ _ dX1_readBy_39 hP hS h
def w_X8_fault  (I : Nat → Int32) (F : Nat → Nat → Int32) (post : Int32 → (Nat → Int32) → (Nat → Nat → Int32) → Prop) : Prop :=
  w_X1_readBy_1_2 I F (fun (r1 : Int32) (I2 : Nat → Int32) (F3 : Nat → Nat → Int32) => post r1 I2 F3)
set_option maxHeartbeats 4000000 in
set_option maxRecDepth 100000 in
theorem c_X8_fault (l : Launch) (D : va_G) (q : Nat → Nat) (cI cO : ClassId) (hq : cOk q)   (I : Nat → Int32) (F : Nat → Nat → Int32) (post : Int32 → (Nat → Int32) → (Nat → Nat → Int32) → Prop) (h : w_X8_fault  I F post) : Met l yX8_fault wsX8_fault ({ frames := 4, cells := 0, slots := 0, locals := 90 } : Room) (gPre D (cTys cI cO) (cW q cI cO I F) (cEnv q) [.ref (q 0)]) (va_Qi (fun r (u : cS) => post r u.1 u.2) (gB D (fun u : cS => cW q cI cO u.1 u.2)) (cA q)) 0 0 (cA q) := by
  refine gMetI (by decide) rfl (Nat.le_of_ble_eq_true rfl) ?_
  intro p e R s m args below meth c Q ls hR hx hb hml hown hts hK hE hP hl hret
  have hRf : 4 ≤ R.frames := by subst hR; exact Nat.le_refl _
  have hRl : 90 ≤ R.locals := by subst hR; exact Nat.le_refl _
  have hown : s.vm.findClass RX8 = some m.cls := hown
  have hl : lv_has ls 1 [(0, .ref (q 0))] := hl
  have hS : va_S (cA q) s.heap s.heap [] := va_S.rf
  have hP : va_P D vwCl (cW q cI cO I F) s.heap := hP
  refine lv_aload_n hx hb dX8_fault_0 rfl (lv_at hl 0 rfl) ?_
  refine va_get (D := D) (ci := 8) (v := .ref (q 1)) (C := RX8) (T := TX8) (N := 11) hx hb hts (fun _ h9 => List.mem_cons_of_mem _ (List.mem_append_left _ (List.mem_append_left _ (List.mem_append_left _ (List.mem_append_right _ h9))))) hown hK hP 0 cAt0 rfl 0 (by decide) (hts _ (List.mem_of_getElem? (l := wsX8_fault) (i := 1) rfl)) (fun _ h9 => h9) rfl dX8_fault_1 ?_
  refine lv_aload_n hx hb dX8_fault_4 rfl (lv_at hl 0 rfl) ?_
  refine va_get (D := D) (ci := 8) (v := .ref (q 2)) (C := RX8) (T := TX8) (N := 11) hx hb hts (fun _ h9 => List.mem_cons_of_mem _ (List.mem_append_left _ (List.mem_append_left _ (List.mem_append_left _ (List.mem_append_right _ h9))))) hown hK hP 0 cAt0 rfl 1 (by decide) (hts _ (List.mem_of_getElem? (l := wsX8_fault) (i := 2) rfl)) (fun _ h9 => h9) rfl dX8_fault_5 ?_
  refine gCallI (D := D) (va_runV (As := [.ref (q 2)]) (rest := []) ⟨hx, hb, hml, hown, hts⟩ (c_X1_readBy_1_2 l D q cI cO hq   I F _ h) (cwV 1 hts gX8_fault_X1_readBy rfl rfl rfl (by decide +kernel) ⟨Nat.le_trans (Nat.le_of_ble_eq_true rfl) hRf, Nat.le_trans (Nat.le_of_ble_eq_true rfl) hRl⟩) (gPreV (ci := 1) (q0 := 1) cEok hE hK hP hS rfl cAt1) rfl rfl hl.1 rfl (lv_room (Nat.le_of_ble_eq_true rfl)) dX8_fault_8 ⟨Nat.zero_le _, Nat.zero_le _⟩) hS (fun r1 u H locs hP hS h => ?_)
  obtain ⟨I2, F3⟩ := u
  have hP : va_P D vwCl (cW q cI cO I2 F3) H := hP
  exact hret r1 (I2, F3) _ _ _ _ dX8_fault_11 hP hS h
def w_X5_isWhole_2  (I : Nat → Int32) (F : Nat → Nat → Int32) (post : Int32 → Prop) : Prop :=
  ((¬ (I 4) = 0 → post (0 : Int32)) ∧ ((I 4) = 0 → w_X2_tonesOfLast_3 I F (fun (r2 : Int32) => ((r2 = 0 → post (0 : Int32)) ∧ (¬ r2 = 0 → post (1 : Int32))))))
set_option maxHeartbeats 4000000 in
set_option maxRecDepth 100000 in
theorem c_X5_isWhole_2 (l : Launch) (D : va_G) (q : Nat → Nat) (cI cO : ClassId) (hq : cOk q)   (I : Nat → Int32) (F : Nat → Nat → Int32) (post : Int32 → Prop) (h : w_X5_isWhole_2  I F post) : Met l yX5_isWhole wsX5_isWhole ({ frames := 1, cells := 0, slots := 0, locals := 20 } : Room) (gPre D (cTys cI cO) (cW q cI cO I F) (cEnv q) [.ref (q 2)]) (va_Qi (fun r (_ : Unit) => post r) (gB D (fun _ : Unit => cW q cI cO I F)) (cA q)) 0 0 (cA q) := by
  refine gMetZ (by decide) rfl (Nat.le_of_ble_eq_true rfl) ?_
  intro p e R s m args below meth c Q ls hR hx hb hml hown hts hK hE hP hl hret
  have hRf : 1 ≤ R.frames := by subst hR; exact Nat.le_refl _
  have hRl : 20 ≤ R.locals := by subst hR; exact Nat.le_refl _
  have hown : s.vm.findClass RX5 = some m.cls := hown
  have hl : lv_has ls 1 [(0, .ref (q 2))] := hl
  have hS : va_S (cA q) s.heap s.heap [] := va_S.rf
  have hP : va_P D vwCl (cW q cI cO I F) s.heap := hP
  refine lv_aload_n hx hb dX5_isWhole_0 rfl (lv_at hl 0 rfl) ?_
  refine va_get (D := D) (ci := 5) (v := .int (I 4)) (C := RX5) (T := TX5) (N := 3) hx hb hts (fun _ h9 => List.mem_cons_of_mem _ (List.mem_append_left _ (List.mem_append_right _ h9))) hown hK hP 2 cAt2 rfl 2 (by decide) (hts _ (List.mem_of_getElem? (l := wsX5_isWhole) (i := 1) rfl)) (fun _ h9 => h9) rfl dX5_isWhole_1 ?_
  refine lv_if_ne (tgt := 21) hx hb dX5_isWhole_4 (by decide) (fun c1 => ?_) (fun c1 => ?_)
  · have h := h.1 c1
    refine lv_iconst (v := (0 : Int32)) hx hb dX5_isWhole_21 (by decide) ?_
    exact hret (0 : Int32) () _ _ _ _ dX5_isWhole_22 hP hS (by decide) h
  · have h := h.2 c1
    refine lv_aload_n hx hb dX5_isWhole_7 rfl (lv_at hl 0 rfl) ?_
    refine va_get (D := D) (ci := 5) (v := .ref (q 3)) (C := RX5) (T := TX5) (N := 3) hx hb hts (fun _ h9 => List.mem_cons_of_mem _ (List.mem_append_left _ (List.mem_append_right _ h9))) hown hK hP 2 cAt2 rfl 0 (by decide) (hts _ (List.mem_of_getElem? (l := wsX5_isWhole) (i := 2) rfl)) (fun _ h9 => h9) rfl dX5_isWhole_8 ?_
    refine gCallI (D := D) (va_runV (As := []) (rest := []) ⟨hx, hb, hml, hown, hts⟩ (c_X2_tonesOfLast_3 l D q cI cO hq   I F _ h) (cwV 0 hts gX5_isWhole_X2_tonesOfLast rfl rfl rfl (by decide +kernel) ⟨Nat.le_trans (Nat.le_of_ble_eq_true rfl) hRf, Nat.le_trans (Nat.le_of_ble_eq_true rfl) hRl⟩) (gPreV (ci := 2) (q0 := 3) cEok hE hK hP hS rfl cAt3) rfl rfl hl.1 rfl (lv_room (Nat.le_of_ble_eq_true rfl)) dX5_isWhole_11 ⟨Nat.zero_le _, Nat.zero_le _⟩) hS (fun r2 _ H locs hP hS h => ?_)
    have hP : va_P D vwCl (cW q cI cO I F) H := hP
    refine lv_if_eq (tgt := 21) hx hb dX5_isWhole_14 (by decide) (fun c3 => ?_) (fun c3 => ?_)
    · have h := h.1 c3
      refine lv_iconst (v := (0 : Int32)) hx hb dX5_isWhole_21 (by decide) ?_
      exact hret (0 : Int32) () _ _ _ _ dX5_isWhole_22 hP hS (by decide) h
    · have h := h.2 c3
      refine lv_iconst (v := (1 : Int32)) hx hb dX5_isWhole_17 (by decide) ?_
      refine lv_goto (tgt := 22) hx hb dX5_isWhole_18 (by decide) ?_
      exact hret (1 : Int32) () _ _ _ _ dX5_isWhole_22 hP hS (by decide) h
def w_X2_become_4_3  (I : Nat → Int32) (F : Nat → Nat → Int32) (post : (Nat → Int32) → (Nat → Nat → Int32) → Prop) : Prop :=
  ∀ I1 : Nat → Int32, I1 = upd I 7 (I 5) → ∀ I2 : Nat → Int32, I2 = upd I1 8 (I1 6) → ∀ F3 : Nat → Nat → Int32, F3 = upF F 17 (va_cpy (F 15) (F 17) ((0 : Int32)).toNatClampNeg ((0 : Int32)).toNatClampNeg ((8 : Int32)).toNatClampNeg) → ∀ F4 : Nat → Nat → Int32, F4 = upF F3 18 (va_cpy (F3 16) (F3 18) ((0 : Int32)).toNatClampNeg ((0 : Int32)).toNatClampNeg ((8 : Int32)).toNatClampNeg) → post I2 F4
set_option maxHeartbeats 4000000 in
set_option maxRecDepth 100000 in
theorem c_X2_become_4_3 (l : Launch) (D : va_G) (q : Nat → Nat) (cI cO : ClassId) (hq : cOk q)   (I : Nat → Int32) (F : Nat → Nat → Int32) (post : (Nat → Int32) → (Nat → Nat → Int32) → Prop) (h : w_X2_become_4_3  I F post) : Met l yX2_become wsX2_become ({ frames := 1, cells := 0, slots := 0, locals := 40 } : Room) (gPre D (cTys cI cO) (cW q cI cO I F) (cEnv q) [.ref (q 4), .ref (q 3)]) (va_Qv (fun (u : cS) => post u.1 u.2) (gB D (fun u : cS => cW q cI cO u.1 u.2)) (cA q)) 0 0 (cA q) := by
  refine gMetV (by decide) rfl (Nat.le_of_ble_eq_true rfl) ?_
  intro p e R s m args below meth c Q ls hR hx hb hml hown hts hK hE hP hl hret
  have hRf : 1 ≤ R.frames := by subst hR; exact Nat.le_refl _
  have hRl : 40 ≤ R.locals := by subst hR; exact Nat.le_refl _
  have hown : s.vm.findClass RX2 = some m.cls := hown
  have hl : lv_has ls 2 [(0, .ref (q 4)), (1, .ref (q 3))] := hl
  have hS : va_S (cA q) s.heap s.heap [] := va_S.rf
  have hP : va_P D vwCl (cW q cI cO I F) s.heap := hP
  refine lv_aload_n hx hb dX2_become_0 rfl (lv_at hl 0 rfl) ?_
  refine lv_aload_n hx hb dX2_become_1 rfl (lv_at hl 1 rfl) ?_
  refine va_get (D := D) (ci := 2) (v := .int (I 5)) (C := RX2) (T := TX2) (N := 4) hx hb hts (fun _ h9 => List.mem_cons_of_mem _ (List.mem_append_right _ h9)) hown hK hP 3 cAt3 rfl 0 (by decide) (hts _ (List.mem_of_getElem? (l := wsX2_become) (i := 1) rfl)) (fun _ h9 => h9) rfl dX2_become_2 ?_
  refine gPut (D := D) (ci := 2) (ty := .int) (C := RX2) (T := TX2) (N := 4) hx hb hts (fun _ h9 => List.mem_cons_of_mem _ (List.mem_append_right _ h9)) tyX2 tyX2_ok nmX2 hown hK hP (cD hq) hS 4 cAt4 rfl 0 (by decide) (hts _ (List.mem_of_getElem? (l := wsX2_become) (i := 1) rfl)) (fun _ h9 => h9) rfl (by decide +kernel) rfl rfl (Nat.le_of_ble_eq_true rfl) dX2_become_5 (cSet7 (I 5)) (fun H locs hP hS => ?_)
  obtain ⟨I1, eI1⟩ : ∃ z : Nat → Int32, z = upd I 7 (I 5) := ⟨_, rfl⟩
  rw [← eI1] at hP
  have h := h I1 eI1
  refine lv_aload_n hx hb dX2_become_8 rfl (lv_at hl 0 rfl) ?_
  refine lv_aload_n hx hb dX2_become_9 rfl (lv_at hl 1 rfl) ?_
  refine va_get (D := D) (ci := 2) (v := .int (I1 6)) (C := RX2) (T := TX2) (N := 4) hx hb hts (fun _ h9 => List.mem_cons_of_mem _ (List.mem_append_right _ h9)) hown hK hP 3 cAt3 rfl 1 (by decide) (hts _ (List.mem_of_getElem? (l := wsX2_become) (i := 2) rfl)) (fun _ h9 => h9) rfl dX2_become_10 ?_
  refine gPut (D := D) (ci := 2) (ty := .int) (C := RX2) (T := TX2) (N := 4) hx hb hts (fun _ h9 => List.mem_cons_of_mem _ (List.mem_append_right _ h9)) tyX2 tyX2_ok nmX2 hown hK hP (cD hq) hS 4 cAt4 rfl 1 (by decide) (hts _ (List.mem_of_getElem? (l := wsX2_become) (i := 2) rfl)) (fun _ h9 => h9) rfl (by decide +kernel) rfl rfl (Nat.le_of_ble_eq_true rfl) dX2_become_13 (cSet8 (I1 6)) (fun H locs hP hS => ?_)
  obtain ⟨I2, eI2⟩ : ∃ z : Nat → Int32, z = upd I1 8 (I1 6) := ⟨_, rfl⟩
  rw [← eI2] at hP
  have h := h I2 eI2
  refine lv_aload_n hx hb dX2_become_16 rfl (lv_at hl 1 rfl) ?_
  refine va_get (D := D) (ci := 2) (v := .ref (q 15)) (C := RX2) (T := TX2) (N := 4) hx hb hts (fun _ h9 => List.mem_cons_of_mem _ (List.mem_append_right _ h9)) hown hK hP 3 cAt3 rfl 2 (by decide) (hts _ (List.mem_of_getElem? (l := wsX2_become) (i := 3) rfl)) (fun _ h9 => h9) rfl dX2_become_17 ?_
  refine lv_iconst (v := (0 : Int32)) hx hb dX2_become_20 (by decide) ?_
  refine lv_aload_n hx hb dX2_become_21 rfl (lv_at hl 0 rfl) ?_
  refine va_get (D := D) (ci := 2) (v := .ref (q 17)) (C := RX2) (T := TX2) (N := 4) hx hb hts (fun _ h9 => List.mem_cons_of_mem _ (List.mem_append_right _ h9)) hown hK hP 4 cAt4 rfl 2 (by decide) (hts _ (List.mem_of_getElem? (l := wsX2_become) (i := 3) rfl)) (fun _ h9 => h9) rfl dX2_become_22 ?_
  refine lv_iconst (v := (0 : Int32)) hx hb dX2_become_25 (by decide) ?_
  refine lv_bipush (v := (8 : Int32)) hx hb dX2_become_26 (by decide) ?_
  refine gCopy (D := D) hx hb (hml.trans hl.1.symm) hown (hts _ (List.mem_of_getElem? (l := wsX2_become) (i := 4) rfl)) (hts _ (List.mem_of_getElem? (l := wsX2_become) (i := 5) rfl)) (hts _ (List.mem_of_getElem? (l := wsX2_become) (i := 6) rfl)) (hts _ (List.mem_of_getElem? (l := wsX2_become) (i := 7) rfl)) hK hP (cD hq) hS 15 17 0 cAr15 cAr17 rfl (by decide) (by decide) (by decide) (by decide) (by decide) (Nat.le_trans (by decide) hRf) (Nat.le_trans (by decide) hRl) dX2_become_28 (cSA17 _) (fun H locs hP hS => ?_)
  obtain ⟨F3, eF3⟩ : ∃ z : Nat → Nat → Int32, z = upF F 17 (va_cpy (F 15) (F 17) ((0 : Int32)).toNatClampNeg ((0 : Int32)).toNatClampNeg ((8 : Int32)).toNatClampNeg) := ⟨_, rfl⟩
  rw [← eF3] at hP
  have h := h F3 eF3
  refine lv_aload_n hx hb dX2_become_31 rfl (lv_at hl 1 rfl) ?_
  refine va_get (D := D) (ci := 2) (v := .ref (q 16)) (C := RX2) (T := TX2) (N := 4) hx hb hts (fun _ h9 => List.mem_cons_of_mem _ (List.mem_append_right _ h9)) hown hK hP 3 cAt3 rfl 3 (by decide) (hts _ (List.mem_of_getElem? (l := wsX2_become) (i := 8) rfl)) (fun _ h9 => h9) rfl dX2_become_32 ?_
  refine lv_iconst (v := (0 : Int32)) hx hb dX2_become_35 (by decide) ?_
  refine lv_aload_n hx hb dX2_become_36 rfl (lv_at hl 0 rfl) ?_
  refine va_get (D := D) (ci := 2) (v := .ref (q 18)) (C := RX2) (T := TX2) (N := 4) hx hb hts (fun _ h9 => List.mem_cons_of_mem _ (List.mem_append_right _ h9)) hown hK hP 4 cAt4 rfl 3 (by decide) (hts _ (List.mem_of_getElem? (l := wsX2_become) (i := 8) rfl)) (fun _ h9 => h9) rfl dX2_become_37 ?_
  refine lv_iconst (v := (0 : Int32)) hx hb dX2_become_40 (by decide) ?_
  refine lv_bipush (v := (8 : Int32)) hx hb dX2_become_41 (by decide) ?_
  refine gCopy (D := D) hx hb (hml.trans hl.1.symm) hown (hts _ (List.mem_of_getElem? (l := wsX2_become) (i := 4) rfl)) (hts _ (List.mem_of_getElem? (l := wsX2_become) (i := 5) rfl)) (hts _ (List.mem_of_getElem? (l := wsX2_become) (i := 6) rfl)) (hts _ (List.mem_of_getElem? (l := wsX2_become) (i := 7) rfl)) hK hP (cD hq) hS 16 18 0 cAr16 cAr18 rfl (by decide) (by decide) (by decide) (by decide) (by decide) (Nat.le_trans (by decide) hRf) (Nat.le_trans (by decide) hRl) dX2_become_43 (cSA18 _) (fun H locs hP hS => ?_)
  obtain ⟨F4, eF4⟩ : ∃ z : Nat → Nat → Int32, z = upF F3 18 (va_cpy (F3 16) (F3 18) ((0 : Int32)).toNatClampNeg ((0 : Int32)).toNatClampNeg ((8 : Int32)).toNatClampNeg) := ⟨_, rfl⟩
  rw [← eF4] at hP
  have h := h F4 eF4
  exact hret (I2, F4) _ _ _ _ dX2_become_46 hP hS h
def w_X3_makeStale_9  (I : Nat → Int32) (F : Nat → Nat → Int32) (post : (Nat → Int32) → (Nat → Nat → Int32) → Prop) : Prop :=
  ∀ I1 : Nat → Int32, I1 = upd I 15 (-1 : Int32) → ∀ I2 : Nat → Int32, I2 = upd I1 16 (0 : Int32) → post I2 F
set_option maxHeartbeats 4000000 in
set_option maxRecDepth 100000 in
theorem c_X3_makeStale_9 (l : Launch) (D : va_G) (q : Nat → Nat) (cI cO : ClassId) (hq : cOk q)   (I : Nat → Int32) (F : Nat → Nat → Int32) (post : (Nat → Int32) → (Nat → Nat → Int32) → Prop) (h : w_X3_makeStale_9  I F post) : Met l yX3_makeStale wsX3_makeStale ({ frames := 0, cells := 0, slots := 0, locals := 0 } : Room) (gPre D (cTys cI cO) (cW q cI cO I F) (cEnv q) [.ref (q 9)]) (va_Qv (fun (u : cS) => post u.1 u.2) (gB D (fun u : cS => cW q cI cO u.1 u.2)) (cA q)) 0 0 (cA q) := by
  refine gMetV (by decide) rfl (Nat.le_of_ble_eq_true rfl) ?_
  intro p e R s m args below meth c Q ls hR hx hb hml hown hts hK hE hP hl hret
  have hRf : 0 ≤ R.frames := by subst hR; exact Nat.le_refl _
  have hRl : 0 ≤ R.locals := by subst hR; exact Nat.le_refl _
  have hown : s.vm.findClass RX3 = some m.cls := hown
  have hl : lv_has ls 1 [(0, .ref (q 9))] := hl
  have hS : va_S (cA q) s.heap s.heap [] := va_S.rf
  have hP : va_P D vwCl (cW q cI cO I F) s.heap := hP
  refine lv_aload_n hx hb dX3_makeStale_0 rfl (lv_at hl 0 rfl) ?_
  refine lv_iconst (v := (-1 : Int32)) hx hb dX3_makeStale_1 (by decide) ?_
  refine gPut (D := D) (ci := 3) (ty := .int) (C := RX3) (T := TX3) (N := 12) hx hb hts (fun _ h9 => List.mem_cons_of_mem _ (List.mem_append_right _ h9)) tyX3 tyX3_ok nmX3 hown hK hP (cD hq) hS 9 cAt9 rfl 10 (by decide) (hts _ (List.mem_of_getElem? (l := wsX3_makeStale) (i := 1) rfl)) (fun _ h9 => h9) rfl (by decide +kernel) rfl rfl (Nat.le_of_ble_eq_true rfl) dX3_makeStale_2 (cSet15 (-1 : Int32)) (fun H locs hP hS => ?_)
  obtain ⟨I1, eI1⟩ : ∃ z : Nat → Int32, z = upd I 15 (-1 : Int32) := ⟨_, rfl⟩
  rw [← eI1] at hP
  have h := h I1 eI1
  refine lv_aload_n hx hb dX3_makeStale_5 rfl (lv_at hl 0 rfl) ?_
  refine lv_iconst (v := (0 : Int32)) hx hb dX3_makeStale_6 (by decide) ?_
  refine gPut (D := D) (ci := 3) (ty := .boolean) (C := RX3) (T := TX3) (N := 12) hx hb hts (fun _ h9 => List.mem_cons_of_mem _ (List.mem_append_right _ h9)) tyX3 tyX3_ok nmX3 hown hK hP (cD hq) hS 9 cAt9 rfl 11 (by decide) (hts _ (List.mem_of_getElem? (l := wsX3_makeStale) (i := 2) rfl)) (fun _ h9 => h9) rfl (by decide +kernel) (by decide) (by decide) (Nat.le_of_ble_eq_true rfl) dX3_makeStale_7 (cSet16 (0 : Int32)) (fun H locs hP hS => ?_)
  obtain ⟨I2, eI2⟩ : ∃ z : Nat → Int32, z = upd I1 16 (0 : Int32) := ⟨_, rfl⟩
  rw [← eI2] at hP
  have h := h I2 eI2
  exact hret (I2, F) _ _ _ _ dX3_makeStale_10 hP hS h
def w_X6_clear_6  (I : Nat → Int32) (F : Nat → Nat → Int32) (post : Int32 → (Nat → Int32) → (Nat → Nat → Int32) → Prop) : Prop :=
  ∀ v1 : Int32, v1 = (I 11) → ∀ I2 : Nat → Int32, I2 = upd I 11 (0 : Int32) → post v1 I2 F
set_option maxHeartbeats 4000000 in
set_option maxRecDepth 100000 in
theorem c_X6_clear_6 (l : Launch) (D : va_G) (q : Nat → Nat) (cI cO : ClassId) (hq : cOk q)   (I : Nat → Int32) (F : Nat → Nat → Int32) (post : Int32 → (Nat → Int32) → (Nat → Nat → Int32) → Prop) (h : w_X6_clear_6  I F post) : Met l yX6_clear wsX6_clear ({ frames := 0, cells := 0, slots := 0, locals := 0 } : Room) (gPre D (cTys cI cO) (cW q cI cO I F) (cEnv q) [.ref (q 6)]) (va_Qi (fun r (u : cS) => post r u.1 u.2) (gB D (fun u : cS => cW q cI cO u.1 u.2)) (cA q)) 0 0 (cA q) := by
  refine gMetI (by decide) rfl (Nat.le_of_ble_eq_true rfl) ?_
  intro p e R s m args below meth c Q ls hR hx hb hml hown hts hK hE hP hl hret
  have hRf : 0 ≤ R.frames := by subst hR; exact Nat.le_refl _
  have hRl : 0 ≤ R.locals := by subst hR; exact Nat.le_refl _
  have hown : s.vm.findClass RX6 = some m.cls := hown
  have hl : lv_has ls 2 [(0, .ref (q 6))] := hl
  have hS : va_S (cA q) s.heap s.heap [] := va_S.rf
  have hP : va_P D vwCl (cW q cI cO I F) s.heap := hP
  refine lv_aload_n hx hb dX6_clear_0 rfl (lv_at hl 0 rfl) ?_
  refine va_get (D := D) (ci := 6) (v := .int (I 11)) (C := RX6) (T := TX6) (N := 3) hx hb hts (fun _ h9 => List.mem_cons_of_mem _ (List.mem_append_right _ h9)) hown hK hP 6 cAt6 rfl 0 (by decide) (hts _ (List.mem_of_getElem? (l := wsX6_clear) (i := 1) rfl)) (fun _ h9 => h9) rfl dX6_clear_1 ?_
  refine lv_topi (fun v1 ev1 => ?_)
  have h := h v1 ev1
  refine lv_istore_n (lv' := [(1, .int v1), (0, .ref (q 6))]) hx hb dX6_clear_4 rfl hl (by decide) rfl (fun ls hl => ?_)
  refine lv_aload_n hx hb dX6_clear_5 rfl (lv_at hl 1 rfl) ?_
  refine lv_iconst (v := (0 : Int32)) hx hb dX6_clear_6 (by decide) ?_
  refine gPut (D := D) (ci := 6) (ty := .int) (C := RX6) (T := TX6) (N := 3) hx hb hts (fun _ h9 => List.mem_cons_of_mem _ (List.mem_append_right _ h9)) tyX6 tyX6_ok nmX6 hown hK hP (cD hq) hS 6 cAt6 rfl 0 (by decide) (hts _ (List.mem_of_getElem? (l := wsX6_clear) (i := 1) rfl)) (fun _ h9 => h9) rfl (by decide +kernel) rfl rfl (Nat.le_of_ble_eq_true rfl) dX6_clear_7 (cSet11 (0 : Int32)) (fun H locs hP hS => ?_)
  obtain ⟨I2, eI2⟩ : ∃ z : Nat → Int32, z = upd I 11 (0 : Int32) := ⟨_, rfl⟩
  rw [← eI2] at hP
  have h := h I2 eI2
  refine lv_iload_n hx hb dX6_clear_10 rfl (lv_at hl 0 rfl) ?_
  exact hret v1 (I2, F) _ _ _ _ dX6_clear_11 hP hS h
def w_X2_clear_5  (I : Nat → Int32) (F : Nat → Nat → Int32) (post : (Nat → Int32) → (Nat → Nat → Int32) → Prop) : Prop :=
  ∀ I1 : Nat → Int32, I1 = upd I 9 (0 : Int32) → ∀ I2 : Nat → Int32, I2 = upd I1 10 (0 : Int32) → post I2 F
set_option maxHeartbeats 4000000 in
set_option maxRecDepth 100000 in
theorem c_X2_clear_5 (l : Launch) (D : va_G) (q : Nat → Nat) (cI cO : ClassId) (hq : cOk q)   (I : Nat → Int32) (F : Nat → Nat → Int32) (post : (Nat → Int32) → (Nat → Nat → Int32) → Prop) (h : w_X2_clear_5  I F post) : Met l yX2_clear wsX2_clear ({ frames := 0, cells := 0, slots := 0, locals := 0 } : Room) (gPre D (cTys cI cO) (cW q cI cO I F) (cEnv q) [.ref (q 5)]) (va_Qv (fun (u : cS) => post u.1 u.2) (gB D (fun u : cS => cW q cI cO u.1 u.2)) (cA q)) 0 0 (cA q) := by
  refine gMetV (by decide) rfl (Nat.le_of_ble_eq_true rfl) ?_
  intro p e R s m args below meth c Q ls hR hx hb hml hown hts hK hE hP hl hret
  have hRf : 0 ≤ R.frames := by subst hR; exact Nat.le_refl _
  have hRl : 0 ≤ R.locals := by subst hR; exact Nat.le_refl _
  have hown : s.vm.findClass RX2 = some m.cls := hown
  have hl : lv_has ls 1 [(0, .ref (q 5))] := hl
  have hS : va_S (cA q) s.heap s.heap [] := va_S.rf
  have hP : va_P D vwCl (cW q cI cO I F) s.heap := hP
  refine lv_aload_n hx hb dX2_clear_0 rfl (lv_at hl 0 rfl) ?_
  refine lv_iconst (v := (0 : Int32)) hx hb dX2_clear_1 (by decide) ?_
  refine gPut (D := D) (ci := 2) (ty := .int) (C := RX2) (T := TX2) (N := 4) hx hb hts (fun _ h9 => List.mem_cons_of_mem _ (List.mem_append_right _ h9)) tyX2 tyX2_ok nmX2 hown hK hP (cD hq) hS 5 cAt5 rfl 0 (by decide) (hts _ (List.mem_of_getElem? (l := wsX2_clear) (i := 1) rfl)) (fun _ h9 => h9) rfl (by decide +kernel) rfl rfl (Nat.le_of_ble_eq_true rfl) dX2_clear_2 (cSet9 (0 : Int32)) (fun H locs hP hS => ?_)
  obtain ⟨I1, eI1⟩ : ∃ z : Nat → Int32, z = upd I 9 (0 : Int32) := ⟨_, rfl⟩
  rw [← eI1] at hP
  have h := h I1 eI1
  refine lv_aload_n hx hb dX2_clear_5 rfl (lv_at hl 0 rfl) ?_
  refine lv_iconst (v := (0 : Int32)) hx hb dX2_clear_6 (by decide) ?_
  refine gPut (D := D) (ci := 2) (ty := .int) (C := RX2) (T := TX2) (N := 4) hx hb hts (fun _ h9 => List.mem_cons_of_mem _ (List.mem_append_right _ h9)) tyX2 tyX2_ok nmX2 hown hK hP (cD hq) hS 5 cAt5 rfl 1 (by decide) (hts _ (List.mem_of_getElem? (l := wsX2_clear) (i := 2) rfl)) (fun _ h9 => h9) rfl (by decide +kernel) rfl rfl (Nat.le_of_ble_eq_true rfl) dX2_clear_7 (cSet10 (0 : Int32)) (fun H locs hP hS => ?_)
  obtain ⟨I2, eI2⟩ : ∃ z : Nat → Int32, z = upd I1 10 (0 : Int32) := ⟨_, rfl⟩
  rw [← eI2] at hP
  have h := h I2 eI2
  exact hret (I2, F) _ _ _ _ dX2_clear_10 hP hS h
def w_X8_part  (I : Nat → Int32) (F : Nat → Nat → Int32) (post : Int32 → (Nat → Int32) → (Nat → Nat → Int32) → Prop) : Prop :=
  w_X1_readBy_1_2 I F (fun (r1 : Int32) (I2 : Nat → Int32) (F3 : Nat → Nat → Int32) => ((r1 < (I2 2) → post (-103 : Int32) I2 F3) ∧ (¬ r1 < (I2 2) → w_X5_isWhole_2 I2 F3 (fun (r5 : Int32) => ((¬ r5 = 0 → w_X2_become_4_3 I2 F3 (fun (I7 : Nat → Int32) (F8 : Nat → Nat → Int32) => w_X3_makeStale_9 I7 F8 (fun (I9 : Nat → Int32) (F10 : Nat → Nat → Int32) => w_X6_clear_6 I9 F10 (fun (r11 : Int32) (I12 : Nat → Int32) (F13 : Nat → Nat → Int32) => w_X2_clear_5 I12 F13 (fun (I14 : Nat → Int32) (F15 : Nat → Nat → Int32) => w_X1_clear_1 I14 F15 (fun (r16 : Int32) (I17 : Nat → Int32) (F18 : Nat → Nat → Int32) => ∀ I19 : Nat → Int32, I19 = upd I17 0 ((I17 0) + (1 : Int32)) → post (I19 8) I19 F18)))))) ∧ (r5 = 0 → post (-103 : Int32) I2 F3))))))
set_option maxHeartbeats 4000000 in
set_option maxRecDepth 100000 in
theorem c_X8_part (l : Launch) (D : va_G) (q : Nat → Nat) (cI cO : ClassId) (hq : cOk q)   (I : Nat → Int32) (F : Nat → Nat → Int32) (post : Int32 → (Nat → Int32) → (Nat → Nat → Int32) → Prop) (h : w_X8_part  I F post) : Met l yX8_part wsX8_part ({ frames := 4, cells := 0, slots := 0, locals := 90 } : Room) (gPre D (cTys cI cO) (cW q cI cO I F) (cEnv q) [.ref (q 0)]) (va_Qi (fun r (u : cS) => post r u.1 u.2) (gB D (fun u : cS => cW q cI cO u.1 u.2)) (cA q)) 0 0 (cA q) := by
  refine gMetI (by decide) rfl (Nat.le_of_ble_eq_true rfl) ?_
  intro p e R s m args below meth c Q ls hR hx hb hml hown hts hK hE hP hl hret
  have hRf : 4 ≤ R.frames := by subst hR; exact Nat.le_refl _
  have hRl : 90 ≤ R.locals := by subst hR; exact Nat.le_refl _
  have hown : s.vm.findClass RX8 = some m.cls := hown
  have hl : lv_has ls 1 [(0, .ref (q 0))] := hl
  have hS : va_S (cA q) s.heap s.heap [] := va_S.rf
  have hP : va_P D vwCl (cW q cI cO I F) s.heap := hP
  refine lv_aload_n hx hb dX8_part_0 rfl (lv_at hl 0 rfl) ?_
  refine va_get (D := D) (ci := 8) (v := .ref (q 1)) (C := RX8) (T := TX8) (N := 11) hx hb hts (fun _ h9 => List.mem_cons_of_mem _ (List.mem_append_left _ (List.mem_append_left _ (List.mem_append_left _ (List.mem_append_left _ (List.mem_append_left _ (List.mem_append_right _ h9))))))) hown hK hP 0 cAt0 rfl 0 (by decide) (hts _ (List.mem_of_getElem? (l := wsX8_part) (i := 1) rfl)) (fun _ h9 => h9) rfl dX8_part_1 ?_
  refine lv_aload_n hx hb dX8_part_4 rfl (lv_at hl 0 rfl) ?_
  refine va_get (D := D) (ci := 8) (v := .ref (q 2)) (C := RX8) (T := TX8) (N := 11) hx hb hts (fun _ h9 => List.mem_cons_of_mem _ (List.mem_append_left _ (List.mem_append_left _ (List.mem_append_left _ (List.mem_append_left _ (List.mem_append_left _ (List.mem_append_right _ h9))))))) hown hK hP 0 cAt0 rfl 1 (by decide) (hts _ (List.mem_of_getElem? (l := wsX8_part) (i := 2) rfl)) (fun _ h9 => h9) rfl dX8_part_5 ?_
  refine gCallI (D := D) (va_runV (As := [.ref (q 2)]) (rest := []) ⟨hx, hb, hml, hown, hts⟩ (c_X1_readBy_1_2 l D q cI cO hq   I F _ h) (cwV 1 hts gX8_part_X1_readBy rfl rfl rfl (by decide +kernel) ⟨Nat.le_trans (Nat.le_of_ble_eq_true rfl) hRf, Nat.le_trans (Nat.le_of_ble_eq_true rfl) hRl⟩) (gPreV (ci := 1) (q0 := 1) cEok hE hK hP hS rfl cAt1) rfl rfl hl.1 rfl (lv_room (Nat.le_of_ble_eq_true rfl)) dX8_part_8 ⟨Nat.zero_le _, Nat.zero_le _⟩) hS (fun r1 u H locs hP hS h => ?_)
  obtain ⟨I2, F3⟩ := u
  have hP : va_P D vwCl (cW q cI cO I2 F3) H := hP
  refine lv_aload_n hx hb dX8_part_11 rfl (lv_at hl 0 rfl) ?_
  refine va_get (D := D) (ci := 8) (v := .ref (q 1)) (C := RX8) (T := TX8) (N := 11) hx hb hts (fun _ h9 => List.mem_cons_of_mem _ (List.mem_append_left _ (List.mem_append_left _ (List.mem_append_left _ (List.mem_append_left _ (List.mem_append_left _ (List.mem_append_right _ h9))))))) hown hK hP 0 cAt0 rfl 0 (by decide) (hts _ (List.mem_of_getElem? (l := wsX8_part) (i := 1) rfl)) (fun _ h9 => h9) rfl dX8_part_12 ?_
  refine va_getN (D := D) (ci := 1) (v := .int (I2 2)) (C := RX1) (T := TX1) (N := 2) hx hb hts (fun _ h9 => List.mem_cons_of_mem _ (List.mem_append_left _ (List.mem_append_left _ (List.mem_append_left _ (List.mem_append_left _ (List.mem_append_right _ h9)))))) hown hK hP 1 cAt1 rfl 1 (by decide) (va_Nw.use rfl (hE.1.1 _ (List.mem_of_getElem? (l := cNF) (i := 1) rfl))) (fun _ h9 => h9) rfl dX8_part_15 ?_
  refine lv_icmp_lt (tgt := 31) hx hb dX8_part_18 (by decide) (fun c4 => ?_) (fun c4 => ?_)
  · have h := h.1 c4
    refine lv_bipush (v := (-103 : Int32)) hx hb dX8_part_31 (by decide) ?_
    exact hret (-103 : Int32) (I2, F3) _ _ _ _ dX8_part_33 hP hS h
  · have h := h.2 c4
    refine lv_aload_n hx hb dX8_part_21 rfl (lv_at hl 0 rfl) ?_
    refine va_get (D := D) (ci := 8) (v := .ref (q 2)) (C := RX8) (T := TX8) (N := 11) hx hb hts (fun _ h9 => List.mem_cons_of_mem _ (List.mem_append_left _ (List.mem_append_left _ (List.mem_append_left _ (List.mem_append_left _ (List.mem_append_left _ (List.mem_append_right _ h9))))))) hown hK hP 0 cAt0 rfl 1 (by decide) (hts _ (List.mem_of_getElem? (l := wsX8_part) (i := 2) rfl)) (fun _ h9 => h9) rfl dX8_part_22 ?_
    refine gCallI (D := D) (va_runV (As := []) (rest := []) ⟨hx, hb, hml, hown, hts⟩ (c_X5_isWhole_2 l D q cI cO hq   I2 F3 _ h) (cwV 0 hts gX8_part_X5_isWhole rfl rfl rfl (by decide +kernel) ⟨Nat.le_trans (Nat.le_of_ble_eq_true rfl) hRf, Nat.le_trans (Nat.le_of_ble_eq_true rfl) hRl⟩) (gPreV (ci := 5) (q0 := 2) cEok hE hK hP hS rfl cAt2) rfl rfl hl.1 rfl (lv_room (Nat.le_of_ble_eq_true rfl)) dX8_part_25 ⟨Nat.zero_le _, Nat.zero_le _⟩) hS (fun r5 _ H locs hP hS h => ?_)
    have hP : va_P D vwCl (cW q cI cO I2 F3) H := hP
    refine lv_if_ne (tgt := 34) hx hb dX8_part_28 (by decide) (fun c6 => ?_) (fun c6 => ?_)
    · have h := h.1 c6
      refine lv_aload_n hx hb dX8_part_34 rfl (lv_at hl 0 rfl) ?_
      refine va_get (D := D) (ci := 8) (v := .ref (q 4)) (C := RX8) (T := TX8) (N := 11) hx hb hts (fun _ h9 => List.mem_cons_of_mem _ (List.mem_append_left _ (List.mem_append_left _ (List.mem_append_left _ (List.mem_append_left _ (List.mem_append_left _ (List.mem_append_right _ h9))))))) hown hK hP 0 cAt0 rfl 2 (by decide) (hts _ (List.mem_of_getElem? (l := wsX8_part) (i := 3) rfl)) (fun _ h9 => h9) rfl dX8_part_35 ?_
      refine lv_aload_n hx hb dX8_part_38 rfl (lv_at hl 0 rfl) ?_
      refine va_get (D := D) (ci := 8) (v := .ref (q 2)) (C := RX8) (T := TX8) (N := 11) hx hb hts (fun _ h9 => List.mem_cons_of_mem _ (List.mem_append_left _ (List.mem_append_left _ (List.mem_append_left _ (List.mem_append_left _ (List.mem_append_left _ (List.mem_append_right _ h9))))))) hown hK hP 0 cAt0 rfl 1 (by decide) (hts _ (List.mem_of_getElem? (l := wsX8_part) (i := 2) rfl)) (fun _ h9 => h9) rfl dX8_part_39 ?_
      refine va_getN (D := D) (ci := 5) (v := .ref (q 3)) (C := RX5) (T := TX5) (N := 3) hx hb hts (fun _ h9 => List.mem_cons_of_mem _ (List.mem_append_left _ (List.mem_append_left _ (List.mem_append_left _ (List.mem_append_right _ h9))))) hown hK hP 2 cAt2 rfl 0 (by decide) (va_Nw.use rfl (hE.1.1 _ (List.mem_of_getElem? (l := cNF) (i := 12) rfl))) (fun _ h9 => h9) rfl dX8_part_42 ?_
      refine gCallV (D := D) (va_runV (As := [.ref (q 3)]) (rest := []) ⟨hx, hb, hml, hown, hts⟩ (c_X2_become_4_3 l D q cI cO hq   I2 F3 _ h) (cwV 1 hts gX8_part_X2_become rfl rfl rfl (by decide +kernel) ⟨Nat.le_trans (Nat.le_of_ble_eq_true rfl) hRf, Nat.le_trans (Nat.le_of_ble_eq_true rfl) hRl⟩) (gPreV (ci := 2) (q0 := 4) cEok hE hK hP hS rfl cAt4) rfl rfl hl.1 rfl (lv_room (Nat.le_of_ble_eq_true rfl)) dX8_part_45 ⟨Nat.zero_le _, Nat.zero_le _⟩) hS (fun u H locs hP hS h => ?_)
      obtain ⟨I7, F8⟩ := u
      have hP : va_P D vwCl (cW q cI cO I7 F8) H := hP
      refine lv_aload_n hx hb dX8_part_48 rfl (lv_at hl 0 rfl) ?_
      refine va_get (D := D) (ci := 8) (v := .ref (q 9)) (C := RX8) (T := TX8) (N := 11) hx hb hts (fun _ h9 => List.mem_cons_of_mem _ (List.mem_append_left _ (List.mem_append_left _ (List.mem_append_left _ (List.mem_append_left _ (List.mem_append_left _ (List.mem_append_right _ h9))))))) hown hK hP 0 cAt0 rfl 7 (by decide) (hts _ (List.mem_of_getElem? (l := wsX8_part) (i := 4) rfl)) (fun _ h9 => h9) rfl dX8_part_49 ?_
      refine gCallV (D := D) (va_runV (As := []) (rest := []) ⟨hx, hb, hml, hown, hts⟩ (c_X3_makeStale_9 l D q cI cO hq   I7 F8 _ h) (cwV 0 hts gX8_part_X3_makeStale rfl rfl rfl (by decide +kernel) ⟨Nat.le_trans (Nat.le_of_ble_eq_true rfl) hRf, Nat.le_trans (Nat.le_of_ble_eq_true rfl) hRl⟩) (gPreV (ci := 3) (q0 := 9) cEok hE hK hP hS rfl cAt9) rfl rfl hl.1 rfl (lv_room (Nat.le_of_ble_eq_true rfl)) dX8_part_52 ⟨Nat.zero_le _, Nat.zero_le _⟩) hS (fun u H locs hP hS h => ?_)
      obtain ⟨I9, F10⟩ := u
      have hP : va_P D vwCl (cW q cI cO I9 F10) H := hP
      refine lv_aload_n hx hb dX8_part_55 rfl (lv_at hl 0 rfl) ?_
      refine va_get (D := D) (ci := 8) (v := .ref (q 6)) (C := RX8) (T := TX8) (N := 11) hx hb hts (fun _ h9 => List.mem_cons_of_mem _ (List.mem_append_left _ (List.mem_append_left _ (List.mem_append_left _ (List.mem_append_left _ (List.mem_append_left _ (List.mem_append_right _ h9))))))) hown hK hP 0 cAt0 rfl 4 (by decide) (hts _ (List.mem_of_getElem? (l := wsX8_part) (i := 5) rfl)) (fun _ h9 => h9) rfl dX8_part_56 ?_
      refine gCallI (D := D) (va_runV (As := []) (rest := []) ⟨hx, hb, hml, hown, hts⟩ (c_X6_clear_6 l D q cI cO hq   I9 F10 _ h) (cwV 0 hts gX8_part_X6_clear rfl rfl rfl (by decide +kernel) ⟨Nat.le_trans (Nat.le_of_ble_eq_true rfl) hRf, Nat.le_trans (Nat.le_of_ble_eq_true rfl) hRl⟩) (gPreV (ci := 6) (q0 := 6) cEok hE hK hP hS rfl cAt6) rfl rfl hl.1 rfl (lv_room (Nat.le_of_ble_eq_true rfl)) dX8_part_59 ⟨Nat.zero_le _, Nat.zero_le _⟩) hS (fun r11 u H locs hP hS h => ?_)
      obtain ⟨I12, F13⟩ := u
      have hP : va_P D vwCl (cW q cI cO I12 F13) H := hP
      refine lv_pop hx hb dX8_part_62 rfl ?_
      refine lv_aload_n hx hb dX8_part_63 rfl (lv_at hl 0 rfl) ?_
      refine va_get (D := D) (ci := 8) (v := .ref (q 5)) (C := RX8) (T := TX8) (N := 11) hx hb hts (fun _ h9 => List.mem_cons_of_mem _ (List.mem_append_left _ (List.mem_append_left _ (List.mem_append_left _ (List.mem_append_left _ (List.mem_append_left _ (List.mem_append_right _ h9))))))) hown hK hP 0 cAt0 rfl 3 (by decide) (hts _ (List.mem_of_getElem? (l := wsX8_part) (i := 6) rfl)) (fun _ h9 => h9) rfl dX8_part_64 ?_
      refine gCallV (D := D) (va_runV (As := []) (rest := []) ⟨hx, hb, hml, hown, hts⟩ (c_X2_clear_5 l D q cI cO hq   I12 F13 _ h) (cwV 0 hts gX8_part_X2_clear rfl rfl rfl (by decide +kernel) ⟨Nat.le_trans (Nat.le_of_ble_eq_true rfl) hRf, Nat.le_trans (Nat.le_of_ble_eq_true rfl) hRl⟩) (gPreV (ci := 2) (q0 := 5) cEok hE hK hP hS rfl cAt5) rfl rfl hl.1 rfl (lv_room (Nat.le_of_ble_eq_true rfl)) dX8_part_67 ⟨Nat.zero_le _, Nat.zero_le _⟩) hS (fun u H locs hP hS h => ?_)
      obtain ⟨I14, F15⟩ := u
      have hP : va_P D vwCl (cW q cI cO I14 F15) H := hP
      refine lv_aload_n hx hb dX8_part_70 rfl (lv_at hl 0 rfl) ?_
      refine va_get (D := D) (ci := 8) (v := .ref (q 1)) (C := RX8) (T := TX8) (N := 11) hx hb hts (fun _ h9 => List.mem_cons_of_mem _ (List.mem_append_left _ (List.mem_append_left _ (List.mem_append_left _ (List.mem_append_left _ (List.mem_append_left _ (List.mem_append_right _ h9))))))) hown hK hP 0 cAt0 rfl 0 (by decide) (hts _ (List.mem_of_getElem? (l := wsX8_part) (i := 1) rfl)) (fun _ h9 => h9) rfl dX8_part_71 ?_
      refine gCallI (D := D) (va_runV (As := []) (rest := []) ⟨hx, hb, hml, hown, hts⟩ (c_X1_clear_1 l D q cI cO hq   I14 F15 _ h) (cwV 0 hts gX8_part_X1_clear rfl rfl rfl (by decide +kernel) ⟨Nat.le_trans (Nat.le_of_ble_eq_true rfl) hRf, Nat.le_trans (Nat.le_of_ble_eq_true rfl) hRl⟩) (gPreV (ci := 1) (q0 := 1) cEok hE hK hP hS rfl cAt1) rfl rfl hl.1 rfl (lv_room (Nat.le_of_ble_eq_true rfl)) dX8_part_74 ⟨Nat.zero_le _, Nat.zero_le _⟩) hS (fun r16 u H locs hP hS h => ?_)
      obtain ⟨I17, F18⟩ := u
      have hP : va_P D vwCl (cW q cI cO I17 F18) H := hP
      refine lv_pop hx hb dX8_part_77 rfl ?_
      refine lv_aload_n hx hb dX8_part_78 rfl (lv_at hl 0 rfl) ?_
      refine lv_dup hx hb dX8_part_79 rfl ?_
      refine va_get (D := D) (ci := 8) (v := .int (I17 0)) (C := RX8) (T := TX8) (N := 11) hx hb hts (fun _ h9 => List.mem_cons_of_mem _ (List.mem_append_left _ (List.mem_append_left _ (List.mem_append_left _ (List.mem_append_left _ (List.mem_append_left _ (List.mem_append_right _ h9))))))) hown hK hP 0 cAt0 rfl 9 (by decide) (hts _ (List.mem_of_getElem? (l := wsX8_part) (i := 7) rfl)) (fun _ h9 => h9) rfl dX8_part_80 ?_
      refine lv_iconst (v := (1 : Int32)) hx hb dX8_part_83 (by decide) ?_
      refine lv_iadd hx hb dX8_part_84 ?_
      refine gPut (D := D) (ci := 8) (ty := .int) (C := RX8) (T := TX8) (N := 11) hx hb hts (fun _ h9 => List.mem_cons_of_mem _ (List.mem_append_left _ (List.mem_append_left _ (List.mem_append_left _ (List.mem_append_left _ (List.mem_append_left _ (List.mem_append_right _ h9))))))) tyX8 tyX8_ok nmX8 hown hK hP (cD hq) hS 0 cAt0 rfl 9 (by decide) (hts _ (List.mem_of_getElem? (l := wsX8_part) (i := 7) rfl)) (fun _ h9 => h9) rfl (by decide +kernel) rfl rfl (Nat.le_of_ble_eq_true rfl) dX8_part_85 (cSet0 ((I17 0) + (1 : Int32))) (fun H locs hP hS => ?_)
      obtain ⟨I19, eI19⟩ : ∃ z : Nat → Int32, z = upd I17 0 ((I17 0) + (1 : Int32)) := ⟨_, rfl⟩
      rw [← eI19] at hP
      have h := h I19 eI19
      refine lv_aload_n hx hb dX8_part_88 rfl (lv_at hl 0 rfl) ?_
      refine va_get (D := D) (ci := 8) (v := .ref (q 4)) (C := RX8) (T := TX8) (N := 11) hx hb hts (fun _ h9 => List.mem_cons_of_mem _ (List.mem_append_left _ (List.mem_append_left _ (List.mem_append_left _ (List.mem_append_left _ (List.mem_append_left _ (List.mem_append_right _ h9))))))) hown hK hP 0 cAt0 rfl 2 (by decide) (hts _ (List.mem_of_getElem? (l := wsX8_part) (i := 3) rfl)) (fun _ h9 => h9) rfl dX8_part_89 ?_
      refine va_getN (D := D) (ci := 2) (v := .int (I19 8)) (C := RX2) (T := TX2) (N := 4) hx hb hts (fun _ h9 => List.mem_cons_of_mem _ (List.mem_append_left _ (List.mem_append_left _ (List.mem_append_right _ h9)))) hown hK hP 4 cAt4 rfl 1 (by decide) (va_Nw.use rfl (hE.1.1 _ (List.mem_of_getElem? (l := cNF) (i := 6) rfl))) (fun _ h9 => h9) rfl dX8_part_92 ?_
      exact hret (I19 8) (I19, F18) _ _ _ _ dX8_part_95 hP hS h
    · have h := h.2 c6
      refine lv_bipush (v := (-103 : Int32)) hx hb dX8_part_31 (by decide) ?_
      exact hret (-103 : Int32) (I2, F3) _ _ _ _ dX8_part_33 hP hS h
def w_X2_has_4 (a1 : Int32) (I : Nat → Int32) (F : Nat → Nat → Int32) (post : Int32 → Prop) : Prop :=
  ((a1 < 0 → post (0 : Int32)) ∧ (¬ a1 < 0 → (((I 8) ≤ a1 → post (0 : Int32)) ∧ (¬ (I 8) ≤ a1 → post (1 : Int32)))))
set_option maxHeartbeats 4000000 in
set_option maxRecDepth 100000 in
theorem c_X2_has_4 (l : Launch) (D : va_G) (q : Nat → Nat) (cI cO : ClassId) (hq : cOk q) (a1 : Int32)  (I : Nat → Int32) (F : Nat → Nat → Int32) (post : Int32 → Prop) (h : w_X2_has_4 a1 I F post) : Met l yX2_has wsX2_has ({ frames := 0, cells := 0, slots := 0, locals := 0 } : Room) (gPre D (cTys cI cO) (cW q cI cO I F) (cEnv q) [.ref (q 4), .int a1]) (va_Qi (fun r (_ : Unit) => post r) (gB D (fun _ : Unit => cW q cI cO I F)) (cA q)) 0 0 (cA q) := by
  refine gMetZ (by decide) rfl (Nat.le_of_ble_eq_true rfl) ?_
  intro p e R s m args below meth c Q ls hR hx hb hml hown hts hK hE hP hl hret
  have hRf : 0 ≤ R.frames := by subst hR; exact Nat.le_refl _
  have hRl : 0 ≤ R.locals := by subst hR; exact Nat.le_refl _
  have hown : s.vm.findClass RX2 = some m.cls := hown
  have hl : lv_has ls 2 [(0, .ref (q 4)), (1, .int a1)] := hl
  have hS : va_S (cA q) s.heap s.heap [] := va_S.rf
  have hP : va_P D vwCl (cW q cI cO I F) s.heap := hP
  refine lv_iload_n hx hb dX2_has_0 rfl (lv_at hl 1 rfl) ?_
  refine lv_if_lt (tgt := 16) hx hb dX2_has_1 (by decide) (fun c1 => ?_) (fun c1 => ?_)
  · have h := h.1 c1
    refine lv_iconst (v := (0 : Int32)) hx hb dX2_has_16 (by decide) ?_
    exact hret (0 : Int32) () _ _ _ _ dX2_has_17 hP hS (by decide) h
  · have h := h.2 c1
    refine lv_iload_n hx hb dX2_has_4 rfl (lv_at hl 1 rfl) ?_
    refine lv_aload_n hx hb dX2_has_5 rfl (lv_at hl 0 rfl) ?_
    refine va_get (D := D) (ci := 2) (v := .int (I 8)) (C := RX2) (T := TX2) (N := 4) hx hb hts (fun _ h9 => List.mem_cons_of_mem _ (List.mem_append_right _ h9)) hown hK hP 4 cAt4 rfl 1 (by decide) (hts _ (List.mem_of_getElem? (l := wsX2_has) (i := 1) rfl)) (fun _ h9 => h9) rfl dX2_has_6 ?_
    refine lv_icmp_ge (tgt := 16) hx hb dX2_has_9 (by decide) (fun c2 => ?_) (fun c2 => ?_)
    · have h := h.1 c2
      refine lv_iconst (v := (0 : Int32)) hx hb dX2_has_16 (by decide) ?_
      exact hret (0 : Int32) () _ _ _ _ dX2_has_17 hP hS (by decide) h
    · have h := h.2 c2
      refine lv_iconst (v := (1 : Int32)) hx hb dX2_has_12 (by decide) ?_
      refine lv_goto (tgt := 17) hx hb dX2_has_13 (by decide) ?_
      exact hret (1 : Int32) () _ _ _ _ dX2_has_17 hP hS (by decide) h
def w_X7_fits_8 (a1 : Int32) (a2 : Int32) (a3 : Int32) (I : Nat → Int32) (F : Nat → Nat → Int32) (post : Int32 → Prop) : Prop :=
  vp_in a1 2187 ∧ ∀ v1 : Int32, v1 = (F 25 (a1).toNatClampNeg) → ((¬ a2 = (1 : Int32) → ((¬ (v1 &&& a3) = a3 → post (0 : Int32)) ∧ ((v1 &&& a3) = a3 → post (1 : Int32)))) ∧ (a2 = (1 : Int32) → ((¬ v1 = a3 → post (0 : Int32)) ∧ (v1 = a3 → post (1 : Int32)))))
set_option maxHeartbeats 4000000 in
set_option maxRecDepth 100000 in
theorem c_X7_fits_8 (l : Launch) (D : va_G) (q : Nat → Nat) (cI cO : ClassId) (hq : cOk q) (a1 : Int32) (a2 : Int32) (a3 : Int32)  (I : Nat → Int32) (F : Nat → Nat → Int32) (post : Int32 → Prop) (h : w_X7_fits_8 a1 a2 a3 I F post) : Met l yX7_fits wsX7_fits ({ frames := 0, cells := 0, slots := 0, locals := 0 } : Room) (gPre D (cTys cI cO) (cW q cI cO I F) (cEnv q) [.ref (q 8), .int a1, .int a2, .int a3]) (va_Qi (fun r (_ : Unit) => post r) (gB D (fun _ : Unit => cW q cI cO I F)) (cA q)) 0 0 (cA q) := by
  refine gMetZ (by decide) rfl (Nat.le_of_ble_eq_true rfl) ?_
  intro p e R s m args below meth c Q ls hR hx hb hml hown hts hK hE hP hl hret
  have hRf : 0 ≤ R.frames := by subst hR; exact Nat.le_refl _
  have hRl : 0 ≤ R.locals := by subst hR; exact Nat.le_refl _
  have hown : s.vm.findClass RX7 = some m.cls := hown
  have hl : lv_has ls 5 [(0, .ref (q 8)), (1, .int a1), (2, .int a2), (3, .int a3)] := hl
  have hS : va_S (cA q) s.heap s.heap [] := va_S.rf
  have hP : va_P D vwCl (cW q cI cO I F) s.heap := hP
  refine lv_aload_n hx hb dX7_fits_0 rfl (lv_at hl 0 rfl) ?_
  refine va_get (D := D) (ci := 7) (v := .ref (q 25)) (C := RX7) (T := TX7) (N := 1) hx hb hts (fun _ h9 => List.mem_cons_of_mem _ (List.mem_append_right _ h9)) hown hK hP 8 cAt8 rfl 0 (by decide) (hts _ (List.mem_of_getElem? (l := wsX7_fits) (i := 1) rfl)) (fun _ h9 => h9) rfl dX7_fits_1 ?_
  refine lv_iload_n hx hb dX7_fits_4 rfl (lv_at hl 1 rfl) ?_
  refine va_iald (D := D) hx hb hK hP 25 0 cAr25 rfl h.1 dX7_fits_5 ?_
  have h := h.2
  refine lv_topi (fun v1 ev1 => ?_)
  have h := h v1 ev1
  refine lv_istore (lv' := [(4, .int v1), (0, .ref (q 8)), (1, .int a1), (2, .int a2), (3, .int a3)]) hx hb dX7_fits_6 hl (by decide) rfl (fun ls hl => ?_)
  refine lv_iload_n hx hb dX7_fits_8 rfl (lv_at hl 3 rfl) ?_
  refine lv_iconst (v := (1 : Int32)) hx hb dX7_fits_9 (by decide) ?_
  refine lv_icmp_ne (tgt := 27) hx hb dX7_fits_10 (by decide) (fun c2 => ?_) (fun c2 => ?_)
  · have h := h.1 c2
    refine lv_iload hx hb dX7_fits_27 (lv_at hl 0 rfl) ?_
    refine lv_iload_n hx hb dX7_fits_29 rfl (lv_at hl 4 rfl) ?_
    refine lv_iand hx hb dX7_fits_30 ?_
    refine lv_iload_n hx hb dX7_fits_31 rfl (lv_at hl 4 rfl) ?_
    refine lv_icmp_ne (tgt := 39) hx hb dX7_fits_32 (by decide) (fun c3 => ?_) (fun c3 => ?_)
    · have h := h.1 c3
      refine lv_iconst (v := (0 : Int32)) hx hb dX7_fits_39 (by decide) ?_
      exact hret (0 : Int32) () _ _ _ _ dX7_fits_40 hP hS (by decide) h
    · have h := h.2 c3
      refine lv_iconst (v := (1 : Int32)) hx hb dX7_fits_35 (by decide) ?_
      refine lv_goto (tgt := 40) hx hb dX7_fits_36 (by decide) ?_
      exact hret (1 : Int32) () _ _ _ _ dX7_fits_40 hP hS (by decide) h
  · have h := h.2 c2
    refine lv_iload hx hb dX7_fits_13 (lv_at hl 0 rfl) ?_
    refine lv_iload_n hx hb dX7_fits_15 rfl (lv_at hl 4 rfl) ?_
    refine lv_icmp_ne (tgt := 23) hx hb dX7_fits_16 (by decide) (fun c4 => ?_) (fun c4 => ?_)
    · have h := h.1 c4
      refine lv_iconst (v := (0 : Int32)) hx hb dX7_fits_23 (by decide) ?_
      refine lv_goto (tgt := 40) hx hb dX7_fits_24 (by decide) ?_
      exact hret (0 : Int32) () _ _ _ _ dX7_fits_40 hP hS (by decide) h
    · have h := h.2 c4
      refine lv_iconst (v := (1 : Int32)) hx hb dX7_fits_19 (by decide) ?_
      refine lv_goto (tgt := 40) hx hb dX7_fits_20 (by decide) ?_
      exact hret (1 : Int32) () _ _ _ _ dX7_fits_40 hP hS (by decide) h
def w_X7_howManyFit_8_B5 (x1 : Int32) (x2 : Int32) (I : Nat → Int32) (F : Nat → Nat → Int32) (k again : Int32 → Int32 → Prop) (x3 : Int32) (x4 : Int32) : Prop :=
  (((2187 : Int32) ≤ x4 → k x3 x4) ∧ (¬ (2187 : Int32) ≤ x4 → w_X7_fits_8 x4 x1 x2 I F (fun (r2 : Int32) => ((r2 = 0 → again x3 (x4 + (1 : Int32))) ∧ (¬ r2 = 0 → again (x3 + (1 : Int32)) (x4 + (1 : Int32)))))))
def w_X7_howManyFit_8 (a1 : Int32) (a2 : Int32) (I : Nat → Int32) (F : Nat → Nat → Int32) (post : Int32 → Prop) : Prop :=
  gL (fun ag v => w_X7_howManyFit_8_B5 a1 a2 I F (fun (y4 : Int32) (y5 : Int32) => post y4) (fun b0 b1 => ag (b0, b1)) v.1 v.2) ((0 : Int32), (0 : Int32))
set_option maxHeartbeats 4000000 in
set_option maxRecDepth 100000 in
theorem c_X7_howManyFit_8 (l : Launch) (D : va_G) (q : Nat → Nat) (cI cO : ClassId) (hq : cOk q) (a1 : Int32) (a2 : Int32)  (I : Nat → Int32) (F : Nat → Nat → Int32) (post : Int32 → Prop) (h : w_X7_howManyFit_8 a1 a2 I F post) : Met l yX7_howManyFit wsX7_howManyFit ({ frames := 1, cells := 0, slots := 0, locals := 24 } : Room) (gPre D (cTys cI cO) (cW q cI cO I F) (cEnv q) [.ref (q 8), .int a1, .int a2]) (va_Qi (fun r (_ : Unit) => post r) (gB D (fun _ : Unit => cW q cI cO I F)) (cA q)) 0 0 (cA q) := by
  refine gMetI (by decide) rfl (Nat.le_of_ble_eq_true rfl) ?_
  intro p e R s m args below meth c Q ls hR hx hb hml hown hts hK hE hP hl hret
  have hRf : 1 ≤ R.frames := by subst hR; exact Nat.le_refl _
  have hRl : 24 ≤ R.locals := by subst hR; exact Nat.le_refl _
  have hown : s.vm.findClass RX7 = some m.cls := hown
  have hl : lv_has ls 5 [(0, .ref (q 8)), (1, .int a1), (2, .int a2)] := hl
  have hS : va_S (cA q) s.heap s.heap [] := va_S.rf
  have hP : va_P D vwCl (cW q cI cO I F) s.heap := hP
  have L5 : ∀ (n : Nat) (x1 : Int32) (x2 : Int32) (k : Int32 → Int32 → Prop) (x3 : Int32) (x4 : Int32) (H : Heap) (locs : List Loc) (ls : Array Slot), va_P D vwCl (cW q cI cO I F) H → va_S (cA q) s.heap H locs → lv_has ls 5 [(0, .ref (q 8)), (1, .int x1), (2, .int x2), (3, .int x3), (4, .int x4)] → gLN (fun ag v => w_X7_howManyFit_8_B5 x1 x2 I F k (fun b0 b1 => ag (b0, b1)) v.1 v.2) n (x3, x4) → (∀ (x3 : Int32) (x4 : Int32) (H : Heap) (locs : List Loc) (ls : Array Slot), va_P D vwCl (cW q cI cO I F) H → va_S (cA q) s.heap H locs → lv_has ls 5 [(3, .int x3)] → k x3 x4 → W p l e R s m args below meth c H locs 0 0 Q (F0 m 33 ls [])) → W p l e R s m args below meth c H locs 0 0 Q (F0 m 5 ls []) := by
    intro n
    induction n with
    | zero =>
      intro x1 x2 k x3 x4 H locs ls  hP hS hl h K
      exact False.elim h
    | succ n ih =>
      intro x1 x2 k x3 x4 H locs ls  hP hS hl h K
      have h : w_X7_howManyFit_8_B5 x1 x2 I F k (fun b0 b1 => gLN (fun ag v => w_X7_howManyFit_8_B5 x1 x2 I F k (fun b0 b1 => ag (b0, b1)) v.1 v.2) n (b0, b1)) x3 x4 := h
      refine lv_iload hx hb dX7_howManyFit_5 (lv_at hl 4 rfl) ?_
      refine lv_sipush (v := (2187 : Int32)) hx hb dX7_howManyFit_7 (by decide) ?_
      refine lv_icmp_ge (tgt := 33) hx hb dX7_howManyFit_10 (by decide) (fun c1 => ?_) (fun c1 => ?_)
      · have h := h.1 c1
        exact K x3 x4 _ _ _  hP hS (lv_sub hl [3] rfl) h
      · have h := h.2 c1
        refine lv_aload_n hx hb dX7_howManyFit_13 rfl (lv_at hl 0 rfl) ?_
        refine lv_iload hx hb dX7_howManyFit_14 (lv_at hl 4 rfl) ?_
        refine lv_iload_n hx hb dX7_howManyFit_16 rfl (lv_at hl 1 rfl) ?_
        refine lv_iload_n hx hb dX7_howManyFit_17 rfl (lv_at hl 2 rfl) ?_
        refine gCallI (D := D) (va_runV (As := [.int x4, .int x1, .int x2]) (rest := []) ⟨hx, hb, hml, hown, hts⟩ (c_X7_fits_8 l D q cI cO hq x4 x1 x2  I F _ h) (cwV 3 hts gX7_howManyFit_X7_fits rfl rfl rfl (by decide +kernel) ⟨Nat.le_trans (Nat.le_of_ble_eq_true rfl) hRf, Nat.le_trans (Nat.le_of_ble_eq_true rfl) hRl⟩) (gPreV (ci := 7) (q0 := 8) cEok hE hK hP hS rfl cAt8) rfl rfl hl.1 rfl (lv_room (Nat.le_of_ble_eq_true rfl)) dX7_howManyFit_18 ⟨Nat.zero_le _, Nat.zero_le _⟩) hS (fun r2 _ H locs hP hS h => ?_)
        have hP : va_P D vwCl (cW q cI cO I F) H := hP
        refine lv_if_eq (tgt := 27) hx hb dX7_howManyFit_21 (by decide) (fun c3 => ?_) (fun c3 => ?_)
        · have h := h.1 c3
          refine lv_iinc (v := (x4 + (1 : Int32))) (lv' := [(4, .int (x4 + (1 : Int32))), (0, .ref (q 8)), (1, .int x1), (2, .int x2), (3, .int x3)]) hx hb dX7_howManyFit_27 hl (k := 4) rfl rfl (by decide) rfl (fun ls hl => ?_)
          refine lv_goto (tgt := 5) hx hb dX7_howManyFit_30 (by decide) ?_
          exact ih x1 x2 _ x3 (x4 + (1 : Int32)) _ _ _  hP hS (lv_sub hl [1, 2, 3, 4, 0] rfl) h K
        · have h := h.2 c3
          refine lv_iinc (v := (x3 + (1 : Int32))) (lv' := [(3, .int (x3 + (1 : Int32))), (0, .ref (q 8)), (1, .int x1), (2, .int x2), (4, .int x4)]) hx hb dX7_howManyFit_24 hl (k := 3) rfl rfl (by decide) rfl (fun ls hl => ?_)
          refine lv_iinc (v := (x4 + (1 : Int32))) (lv' := [(4, .int (x4 + (1 : Int32))), (3, .int (x3 + (1 : Int32))), (0, .ref (q 8)), (1, .int x1), (2, .int x2)]) hx hb dX7_howManyFit_27 hl (k := 4) rfl rfl (by decide) rfl (fun ls hl => ?_)
          refine lv_goto (tgt := 5) hx hb dX7_howManyFit_30 (by decide) ?_
          exact ih x1 x2 _ (x3 + (1 : Int32)) (x4 + (1 : Int32)) _ _ _  hP hS (lv_sub hl [2, 3, 4, 1, 0] rfl) h K
  refine lv_iconst (v := (0 : Int32)) hx hb dX7_howManyFit_0 (by decide) ?_
  refine lv_istore_n (lv' := [(3, .int (0 : Int32)), (0, .ref (q 8)), (1, .int a1), (2, .int a2)]) hx hb dX7_howManyFit_1 rfl hl (by decide) rfl (fun ls hl => ?_)
  refine lv_iconst (v := (0 : Int32)) hx hb dX7_howManyFit_2 (by decide) ?_
  refine lv_istore (lv' := [(4, .int (0 : Int32)), (3, .int (0 : Int32)), (0, .ref (q 8)), (1, .int a1), (2, .int a2)]) hx hb dX7_howManyFit_3 hl (by decide) rfl (fun ls hl => ?_)
  obtain ⟨n, h⟩ := h
  refine L5 n a1 a2 _ (0 : Int32) (0 : Int32) _ _ _  hP hS (lv_sub hl [2, 3, 4, 1, 0] rfl) h (fun y4 y5 H locs ls  hP hS hl h => ?_)
  refine lv_iload_n hx hb dX7_howManyFit_33 rfl (lv_at hl 0 rfl) ?_
  exact hret y4 () _ _ _ _ dX7_howManyFit_34 hP hS h
def w_X7_positionAt (a0 : Int32) (a1 : Int32) (I : Nat → Int32) (F : Nat → Nat → Int32) (post : Int32 → Prop) : Prop :=
  ((a1 = (0 : Int32) → post (a0 / (729 : Int32))) ∧ (a1 = (1 : Int32) → post ((a0 / (243 : Int32)) - (a0 / (243 : Int32)) / (3 : Int32) * (3 : Int32))) ∧ (a1 = (2 : Int32) → post ((a0 / (81 : Int32)) - (a0 / (81 : Int32)) / (3 : Int32) * (3 : Int32))) ∧ (a1 = (3 : Int32) → post ((a0 / (27 : Int32)) - (a0 / (27 : Int32)) / (3 : Int32) * (3 : Int32))) ∧ (a1 = (4 : Int32) → post ((a0 / (9 : Int32)) - (a0 / (9 : Int32)) / (3 : Int32) * (3 : Int32))) ∧ (a1 = (5 : Int32) → post ((a0 / (3 : Int32)) - (a0 / (3 : Int32)) / (3 : Int32) * (3 : Int32))) ∧ (¬ a1 = (0 : Int32) → ¬ a1 = (1 : Int32) → ¬ a1 = (2 : Int32) → ¬ a1 = (3 : Int32) → ¬ a1 = (4 : Int32) → ¬ a1 = (5 : Int32) → post (a0 - a0 / (3 : Int32) * (3 : Int32))))
set_option maxHeartbeats 4000000 in
set_option maxRecDepth 100000 in
theorem c_X7_positionAt (l : Launch) (D : va_G) (q : Nat → Nat) (cI cO : ClassId) (hq : cOk q) (a0 : Int32) (a1 : Int32)  (I : Nat → Int32) (F : Nat → Nat → Int32) (post : Int32 → Prop) (h : w_X7_positionAt a0 a1 I F post) : Met l yX7_positionAt wsX7_positionAt ({ frames := 0, cells := 0, slots := 0, locals := 0 } : Room) (gPre D (cTys cI cO) (cW q cI cO I F) (cEnv q) [.int a0, .int a1]) (va_Qi (fun r (_ : Unit) => post r) (gB D (fun _ : Unit => cW q cI cO I F)) (cA q)) 0 0 (cA q) := by
  refine gMetI (by decide) rfl (Nat.le_of_ble_eq_true rfl) ?_
  intro p e R s m args below meth c Q ls hR hx hb hml hown hts hK hE hP hl hret
  have hRf : 0 ≤ R.frames := by subst hR; exact Nat.le_refl _
  have hRl : 0 ≤ R.locals := by subst hR; exact Nat.le_refl _
  have hown : s.vm.findClass RX7 = some m.cls := hown
  have hl : lv_has ls 2 [(0, .int a0), (1, .int a1)] := hl
  have hS : va_S (cA q) s.heap s.heap [] := va_S.rf
  have hP : va_P D vwCl (cW q cI cO I F) s.heap := hP
  refine lv_iload_n hx hb dX7_positionAt_0 rfl (lv_at hl 1 rfl) ?_
  by_cases c1_0 : a1 = (0 : Int32)
  · have h := h.1 c1_0
    refine lv_tableIn (tgt := 40) (off := 39) hx hb dX7_positionAt_1 (by rw [c1_0]; decide) (by rw [c1_0]; decide) (by rw [c1_0]; rfl) (by decide) ?_
    refine lv_iload_n hx hb dX7_positionAt_40 rfl (lv_at hl 0 rfl) ?_
    refine lv_sipush (v := (729 : Int32)) hx hb dX7_positionAt_41 (by decide) ?_
    refine lv_idiv hx hb dX7_positionAt_44 (by decide) ?_
    exact hret (a0 / (729 : Int32)) () _ _ _ _ dX7_positionAt_45 hP hS h
  by_cases c1_1 : a1 = (1 : Int32)
  · have h := h.2.1 c1_1
    refine lv_tableIn (tgt := 46) (off := 45) hx hb dX7_positionAt_1 (by rw [c1_1]; decide) (by rw [c1_1]; decide) (by rw [c1_1]; rfl) (by decide) ?_
    refine lv_iload_n hx hb dX7_positionAt_46 rfl (lv_at hl 0 rfl) ?_
    refine lv_sipush (v := (243 : Int32)) hx hb dX7_positionAt_47 (by decide) ?_
    refine lv_idiv hx hb dX7_positionAt_50 (by decide) ?_
    refine lv_iconst (v := (3 : Int32)) hx hb dX7_positionAt_51 (by decide) ?_
    refine lv_irem hx hb dX7_positionAt_52 (by decide) ?_
    exact hret ((a0 / (243 : Int32)) - (a0 / (243 : Int32)) / (3 : Int32) * (3 : Int32)) () _ _ _ _ dX7_positionAt_53 hP hS h
  by_cases c1_2 : a1 = (2 : Int32)
  · have h := h.2.2.1 c1_2
    refine lv_tableIn (tgt := 54) (off := 53) hx hb dX7_positionAt_1 (by rw [c1_2]; decide) (by rw [c1_2]; decide) (by rw [c1_2]; rfl) (by decide) ?_
    refine lv_iload_n hx hb dX7_positionAt_54 rfl (lv_at hl 0 rfl) ?_
    refine lv_bipush (v := (81 : Int32)) hx hb dX7_positionAt_55 (by decide) ?_
    refine lv_idiv hx hb dX7_positionAt_57 (by decide) ?_
    refine lv_iconst (v := (3 : Int32)) hx hb dX7_positionAt_58 (by decide) ?_
    refine lv_irem hx hb dX7_positionAt_59 (by decide) ?_
    exact hret ((a0 / (81 : Int32)) - (a0 / (81 : Int32)) / (3 : Int32) * (3 : Int32)) () _ _ _ _ dX7_positionAt_60 hP hS h
  by_cases c1_3 : a1 = (3 : Int32)
  · have h := h.2.2.2.1 c1_3
    refine lv_tableIn (tgt := 61) (off := 60) hx hb dX7_positionAt_1 (by rw [c1_3]; decide) (by rw [c1_3]; decide) (by rw [c1_3]; rfl) (by decide) ?_
    refine lv_iload_n hx hb dX7_positionAt_61 rfl (lv_at hl 0 rfl) ?_
    refine lv_bipush (v := (27 : Int32)) hx hb dX7_positionAt_62 (by decide) ?_
    refine lv_idiv hx hb dX7_positionAt_64 (by decide) ?_
    refine lv_iconst (v := (3 : Int32)) hx hb dX7_positionAt_65 (by decide) ?_
    refine lv_irem hx hb dX7_positionAt_66 (by decide) ?_
    exact hret ((a0 / (27 : Int32)) - (a0 / (27 : Int32)) / (3 : Int32) * (3 : Int32)) () _ _ _ _ dX7_positionAt_67 hP hS h
  by_cases c1_4 : a1 = (4 : Int32)
  · have h := h.2.2.2.2.1 c1_4
    refine lv_tableIn (tgt := 68) (off := 67) hx hb dX7_positionAt_1 (by rw [c1_4]; decide) (by rw [c1_4]; decide) (by rw [c1_4]; rfl) (by decide) ?_
    refine lv_iload_n hx hb dX7_positionAt_68 rfl (lv_at hl 0 rfl) ?_
    refine lv_bipush (v := (9 : Int32)) hx hb dX7_positionAt_69 (by decide) ?_
    refine lv_idiv hx hb dX7_positionAt_71 (by decide) ?_
    refine lv_iconst (v := (3 : Int32)) hx hb dX7_positionAt_72 (by decide) ?_
    refine lv_irem hx hb dX7_positionAt_73 (by decide) ?_
    exact hret ((a0 / (9 : Int32)) - (a0 / (9 : Int32)) / (3 : Int32) * (3 : Int32)) () _ _ _ _ dX7_positionAt_74 hP hS h
  by_cases c1_5 : a1 = (5 : Int32)
  · have h := h.2.2.2.2.2.1 c1_5
    refine lv_tableIn (tgt := 75) (off := 74) hx hb dX7_positionAt_1 (by rw [c1_5]; decide) (by rw [c1_5]; decide) (by rw [c1_5]; rfl) (by decide) ?_
    refine lv_iload_n hx hb dX7_positionAt_75 rfl (lv_at hl 0 rfl) ?_
    refine lv_iconst (v := (3 : Int32)) hx hb dX7_positionAt_76 (by decide) ?_
    refine lv_idiv hx hb dX7_positionAt_77 (by decide) ?_
    refine lv_iconst (v := (3 : Int32)) hx hb dX7_positionAt_78 (by decide) ?_
    refine lv_irem hx hb dX7_positionAt_79 (by decide) ?_
    exact hret ((a0 / (3 : Int32)) - (a0 / (3 : Int32)) / (3 : Int32) * (3 : Int32)) () _ _ _ _ dX7_positionAt_80 hP hS h
  have h := h.2.2.2.2.2.2 c1_0 c1_1 c1_2 c1_3 c1_4 c1_5
  have tc1_0 := lv_neT (a := 0) c1_0 rfl
  have tc1_1 := lv_neT (a := 1) c1_1 rfl
  have tc1_2 := lv_neT (a := 2) c1_2 rfl
  have tc1_3 := lv_neT (a := 3) c1_3 rfl
  have tc1_4 := lv_neT (a := 4) c1_4 rfl
  have tc1_5 := lv_neT (a := 5) c1_5 rfl
  refine lv_tableOut (tgt := 81) hx hb dX7_positionAt_1 (by omega) (by decide) ?_
  refine lv_iload_n hx hb dX7_positionAt_81 rfl (lv_at hl 0 rfl) ?_
  refine lv_iconst (v := (3 : Int32)) hx hb dX7_positionAt_82 (by decide) ?_
  refine lv_irem hx hb dX7_positionAt_83 (by decide) ?_
  exact hret (a0 - a0 / (3 : Int32) * (3 : Int32)) () _ _ _ _ dX7_positionAt_84 hP hS h
def w_X7_numberOf_B4 (x0 : Int32) (I : Nat → Int32) (F : Nat → Nat → Int32) (k again : Int32 → Int32 → Prop) (x1 : Int32) (x2 : Int32) : Prop :=
  (((7 : Int32) ≤ x2 → k x1 x2) ∧ (¬ (7 : Int32) ≤ x2 → w_X7_positionAt x0 x2 I F (fun (r2 : Int32) => ∀ v3 : Int32, v3 = ((x1 * (10 : Int32)) + r2) → again v3 (x2 + (1 : Int32)))))
def w_X7_numberOf (a0 : Int32) (I : Nat → Int32) (F : Nat → Nat → Int32) (post : Int32 → Prop) : Prop :=
  gL (fun ag v => w_X7_numberOf_B4 a0 I F (fun (y4 : Int32) (y5 : Int32) => post y4) (fun b0 b1 => ag (b0, b1)) v.1 v.2) ((0 : Int32), (0 : Int32))
set_option maxHeartbeats 4000000 in
set_option maxRecDepth 100000 in
theorem c_X7_numberOf (l : Launch) (D : va_G) (q : Nat → Nat) (cI cO : ClassId) (hq : cOk q) (a0 : Int32)  (I : Nat → Int32) (F : Nat → Nat → Int32) (post : Int32 → Prop) (h : w_X7_numberOf a0 I F post) : Met l yX7_numberOf wsX7_numberOf ({ frames := 1, cells := 0, slots := 0, locals := 21 } : Room) (gPre D (cTys cI cO) (cW q cI cO I F) (cEnv q) [.int a0]) (va_Qi (fun r (_ : Unit) => post r) (gB D (fun _ : Unit => cW q cI cO I F)) (cA q)) 0 0 (cA q) := by
  refine gMetI (by decide) rfl (Nat.le_of_ble_eq_true rfl) ?_
  intro p e R s m args below meth c Q ls hR hx hb hml hown hts hK hE hP hl hret
  have hRf : 1 ≤ R.frames := by subst hR; exact Nat.le_refl _
  have hRl : 21 ≤ R.locals := by subst hR; exact Nat.le_refl _
  have hown : s.vm.findClass RX7 = some m.cls := hown
  have hl : lv_has ls 3 [(0, .int a0)] := hl
  have hS : va_S (cA q) s.heap s.heap [] := va_S.rf
  have hP : va_P D vwCl (cW q cI cO I F) s.heap := hP
  have L4 : ∀ (n : Nat) (x0 : Int32) (k : Int32 → Int32 → Prop) (x1 : Int32) (x2 : Int32) (H : Heap) (locs : List Loc) (ls : Array Slot), va_P D vwCl (cW q cI cO I F) H → va_S (cA q) s.heap H locs → lv_has ls 3 [(0, .int x0), (1, .int x1), (2, .int x2)] → gLN (fun ag v => w_X7_numberOf_B4 x0 I F k (fun b0 b1 => ag (b0, b1)) v.1 v.2) n (x1, x2) → (∀ (x1 : Int32) (x2 : Int32) (H : Heap) (locs : List Loc) (ls : Array Slot), va_P D vwCl (cW q cI cO I F) H → va_S (cA q) s.heap H locs → lv_has ls 3 [(1, .int x1)] → k x1 x2 → W p l e R s m args below meth c H locs 0 0 Q (F0 m 27 ls [])) → W p l e R s m args below meth c H locs 0 0 Q (F0 m 4 ls []) := by
    intro n
    induction n with
    | zero =>
      intro x0 k x1 x2 H locs ls  hP hS hl h K
      exact False.elim h
    | succ n ih =>
      intro x0 k x1 x2 H locs ls  hP hS hl h K
      have h : w_X7_numberOf_B4 x0 I F k (fun b0 b1 => gLN (fun ag v => w_X7_numberOf_B4 x0 I F k (fun b0 b1 => ag (b0, b1)) v.1 v.2) n (b0, b1)) x1 x2 := h
      refine lv_iload_n hx hb dX7_numberOf_4 rfl (lv_at hl 2 rfl) ?_
      refine lv_bipush (v := (7 : Int32)) hx hb dX7_numberOf_5 (by decide) ?_
      refine lv_icmp_ge (tgt := 27) hx hb dX7_numberOf_7 (by decide) (fun c1 => ?_) (fun c1 => ?_)
      · have h := h.1 c1
        exact K x1 x2 _ _ _  hP hS (lv_sub hl [1] rfl) h
      · have h := h.2 c1
        refine lv_iload_n hx hb dX7_numberOf_10 rfl (lv_at hl 1 rfl) ?_
        refine lv_bipush (v := (10 : Int32)) hx hb dX7_numberOf_11 (by decide) ?_
        refine lv_imul hx hb dX7_numberOf_13 ?_
        refine lv_iload_n hx hb dX7_numberOf_14 rfl (lv_at hl 0 rfl) ?_
        refine lv_iload_n hx hb dX7_numberOf_15 rfl (lv_at hl 2 rfl) ?_
        refine gCallI (D := D) (va_runS (As := [.int x0, .int x2]) (rest := [.int (x1 * (10 : Int32))]) ⟨hx, hb, hml, hown, hts⟩ (c_X7_positionAt l D q cI cO hq x0 x2  I F _ h) (va_cwS 2 hts gX7_numberOf_X7_positionAt rfl rfl rfl (by decide +kernel) ⟨Nat.le_trans (Nat.le_of_ble_eq_true rfl) hRf, Nat.le_trans (Nat.le_of_ble_eq_true rfl) hRl⟩) (gPreS cEok hE hK hP hS) rfl rfl hl.1 rfl (lv_room (Nat.le_of_ble_eq_true rfl)) dX7_numberOf_16 ⟨Nat.zero_le _, Nat.zero_le _⟩) hS (fun r2 _ H locs hP hS h => ?_)
        have hP : va_P D vwCl (cW q cI cO I F) H := hP
        refine lv_iadd hx hb dX7_numberOf_19 ?_
        refine lv_topi (fun v3 ev3 => ?_)
        have h := h v3 ev3
        refine lv_istore_n (lv' := [(1, .int v3), (0, .int x0), (2, .int x2)]) hx hb dX7_numberOf_20 rfl hl (by decide) rfl (fun ls hl => ?_)
        refine lv_iinc (v := (x2 + (1 : Int32))) (lv' := [(2, .int (x2 + (1 : Int32))), (1, .int v3), (0, .int x0)]) hx hb dX7_numberOf_21 hl (k := 2) rfl rfl (by decide) rfl (fun ls hl => ?_)
        refine lv_goto (tgt := 4) hx hb dX7_numberOf_24 (by decide) ?_
        exact ih x0 _ v3 (x2 + (1 : Int32)) _ _ _  hP hS (lv_sub hl [2, 1, 0] rfl) h K
  refine lv_iconst (v := (0 : Int32)) hx hb dX7_numberOf_0 (by decide) ?_
  refine lv_istore_n (lv' := [(1, .int (0 : Int32)), (0, .int a0)]) hx hb dX7_numberOf_1 rfl hl (by decide) rfl (fun ls hl => ?_)
  refine lv_iconst (v := (0 : Int32)) hx hb dX7_numberOf_2 (by decide) ?_
  refine lv_istore_n (lv' := [(2, .int (0 : Int32)), (1, .int (0 : Int32)), (0, .int a0)]) hx hb dX7_numberOf_3 rfl hl (by decide) rfl (fun ls hl => ?_)
  obtain ⟨n, h⟩ := h
  refine L4 n a0 _ (0 : Int32) (0 : Int32) _ _ _  hP hS (lv_sub hl [2, 1, 0] rfl) h (fun y4 y5 H locs ls  hP hS hl h => ?_)
  refine lv_iload_n hx hb dX7_numberOf_27 rfl (lv_at hl 0 rfl) ?_
  exact hret y4 () _ _ _ _ dX7_numberOf_28 hP hS h
def w_X7_leastThatFits_8_B2 (x1 : Int32) (x2 : Int32) (I : Nat → Int32) (F : Nat → Nat → Int32) (post : Int32 → Prop) (k again : Int32 → Prop) (x3 : Int32) : Prop :=
  (((2187 : Int32) ≤ x3 → k x3) ∧ (¬ (2187 : Int32) ≤ x3 → w_X7_fits_8 x3 x1 x2 I F (fun (r2 : Int32) => ((r2 = 0 → again (x3 + (1 : Int32))) ∧ (¬ r2 = 0 → w_X7_numberOf x3 I F (fun (r4 : Int32) => post r4))))))
def w_X7_leastThatFits_8 (a1 : Int32) (a2 : Int32) (I : Nat → Int32) (F : Nat → Nat → Int32) (post : Int32 → Prop) : Prop :=
  gL (fun ag v => w_X7_leastThatFits_8_B2 a1 a2 I F post (fun (y5 : Int32) => post (-1 : Int32)) ag v) (0 : Int32)
set_option maxHeartbeats 4000000 in
set_option maxRecDepth 100000 in
theorem c_X7_leastThatFits_8 (l : Launch) (D : va_G) (q : Nat → Nat) (cI cO : ClassId) (hq : cOk q) (a1 : Int32) (a2 : Int32)  (I : Nat → Int32) (F : Nat → Nat → Int32) (post : Int32 → Prop) (h : w_X7_leastThatFits_8 a1 a2 I F post) : Met l yX7_leastThatFits wsX7_leastThatFits ({ frames := 2, cells := 0, slots := 0, locals := 43 } : Room) (gPre D (cTys cI cO) (cW q cI cO I F) (cEnv q) [.ref (q 8), .int a1, .int a2]) (va_Qi (fun r (_ : Unit) => post r) (gB D (fun _ : Unit => cW q cI cO I F)) (cA q)) 0 0 (cA q) := by
  refine gMetI (by decide) rfl (Nat.le_of_ble_eq_true rfl) ?_
  intro p e R s m args below meth c Q ls hR hx hb hml hown hts hK hE hP hl hret
  have hRf : 2 ≤ R.frames := by subst hR; exact Nat.le_refl _
  have hRl : 43 ≤ R.locals := by subst hR; exact Nat.le_refl _
  have hown : s.vm.findClass RX7 = some m.cls := hown
  have hl : lv_has ls 4 [(0, .ref (q 8)), (1, .int a1), (2, .int a2)] := hl
  have hS : va_S (cA q) s.heap s.heap [] := va_S.rf
  have hP : va_P D vwCl (cW q cI cO I F) s.heap := hP
  have L2 : ∀ (n : Nat) (x1 : Int32) (x2 : Int32) (k : Int32 → Prop) (x3 : Int32) (H : Heap) (locs : List Loc) (ls : Array Slot), va_P D vwCl (cW q cI cO I F) H → va_S (cA q) s.heap H locs → lv_has ls 4 [(0, .ref (q 8)), (1, .int x1), (2, .int x2), (3, .int x3)] → gLN (fun ag v => w_X7_leastThatFits_8_B2 x1 x2 I F post k ag v) n x3 → (∀ (x3 : Int32) (H : Heap) (locs : List Loc) (ls : Array Slot), va_P D vwCl (cW q cI cO I F) H → va_S (cA q) s.heap H locs → lv_has ls 4 [] → k x3 → W p l e R s m args below meth c H locs 0 0 Q (F0 m 30 ls [])) → W p l e R s m args below meth c H locs 0 0 Q (F0 m 2 ls []) := by
    intro n
    induction n with
    | zero =>
      intro x1 x2 k x3 H locs ls  hP hS hl h K
      exact False.elim h
    | succ n ih =>
      intro x1 x2 k x3 H locs ls  hP hS hl h K
      have h : w_X7_leastThatFits_8_B2 x1 x2 I F post k (fun b0 => gLN (fun ag v => w_X7_leastThatFits_8_B2 x1 x2 I F post k ag v) n b0) x3 := h
      refine lv_iload_n hx hb dX7_leastThatFits_2 rfl (lv_at hl 3 rfl) ?_
      refine lv_sipush (v := (2187 : Int32)) hx hb dX7_leastThatFits_3 (by decide) ?_
      refine lv_icmp_ge (tgt := 30) hx hb dX7_leastThatFits_6 (by decide) (fun c1 => ?_) (fun c1 => ?_)
      · have h := h.1 c1
        exact K x3 _ _ _  hP hS (lv_sub hl [] rfl) h
      · have h := h.2 c1
        refine lv_aload_n hx hb dX7_leastThatFits_9 rfl (lv_at hl 0 rfl) ?_
        refine lv_iload_n hx hb dX7_leastThatFits_10 rfl (lv_at hl 3 rfl) ?_
        refine lv_iload_n hx hb dX7_leastThatFits_11 rfl (lv_at hl 1 rfl) ?_
        refine lv_iload_n hx hb dX7_leastThatFits_12 rfl (lv_at hl 2 rfl) ?_
        refine gCallI (D := D) (va_runV (As := [.int x3, .int x1, .int x2]) (rest := []) ⟨hx, hb, hml, hown, hts⟩ (c_X7_fits_8 l D q cI cO hq x3 x1 x2  I F _ h) (cwV 3 hts gX7_leastThatFits_X7_fits rfl rfl rfl (by decide +kernel) ⟨Nat.le_trans (Nat.le_of_ble_eq_true rfl) hRf, Nat.le_trans (Nat.le_of_ble_eq_true rfl) hRl⟩) (gPreV (ci := 7) (q0 := 8) cEok hE hK hP hS rfl cAt8) rfl rfl hl.1 rfl (lv_room (Nat.le_of_ble_eq_true rfl)) dX7_leastThatFits_13 ⟨Nat.zero_le _, Nat.zero_le _⟩) hS (fun r2 _ H locs hP hS h => ?_)
        have hP : va_P D vwCl (cW q cI cO I F) H := hP
        refine lv_if_eq (tgt := 24) hx hb dX7_leastThatFits_16 (by decide) (fun c3 => ?_) (fun c3 => ?_)
        · have h := h.1 c3
          refine lv_iinc (v := (x3 + (1 : Int32))) (lv' := [(3, .int (x3 + (1 : Int32))), (0, .ref (q 8)), (1, .int x1), (2, .int x2)]) hx hb dX7_leastThatFits_24 hl (k := 3) rfl rfl (by decide) rfl (fun ls hl => ?_)
          refine lv_goto (tgt := 2) hx hb dX7_leastThatFits_27 (by decide) ?_
          exact ih x1 x2 _ (x3 + (1 : Int32)) _ _ _  hP hS (lv_sub hl [1, 2, 3, 0] rfl) h K
        · have h := h.2 c3
          refine lv_iload_n hx hb dX7_leastThatFits_19 rfl (lv_at hl 3 rfl) ?_
          refine gCallI (D := D) (va_runS (As := [.int x3]) (rest := []) ⟨hx, hb, hml, hown, hts⟩ (c_X7_numberOf l D q cI cO hq x3  I F _ h) (va_cwS 1 hts gX7_leastThatFits_X7_numberOf rfl rfl rfl (by decide +kernel) ⟨Nat.le_trans (Nat.le_of_ble_eq_true rfl) hRf, Nat.le_trans (Nat.le_of_ble_eq_true rfl) hRl⟩) (gPreS cEok hE hK hP hS) rfl rfl hl.1 rfl (lv_room (Nat.le_of_ble_eq_true rfl)) dX7_leastThatFits_20 ⟨Nat.zero_le _, Nat.zero_le _⟩) hS (fun r4 _ H locs hP hS h => ?_)
          have hP : va_P D vwCl (cW q cI cO I F) H := hP
          exact hret r4 () _ _ _ _ dX7_leastThatFits_23 hP hS h
  refine lv_iconst (v := (0 : Int32)) hx hb dX7_leastThatFits_0 (by decide) ?_
  refine lv_istore_n (lv' := [(3, .int (0 : Int32)), (0, .ref (q 8)), (1, .int a1), (2, .int a2)]) hx hb dX7_leastThatFits_1 rfl hl (by decide) rfl (fun ls hl => ?_)
  obtain ⟨n, h⟩ := h
  refine L2 n a1 a2 _ (0 : Int32) _ _ _  hP hS (lv_sub hl [1, 2, 3, 0] rfl) h (fun y5 H locs ls  hP hS hl h => ?_)
  refine lv_iconst (v := (-1 : Int32)) hx hb dX7_leastThatFits_30 (by decide) ?_
  exact hret (-1 : Int32) () _ _ _ _ dX7_leastThatFits_31 hP hS h
def w_X6_sortsOf_6_B5 (x1 : Int32) (I : Nat → Int32) (F : Nat → Nat → Int32) (k again : Int32 → Int32 → Prop) (x2 : Int32) (x3 : Int32) : Prop :=
  (((I 11) ≤ x3 → k x2 x3) ∧ (¬ (I 11) ≤ x3 → vp_in x3 6 ∧ ((¬ (F 21 (x3).toNatClampNeg) = x1 → again x2 (x3 + (1 : Int32))) ∧ ((F 21 (x3).toNatClampNeg) = x1 → vp_in x3 6 ∧ ∀ v3 : Int32, v3 = (x2 &&& (F 22 (x3).toNatClampNeg)) → again v3 (x3 + (1 : Int32))))))
def w_X6_sortsOf_6 (a1 : Int32) (I : Nat → Int32) (F : Nat → Nat → Int32) (post : Int32 → Prop) : Prop :=
  gL (fun ag v => w_X6_sortsOf_6_B5 a1 I F (fun (y4 : Int32) (y5 : Int32) => post y4) (fun b0 b1 => ag (b0, b1)) v.1 v.2) ((31 : Int32), (0 : Int32))
set_option maxHeartbeats 4000000 in
set_option maxRecDepth 100000 in
theorem c_X6_sortsOf_6 (l : Launch) (D : va_G) (q : Nat → Nat) (cI cO : ClassId) (hq : cOk q) (a1 : Int32)  (I : Nat → Int32) (F : Nat → Nat → Int32) (post : Int32 → Prop) (h : w_X6_sortsOf_6 a1 I F post) : Met l yX6_sortsOf wsX6_sortsOf ({ frames := 0, cells := 0, slots := 0, locals := 0 } : Room) (gPre D (cTys cI cO) (cW q cI cO I F) (cEnv q) [.ref (q 6), .int a1]) (va_Qi (fun r (_ : Unit) => post r) (gB D (fun _ : Unit => cW q cI cO I F)) (cA q)) 0 0 (cA q) := by
  refine gMetI (by decide) rfl (Nat.le_of_ble_eq_true rfl) ?_
  intro p e R s m args below meth c Q ls hR hx hb hml hown hts hK hE hP hl hret
  have hRf : 0 ≤ R.frames := by subst hR; exact Nat.le_refl _
  have hRl : 0 ≤ R.locals := by subst hR; exact Nat.le_refl _
  have hown : s.vm.findClass RX6 = some m.cls := hown
  have hl : lv_has ls 4 [(0, .ref (q 6)), (1, .int a1)] := hl
  have hS : va_S (cA q) s.heap s.heap [] := va_S.rf
  have hP : va_P D vwCl (cW q cI cO I F) s.heap := hP
  have L5 : ∀ (n : Nat) (x1 : Int32) (k : Int32 → Int32 → Prop) (x2 : Int32) (x3 : Int32) (H : Heap) (locs : List Loc) (ls : Array Slot), va_P D vwCl (cW q cI cO I F) H → va_S (cA q) s.heap H locs → lv_has ls 4 [(0, .ref (q 6)), (1, .int x1), (2, .int x2), (3, .int x3)] → gLN (fun ag v => w_X6_sortsOf_6_B5 x1 I F k (fun b0 b1 => ag (b0, b1)) v.1 v.2) n (x2, x3) → (∀ (x2 : Int32) (x3 : Int32) (H : Heap) (locs : List Loc) (ls : Array Slot), va_P D vwCl (cW q cI cO I F) H → va_S (cA q) s.heap H locs → lv_has ls 4 [(2, .int x2)] → k x2 x3 → W p l e R s m args below meth c H locs 0 0 Q (F0 m 38 ls [])) → W p l e R s m args below meth c H locs 0 0 Q (F0 m 5 ls []) := by
    intro n
    induction n with
    | zero =>
      intro x1 k x2 x3 H locs ls  hP hS hl h K
      exact False.elim h
    | succ n ih =>
      intro x1 k x2 x3 H locs ls  hP hS hl h K
      have h : w_X6_sortsOf_6_B5 x1 I F k (fun b0 b1 => gLN (fun ag v => w_X6_sortsOf_6_B5 x1 I F k (fun b0 b1 => ag (b0, b1)) v.1 v.2) n (b0, b1)) x2 x3 := h
      refine lv_iload_n hx hb dX6_sortsOf_5 rfl (lv_at hl 3 rfl) ?_
      refine lv_aload_n hx hb dX6_sortsOf_6 rfl (lv_at hl 0 rfl) ?_
      refine va_get (D := D) (ci := 6) (v := .int (I 11)) (C := RX6) (T := TX6) (N := 3) hx hb hts (fun _ h9 => List.mem_cons_of_mem _ (List.mem_append_right _ h9)) hown hK hP 6 cAt6 rfl 0 (by decide) (hts _ (List.mem_of_getElem? (l := wsX6_sortsOf) (i := 1) rfl)) (fun _ h9 => h9) rfl dX6_sortsOf_7 ?_
      refine lv_icmp_ge (tgt := 38) hx hb dX6_sortsOf_10 (by decide) (fun c1 => ?_) (fun c1 => ?_)
      · have h := h.1 c1
        exact K x2 x3 _ _ _  hP hS (lv_sub hl [2] rfl) h
      · have h := h.2 c1
        refine lv_aload_n hx hb dX6_sortsOf_13 rfl (lv_at hl 0 rfl) ?_
        refine va_get (D := D) (ci := 6) (v := .ref (q 21)) (C := RX6) (T := TX6) (N := 3) hx hb hts (fun _ h9 => List.mem_cons_of_mem _ (List.mem_append_right _ h9)) hown hK hP 6 cAt6 rfl 1 (by decide) (hts _ (List.mem_of_getElem? (l := wsX6_sortsOf) (i := 2) rfl)) (fun _ h9 => h9) rfl dX6_sortsOf_14 ?_
        refine lv_iload_n hx hb dX6_sortsOf_17 rfl (lv_at hl 3 rfl) ?_
        refine va_iald (D := D) hx hb hK hP 21 0 cAr21 rfl h.1 dX6_sortsOf_18 ?_
        have h := h.2
        refine lv_iload_n hx hb dX6_sortsOf_19 rfl (lv_at hl 1 rfl) ?_
        refine lv_icmp_ne (tgt := 32) hx hb dX6_sortsOf_20 (by decide) (fun c2 => ?_) (fun c2 => ?_)
        · have h := h.1 c2
          refine lv_iinc (v := (x3 + (1 : Int32))) (lv' := [(3, .int (x3 + (1 : Int32))), (0, .ref (q 6)), (1, .int x1), (2, .int x2)]) hx hb dX6_sortsOf_32 hl (k := 3) rfl rfl (by decide) rfl (fun ls hl => ?_)
          refine lv_goto (tgt := 5) hx hb dX6_sortsOf_35 (by decide) ?_
          exact ih x1 _ x2 (x3 + (1 : Int32)) _ _ _  hP hS (lv_sub hl [1, 2, 3, 0] rfl) h K
        · have h := h.2 c2
          refine lv_iload_n hx hb dX6_sortsOf_23 rfl (lv_at hl 2 rfl) ?_
          refine lv_aload_n hx hb dX6_sortsOf_24 rfl (lv_at hl 0 rfl) ?_
          refine va_get (D := D) (ci := 6) (v := .ref (q 22)) (C := RX6) (T := TX6) (N := 3) hx hb hts (fun _ h9 => List.mem_cons_of_mem _ (List.mem_append_right _ h9)) hown hK hP 6 cAt6 rfl 2 (by decide) (hts _ (List.mem_of_getElem? (l := wsX6_sortsOf) (i := 3) rfl)) (fun _ h9 => h9) rfl dX6_sortsOf_25 ?_
          refine lv_iload_n hx hb dX6_sortsOf_28 rfl (lv_at hl 3 rfl) ?_
          refine va_iald (D := D) hx hb hK hP 22 0 cAr22 rfl h.1 dX6_sortsOf_29 ?_
          have h := h.2
          refine lv_iand hx hb dX6_sortsOf_30 ?_
          refine lv_topi (fun v3 ev3 => ?_)
          have h := h v3 ev3
          refine lv_istore_n (lv' := [(2, .int v3), (0, .ref (q 6)), (1, .int x1), (3, .int x3)]) hx hb dX6_sortsOf_31 rfl hl (by decide) rfl (fun ls hl => ?_)
          refine lv_iinc (v := (x3 + (1 : Int32))) (lv' := [(3, .int (x3 + (1 : Int32))), (2, .int v3), (0, .ref (q 6)), (1, .int x1)]) hx hb dX6_sortsOf_32 hl (k := 3) rfl rfl (by decide) rfl (fun ls hl => ?_)
          refine lv_goto (tgt := 5) hx hb dX6_sortsOf_35 (by decide) ?_
          exact ih x1 _ v3 (x3 + (1 : Int32)) _ _ _  hP hS (lv_sub hl [2, 3, 1, 0] rfl) h K
  refine lv_bipush (v := (31 : Int32)) hx hb dX6_sortsOf_0 (by decide) ?_
  refine lv_istore_n (lv' := [(2, .int (31 : Int32)), (0, .ref (q 6)), (1, .int a1)]) hx hb dX6_sortsOf_2 rfl hl (by decide) rfl (fun ls hl => ?_)
  refine lv_iconst (v := (0 : Int32)) hx hb dX6_sortsOf_3 (by decide) ?_
  refine lv_istore_n (lv' := [(3, .int (0 : Int32)), (2, .int (31 : Int32)), (0, .ref (q 6)), (1, .int a1)]) hx hb dX6_sortsOf_4 rfl hl (by decide) rfl (fun ls hl => ?_)
  obtain ⟨n, h⟩ := h
  refine L5 n a1 _ (31 : Int32) (0 : Int32) _ _ _  hP hS (lv_sub hl [2, 3, 1, 0] rfl) h (fun y4 y5 H locs ls  hP hS hl h => ?_)
  refine lv_iload_n hx hb dX6_sortsOf_38 rfl (lv_at hl 0 rfl) ?_
  exact hret y4 () _ _ _ _ dX6_sortsOf_39 hP hS h
def w_X6_leftAtWorst (a0 : Int32) (a1 : Int32) (I : Nat → Int32) (F : Nat → Nat → Int32) (post : Int32 → Prop) : Prop :=
  w_J6_bitCount_0f7a4 (a0 &&& a1) I F (fun (r1 : Int32) => w_J6_bitCount_0f7a4 (a0 &&& (a1 ^^^ (-1 : Int32))) I F (fun (r2 : Int32) => post (if r1 < r2 then r2 else r1)))
set_option maxHeartbeats 4000000 in
set_option maxRecDepth 100000 in
theorem c_X6_leftAtWorst (l : Launch) (D : va_G) (q : Nat → Nat) (cI cO : ClassId) (hq : cOk q) (a0 : Int32) (a1 : Int32)  (I : Nat → Int32) (F : Nat → Nat → Int32) (post : Int32 → Prop) (h : w_X6_leftAtWorst a0 a1 I F post) : Met l yX6_leftAtWorst wsX6_leftAtWorst ({ frames := 1, cells := 0, slots := 0, locals := 24 } : Room) (gPre D (cTys cI cO) (cW q cI cO I F) (cEnv q) [.int a0, .int a1]) (va_Qi (fun r (_ : Unit) => post r) (gB D (fun _ : Unit => cW q cI cO I F)) (cA q)) 0 0 (cA q) := by
  refine gMetI (by decide) rfl (Nat.le_of_ble_eq_true rfl) ?_
  intro p e R s m args below meth c Q ls hR hx hb hml hown hts hK hE hP hl hret
  have hRf : 1 ≤ R.frames := by subst hR; exact Nat.le_refl _
  have hRl : 24 ≤ R.locals := by subst hR; exact Nat.le_refl _
  have hown : s.vm.findClass RX6 = some m.cls := hown
  have hl : lv_has ls 2 [(0, .int a0), (1, .int a1)] := hl
  have hS : va_S (cA q) s.heap s.heap [] := va_S.rf
  have hP : va_P D vwCl (cW q cI cO I F) s.heap := hP
  refine lv_iload_n hx hb dX6_leftAtWorst_0 rfl (lv_at hl 0 rfl) ?_
  refine lv_iload_n hx hb dX6_leftAtWorst_1 rfl (lv_at hl 1 rfl) ?_
  refine lv_iand hx hb dX6_leftAtWorst_2 ?_
  refine gCallI (D := D) (va_runS (As := [.int (a0 &&& a1)]) (rest := []) ⟨hx, hb, hml, hown, hts⟩ (c_J6_bitCount_0f7a4 l D q cI cO hq (a0 &&& a1)  I F _ h) (va_cwS 1 hts gX6_leftAtWorst_J6_bitCount_0f7a4 rfl rfl rfl (by decide +kernel) ⟨Nat.le_trans (Nat.le_of_ble_eq_true rfl) hRf, Nat.le_trans (Nat.le_of_ble_eq_true rfl) hRl⟩) (gPreS cEok hE hK hP hS) rfl rfl hl.1 rfl (lv_room (Nat.le_of_ble_eq_true rfl)) dX6_leftAtWorst_3 ⟨Nat.zero_le _, Nat.zero_le _⟩) hS (fun r1 _ H locs hP hS h => ?_)
  have hP : va_P D vwCl (cW q cI cO I F) H := hP
  refine lv_iload_n hx hb dX6_leftAtWorst_6 rfl (lv_at hl 0 rfl) ?_
  refine lv_iload_n hx hb dX6_leftAtWorst_7 rfl (lv_at hl 1 rfl) ?_
  refine lv_iconst (v := (-1 : Int32)) hx hb dX6_leftAtWorst_8 (by decide) ?_
  refine lv_ixor hx hb dX6_leftAtWorst_9 ?_
  refine lv_iand hx hb dX6_leftAtWorst_10 ?_
  refine gCallI (D := D) (va_runS (As := [.int (a0 &&& (a1 ^^^ (-1 : Int32)))]) (rest := [.int r1]) ⟨hx, hb, hml, hown, hts⟩ (c_J6_bitCount_0f7a4 l D q cI cO hq (a0 &&& (a1 ^^^ (-1 : Int32)))  I F _ h) (va_cwS 1 hts gX6_leftAtWorst_J6_bitCount_0f7a4 rfl rfl rfl (by decide +kernel) ⟨Nat.le_trans (Nat.le_of_ble_eq_true rfl) hRf, Nat.le_trans (Nat.le_of_ble_eq_true rfl) hRl⟩) (gPreS cEok hE hK hP hS) rfl rfl hl.1 rfl (lv_room (Nat.le_of_ble_eq_true rfl)) dX6_leftAtWorst_11 ⟨Nat.zero_le _, Nat.zero_le _⟩) hS (fun r2 _ H locs hP hS h => ?_)
  have hP : va_P D vwCl (cW q cI cO I F) H := hP
  refine va_mmax hx hb (hml.trans hl.1.symm) hown (hts _ (List.mem_of_getElem? (l := wsX6_leftAtWorst) (i := 1) rfl)) (hts _ (List.mem_of_getElem? (l := wsX6_leftAtWorst) (i := 2) rfl)) (hts _ (List.mem_of_getElem? (l := wsX6_leftAtWorst) (i := 3) rfl)) (hts _ (List.mem_of_getElem? (l := wsX6_leftAtWorst) (i := 4) rfl)) (Nat.le_trans (by decide) hRf) (Nat.le_trans (by decide) hRl) (Nat.zero_le _) (Nat.zero_le _) dX6_leftAtWorst_14 ?_
  exact hret (if r1 < r2 then r2 else r1) () _ _ _ _ dX6_leftAtWorst_17 hP hS h
