def w_X8_swap (a1 : Int32) (a2 : Int32) (I : Nat → Int32) (F : Nat → Nat → Int32) (post : Int32 → (Nat → Int32) → (Nat → Nat → Int32) → Prop) : Prop :=
  w_X2_has_4 a1 I F (fun (r1 : Int32) => ((r1 = 0 → post (-101 : Int32) I F) ∧ (¬ r1 = 0 → w_X2_has_4 a2 I F (fun (r3 : Int32) => ((r3 = 0 → post (-101 : Int32) I F) ∧ (¬ r3 = 0 → ((¬ a1 = a2 → w_X2_exchange_4 a1 a2 I F (fun (I6 : Nat → Int32) (F7 : Nat → Nat → Int32) => w_X3_makeStale_9 I6 F7 (fun (I8 : Nat → Int32) (F9 : Nat → Nat → Int32) => w_X3_fewest_9_4 (0 : Int32) I8 F9 (fun (r10 : Int32) (I11 : Nat → Int32) (F12 : Nat → Nat → Int32) => post r10 I11 F12)))) ∧ (a1 = a2 → post (-101 : Int32) I F))))))))
set_option maxHeartbeats 4000000 in
set_option maxRecDepth 100000 in
theorem c_X8_swap (l : Launch) (D : va_G) (q : Nat → Nat) (cI cO : ClassId) (hq : cOk q) (a1 : Int32) (a2 : Int32)  (I : Nat → Int32) (F : Nat → Nat → Int32) (post : Int32 → (Nat → Int32) → (Nat → Nat → Int32) → Prop) (h : w_X8_swap a1 a2 I F post) : Met l yX8_swap wsX8_swap ({ frames := 5, cells := 0, slots := 0, locals := 129 } : Room) (gPre D (cTys cI cO) (cW q cI cO I F) (cEnv q) [.ref (q 0), .int a1, .int a2]) (va_Qi (fun r (u : cS) => post r u.1 u.2) (gB D (fun u : cS => cW q cI cO u.1 u.2)) (cA q)) 0 0 (cA q) := by
  refine gMetI (by decide) rfl (Nat.le_of_ble_eq_true rfl) ?_
  intro p e R s m args below meth c Q ls hR hx hb hml hown hts hK hE hP hl hret
  have hRf : 5 ≤ R.frames := by subst hR; exact Nat.le_refl _
  have hRl : 129 ≤ R.locals := by subst hR; exact Nat.le_refl _
  have hown : s.vm.findClass RX8 = some m.cls := hown
  have hl : lv_has ls 3 [(0, .ref (q 0)), (1, .int a1), (2, .int a2)] := hl
  have hS : va_S (cA q) s.heap s.heap [] := va_S.rf
  have hP : va_P D vwCl (cW q cI cO I F) s.heap := hP
  refine lv_aload_n hx hb dX8_swap_0 rfl (lv_at hl 0 rfl) ?_
  refine va_get (D := D) (ci := 8) (v := .ref (q 4)) (C := RX8) (T := TX8) (N := 11) hx hb hts (fun _ h9 => List.mem_cons_of_mem _ (List.mem_append_left _ (List.mem_append_left _ (List.mem_append_left _ (List.mem_append_left _ (List.mem_append_right _ h9)))))) hown hK hP 0 cAt0 rfl 2 (by decide) (hts _ (List.mem_of_getElem? (l := wsX8_swap) (i := 1) rfl)) (fun _ h9 => h9) rfl dX8_swap_1 ?_
  refine lv_iload_n hx hb dX8_swap_4 rfl (lv_at hl 1 rfl) ?_
  refine gCallI (D := D) (va_runV (As := [.int a1]) (rest := []) ⟨hx, hb, hml, hown, hts⟩ (c_X2_has_4 l D q cI cO hq a1  I F _ h) (cwV 1 hts gX8_swap_X2_has rfl rfl rfl (by decide +kernel) ⟨Nat.le_trans (Nat.le_of_ble_eq_true rfl) hRf, Nat.le_trans (Nat.le_of_ble_eq_true rfl) hRl⟩) (gPreV (ci := 2) (q0 := 4) cEok hE hK hP hS rfl cAt4) rfl rfl hl.1 rfl (lv_room (Nat.le_of_ble_eq_true rfl)) dX8_swap_5 ⟨Nat.zero_le _, Nat.zero_le _⟩) hS (fun r1 _ H locs hP hS h => ?_)
  have hP : va_P D vwCl (cW q cI cO I F) H := hP
  refine lv_if_eq (tgt := 27) hx hb dX8_swap_8 (by decide) (fun c2 => ?_) (fun c2 => ?_)
  · have h := h.1 c2
    refine lv_bipush (v := (-101 : Int32)) hx hb dX8_swap_27 (by decide) ?_
    exact hret (-101 : Int32) (I, F) _ _ _ _ dX8_swap_29 hP hS h
  · have h := h.2 c2
    refine lv_aload_n hx hb dX8_swap_11 rfl (lv_at hl 0 rfl) ?_
    refine va_get (D := D) (ci := 8) (v := .ref (q 4)) (C := RX8) (T := TX8) (N := 11) hx hb hts (fun _ h9 => List.mem_cons_of_mem _ (List.mem_append_left _ (List.mem_append_left _ (List.mem_append_left _ (List.mem_append_left _ (List.mem_append_right _ h9)))))) hown hK hP 0 cAt0 rfl 2 (by decide) (hts _ (List.mem_of_getElem? (l := wsX8_swap) (i := 1) rfl)) (fun _ h9 => h9) rfl dX8_swap_12 ?_
    refine lv_iload_n hx hb dX8_swap_15 rfl (lv_at hl 2 rfl) ?_
    refine gCallI (D := D) (va_runV (As := [.int a2]) (rest := []) ⟨hx, hb, hml, hown, hts⟩ (c_X2_has_4 l D q cI cO hq a2  I F _ h) (cwV 1 hts gX8_swap_X2_has rfl rfl rfl (by decide +kernel) ⟨Nat.le_trans (Nat.le_of_ble_eq_true rfl) hRf, Nat.le_trans (Nat.le_of_ble_eq_true rfl) hRl⟩) (gPreV (ci := 2) (q0 := 4) cEok hE hK hP hS rfl cAt4) rfl rfl hl.1 rfl (lv_room (Nat.le_of_ble_eq_true rfl)) dX8_swap_16 ⟨Nat.zero_le _, Nat.zero_le _⟩) hS (fun r3 _ H locs hP hS h => ?_)
    have hP : va_P D vwCl (cW q cI cO I F) H := hP
    refine lv_if_eq (tgt := 27) hx hb dX8_swap_19 (by decide) (fun c4 => ?_) (fun c4 => ?_)
    · have h := h.1 c4
      refine lv_bipush (v := (-101 : Int32)) hx hb dX8_swap_27 (by decide) ?_
      exact hret (-101 : Int32) (I, F) _ _ _ _ dX8_swap_29 hP hS h
    · have h := h.2 c4
      refine lv_iload_n hx hb dX8_swap_22 rfl (lv_at hl 1 rfl) ?_
      refine lv_iload_n hx hb dX8_swap_23 rfl (lv_at hl 2 rfl) ?_
      refine lv_icmp_ne (tgt := 30) hx hb dX8_swap_24 (by decide) (fun c5 => ?_) (fun c5 => ?_)
      · have h := h.1 c5
        refine lv_aload_n hx hb dX8_swap_30 rfl (lv_at hl 0 rfl) ?_
        refine va_get (D := D) (ci := 8) (v := .ref (q 4)) (C := RX8) (T := TX8) (N := 11) hx hb hts (fun _ h9 => List.mem_cons_of_mem _ (List.mem_append_left _ (List.mem_append_left _ (List.mem_append_left _ (List.mem_append_left _ (List.mem_append_right _ h9)))))) hown hK hP 0 cAt0 rfl 2 (by decide) (hts _ (List.mem_of_getElem? (l := wsX8_swap) (i := 1) rfl)) (fun _ h9 => h9) rfl dX8_swap_31 ?_
        refine lv_iload_n hx hb dX8_swap_34 rfl (lv_at hl 1 rfl) ?_
        refine lv_iload_n hx hb dX8_swap_35 rfl (lv_at hl 2 rfl) ?_
        refine gCallV (D := D) (va_runV (As := [.int a1, .int a2]) (rest := []) ⟨hx, hb, hml, hown, hts⟩ (c_X2_exchange_4 l D q cI cO hq a1 a2  I F _ h) (cwV 2 hts gX8_swap_X2_exchange rfl rfl rfl (by decide +kernel) ⟨Nat.le_trans (Nat.le_of_ble_eq_true rfl) hRf, Nat.le_trans (Nat.le_of_ble_eq_true rfl) hRl⟩) (gPreV (ci := 2) (q0 := 4) cEok hE hK hP hS rfl cAt4) rfl rfl hl.1 rfl (lv_room (Nat.le_of_ble_eq_true rfl)) dX8_swap_36 ⟨Nat.zero_le _, Nat.zero_le _⟩) hS (fun u H locs hP hS h => ?_)
        obtain ⟨I6, F7⟩ := u
        have hP : va_P D vwCl (cW q cI cO I6 F7) H := hP
        refine lv_aload_n hx hb dX8_swap_39 rfl (lv_at hl 0 rfl) ?_
        refine va_get (D := D) (ci := 8) (v := .ref (q 9)) (C := RX8) (T := TX8) (N := 11) hx hb hts (fun _ h9 => List.mem_cons_of_mem _ (List.mem_append_left _ (List.mem_append_left _ (List.mem_append_left _ (List.mem_append_left _ (List.mem_append_right _ h9)))))) hown hK hP 0 cAt0 rfl 7 (by decide) (hts _ (List.mem_of_getElem? (l := wsX8_swap) (i := 2) rfl)) (fun _ h9 => h9) rfl dX8_swap_40 ?_
        refine gCallV (D := D) (va_runV (As := []) (rest := []) ⟨hx, hb, hml, hown, hts⟩ (c_X3_makeStale_9 l D q cI cO hq   I6 F7 _ h) (cwV 0 hts gX8_swap_X3_makeStale rfl rfl rfl (by decide +kernel) ⟨Nat.le_trans (Nat.le_of_ble_eq_true rfl) hRf, Nat.le_trans (Nat.le_of_ble_eq_true rfl) hRl⟩) (gPreV (ci := 3) (q0 := 9) cEok hE hK hP hS rfl cAt9) rfl rfl hl.1 rfl (lv_room (Nat.le_of_ble_eq_true rfl)) dX8_swap_43 ⟨Nat.zero_le _, Nat.zero_le _⟩) hS (fun u H locs hP hS h => ?_)
        obtain ⟨I8, F9⟩ := u
        have hP : va_P D vwCl (cW q cI cO I8 F9) H := hP
        refine lv_aload_n hx hb dX8_swap_46 rfl (lv_at hl 0 rfl) ?_
        refine va_get (D := D) (ci := 8) (v := .ref (q 9)) (C := RX8) (T := TX8) (N := 11) hx hb hts (fun _ h9 => List.mem_cons_of_mem _ (List.mem_append_left _ (List.mem_append_left _ (List.mem_append_left _ (List.mem_append_left _ (List.mem_append_right _ h9)))))) hown hK hP 0 cAt0 rfl 7 (by decide) (hts _ (List.mem_of_getElem? (l := wsX8_swap) (i := 2) rfl)) (fun _ h9 => h9) rfl dX8_swap_47 ?_
        refine lv_aload_n hx hb dX8_swap_50 rfl (lv_at hl 0 rfl) ?_
        refine va_get (D := D) (ci := 8) (v := .ref (q 4)) (C := RX8) (T := TX8) (N := 11) hx hb hts (fun _ h9 => List.mem_cons_of_mem _ (List.mem_append_left _ (List.mem_append_left _ (List.mem_append_left _ (List.mem_append_left _ (List.mem_append_right _ h9)))))) hown hK hP 0 cAt0 rfl 2 (by decide) (hts _ (List.mem_of_getElem? (l := wsX8_swap) (i := 1) rfl)) (fun _ h9 => h9) rfl dX8_swap_51 ?_
        refine lv_iconst (v := (0 : Int32)) hx hb dX8_swap_54 (by decide) ?_
        refine gCallI (D := D) (va_runV (As := [.ref (q 4), .int (0 : Int32)]) (rest := []) ⟨hx, hb, hml, hown, hts⟩ (c_X3_fewest_9_4 l D q cI cO hq (0 : Int32)  I8 F9 _ h) (cwV 2 hts gX8_swap_X3_fewest rfl rfl rfl (by decide +kernel) ⟨Nat.le_trans (Nat.le_of_ble_eq_true rfl) hRf, Nat.le_trans (Nat.le_of_ble_eq_true rfl) hRl⟩) (gPreV (ci := 3) (q0 := 9) cEok hE hK hP hS rfl cAt9) rfl rfl hl.1 rfl (lv_room (Nat.le_of_ble_eq_true rfl)) dX8_swap_55 ⟨Nat.zero_le _, Nat.zero_le _⟩) hS (fun r10 u H locs hP hS h => ?_)
        obtain ⟨I11, F12⟩ := u
        have hP : va_P D vwCl (cW q cI cO I11 F12) H := hP
        exact hret r10 (I11, F12) _ _ _ _ dX8_swap_58 hP hS h
      · have h := h.2 c5
        refine lv_bipush (v := (-101 : Int32)) hx hb dX8_swap_27 (by decide) ?_
        exact hret (-101 : Int32) (I, F) _ _ _ _ dX8_swap_29 hP hS h
def w_X8_change (a1 : Int32) (a2 : Int32) (I : Nat → Int32) (F : Nat → Nat → Int32) (post : Int32 → (Nat → Int32) → (Nat → Nat → Int32) → Prop) : Prop :=
  w_X2_has_4 a1 I F (fun (r1 : Int32) => ((¬ r1 = 0 → w_X8_isKind a2 I F (fun (r3 : Int32) => ((¬ r3 = 0 → vp_in a1 8 ∧ ∀ v5 : Int32, v5 = (F 17 (a1).toNatClampNeg) → vp_in a1 8 ∧ ∀ F6 : Nat → Nat → Int32, F6 = upF F 17 (upd (F 17) (a1).toNatClampNeg a2) → w_X3_makeStale_9 I F6 (fun (I7 : Nat → Int32) (F8 : Nat → Nat → Int32) => post v5 I7 F8)) ∧ (r3 = 0 → post (-102 : Int32) I F)))) ∧ (r1 = 0 → post (-101 : Int32) I F)))
set_option maxHeartbeats 4000000 in
set_option maxRecDepth 100000 in
theorem c_X8_change (l : Launch) (D : va_G) (q : Nat → Nat) (cI cO : ClassId) (hq : cOk q) (a1 : Int32) (a2 : Int32)  (I : Nat → Int32) (F : Nat → Nat → Int32) (post : Int32 → (Nat → Int32) → (Nat → Nat → Int32) → Prop) (h : w_X8_change a1 a2 I F post) : Met l yX8_change wsX8_change ({ frames := 1, cells := 0, slots := 0, locals := 21 } : Room) (gPre D (cTys cI cO) (cW q cI cO I F) (cEnv q) [.ref (q 0), .int a1, .int a2]) (va_Qi (fun r (u : cS) => post r u.1 u.2) (gB D (fun u : cS => cW q cI cO u.1 u.2)) (cA q)) 0 0 (cA q) := by
  refine gMetI (by decide) rfl (Nat.le_of_ble_eq_true rfl) ?_
  intro p e R s m args below meth c Q ls hR hx hb hml hown hts hK hE hP hl hret
  have hRf : 1 ≤ R.frames := by subst hR; exact Nat.le_refl _
  have hRl : 21 ≤ R.locals := by subst hR; exact Nat.le_refl _
  have hown : s.vm.findClass RX8 = some m.cls := hown
  have hl : lv_has ls 4 [(0, .ref (q 0)), (1, .int a1), (2, .int a2)] := hl
  have hS : va_S (cA q) s.heap s.heap [] := va_S.rf
  have hP : va_P D vwCl (cW q cI cO I F) s.heap := hP
  refine lv_aload_n hx hb dX8_change_0 rfl (lv_at hl 0 rfl) ?_
  refine va_get (D := D) (ci := 8) (v := .ref (q 4)) (C := RX8) (T := TX8) (N := 11) hx hb hts (fun _ h9 => List.mem_cons_of_mem _ (List.mem_append_left _ (List.mem_append_left _ (List.mem_append_right _ h9)))) hown hK hP 0 cAt0 rfl 2 (by decide) (hts _ (List.mem_of_getElem? (l := wsX8_change) (i := 1) rfl)) (fun _ h9 => h9) rfl dX8_change_1 ?_
  refine lv_iload_n hx hb dX8_change_4 rfl (lv_at hl 1 rfl) ?_
  refine gCallI (D := D) (va_runV (As := [.int a1]) (rest := []) ⟨hx, hb, hml, hown, hts⟩ (c_X2_has_4 l D q cI cO hq a1  I F _ h) (cwV 1 hts gX8_change_X2_has rfl rfl rfl (by decide +kernel) ⟨Nat.le_trans (Nat.le_of_ble_eq_true rfl) hRf, Nat.le_trans (Nat.le_of_ble_eq_true rfl) hRl⟩) (gPreV (ci := 2) (q0 := 4) cEok hE hK hP hS rfl cAt4) rfl rfl hl.1 rfl (lv_room (Nat.le_of_ble_eq_true rfl)) dX8_change_5 ⟨Nat.zero_le _, Nat.zero_le _⟩) hS (fun r1 _ H locs hP hS h => ?_)
  have hP : va_P D vwCl (cW q cI cO I F) H := hP
  refine lv_if_ne (tgt := 14) hx hb dX8_change_8 (by decide) (fun c2 => ?_) (fun c2 => ?_)
  · have h := h.1 c2
    refine lv_iload_n hx hb dX8_change_14 rfl (lv_at hl 2 rfl) ?_
    refine gCallI (D := D) (va_runS (As := [.int a2]) (rest := []) ⟨hx, hb, hml, hown, hts⟩ (c_X8_isKind l D q cI cO hq a2  I F _ h) (va_cwS 1 hts gX8_change_X8_isKind rfl rfl rfl (by decide +kernel) ⟨Nat.le_trans (Nat.le_of_ble_eq_true rfl) hRf, Nat.le_trans (Nat.le_of_ble_eq_true rfl) hRl⟩) (gPreS cEok hE hK hP hS) rfl rfl hl.1 rfl (lv_room (Nat.le_of_ble_eq_true rfl)) dX8_change_15 ⟨Nat.zero_le _, Nat.zero_le _⟩) hS (fun r3 _ H locs hP hS h => ?_)
    have hP : va_P D vwCl (cW q cI cO I F) H := hP
    refine lv_if_ne (tgt := 24) hx hb dX8_change_18 (by decide) (fun c4 => ?_) (fun c4 => ?_)
    · have h := h.1 c4
      refine lv_aload_n hx hb dX8_change_24 rfl (lv_at hl 0 rfl) ?_
      refine va_get (D := D) (ci := 8) (v := .ref (q 4)) (C := RX8) (T := TX8) (N := 11) hx hb hts (fun _ h9 => List.mem_cons_of_mem _ (List.mem_append_left _ (List.mem_append_left _ (List.mem_append_right _ h9)))) hown hK hP 0 cAt0 rfl 2 (by decide) (hts _ (List.mem_of_getElem? (l := wsX8_change) (i := 1) rfl)) (fun _ h9 => h9) rfl dX8_change_25 ?_
      refine va_getN (D := D) (ci := 2) (v := .ref (q 17)) (C := RX2) (T := TX2) (N := 4) hx hb hts (fun _ h9 => List.mem_cons_of_mem _ (List.mem_append_left _ (List.mem_append_right _ h9))) hown hK hP 4 cAt4 rfl 2 (by decide) (va_Nw.use rfl (hE.1.1 _ (List.mem_of_getElem? (l := cNF) (i := 8) rfl))) (fun _ h9 => h9) rfl dX8_change_28 ?_
      refine lv_iload_n hx hb dX8_change_31 rfl (lv_at hl 1 rfl) ?_
      refine va_iald (D := D) hx hb hK hP 17 0 cAr17 rfl h.1 dX8_change_32 ?_
      have h := h.2
      refine lv_topi (fun v5 ev5 => ?_)
      have h := h v5 ev5
      refine lv_istore_n (lv' := [(3, .int v5), (0, .ref (q 0)), (1, .int a1), (2, .int a2)]) hx hb dX8_change_33 rfl hl (by decide) rfl (fun ls hl => ?_)
      refine lv_aload_n hx hb dX8_change_34 rfl (lv_at hl 1 rfl) ?_
      refine va_get (D := D) (ci := 8) (v := .ref (q 4)) (C := RX8) (T := TX8) (N := 11) hx hb hts (fun _ h9 => List.mem_cons_of_mem _ (List.mem_append_left _ (List.mem_append_left _ (List.mem_append_right _ h9)))) hown hK hP 0 cAt0 rfl 2 (by decide) (hts _ (List.mem_of_getElem? (l := wsX8_change) (i := 1) rfl)) (fun _ h9 => h9) rfl dX8_change_35 ?_
      refine va_getN (D := D) (ci := 2) (v := .ref (q 17)) (C := RX2) (T := TX2) (N := 4) hx hb hts (fun _ h9 => List.mem_cons_of_mem _ (List.mem_append_left _ (List.mem_append_right _ h9))) hown hK hP 4 cAt4 rfl 2 (by decide) (va_Nw.use rfl (hE.1.1 _ (List.mem_of_getElem? (l := cNF) (i := 8) rfl))) (fun _ h9 => h9) rfl dX8_change_38 ?_
      refine lv_iload_n hx hb dX8_change_41 rfl (lv_at hl 2 rfl) ?_
      refine lv_iload_n hx hb dX8_change_42 rfl (lv_at hl 3 rfl) ?_
      refine gAst (D := D) hx hb hK hP (cD hq) hS 17 0 cAr17 rfl h.1 dX8_change_43 (cSA17 _) (fun H locs hP hS => ?_)
      obtain ⟨F6, eF6⟩ : ∃ z : Nat → Nat → Int32, z = upF F 17 (upd (F 17) (a1).toNatClampNeg a2) := ⟨_, rfl⟩
      rw [← eF6] at hP
      have h := h.2 F6 eF6
      refine lv_aload_n hx hb dX8_change_44 rfl (lv_at hl 1 rfl) ?_
      refine va_get (D := D) (ci := 8) (v := .ref (q 9)) (C := RX8) (T := TX8) (N := 11) hx hb hts (fun _ h9 => List.mem_cons_of_mem _ (List.mem_append_left _ (List.mem_append_left _ (List.mem_append_right _ h9)))) hown hK hP 0 cAt0 rfl 7 (by decide) (hts _ (List.mem_of_getElem? (l := wsX8_change) (i := 2) rfl)) (fun _ h9 => h9) rfl dX8_change_45 ?_
      refine gCallV (D := D) (va_runV (As := []) (rest := []) ⟨hx, hb, hml, hown, hts⟩ (c_X3_makeStale_9 l D q cI cO hq   I F6 _ h) (cwV 0 hts gX8_change_X3_makeStale rfl rfl rfl (by decide +kernel) ⟨Nat.le_trans (Nat.le_of_ble_eq_true rfl) hRf, Nat.le_trans (Nat.le_of_ble_eq_true rfl) hRl⟩) (gPreV (ci := 3) (q0 := 9) cEok hE hK hP hS rfl cAt9) rfl rfl hl.1 rfl (lv_room (Nat.le_of_ble_eq_true rfl)) dX8_change_48 ⟨Nat.zero_le _, Nat.zero_le _⟩) hS (fun u H locs hP hS h => ?_)
      obtain ⟨I7, F8⟩ := u
      have hP : va_P D vwCl (cW q cI cO I7 F8) H := hP
      refine lv_iload_n hx hb dX8_change_51 rfl (lv_at hl 0 rfl) ?_
      exact hret v5 (I7, F8) _ _ _ _ dX8_change_52 hP hS h
    · have h := h.2 c4
      refine lv_bipush (v := (-102 : Int32)) hx hb dX8_change_21 (by decide) ?_
      exact hret (-102 : Int32) (I, F) _ _ _ _ dX8_change_23 hP hS h
  · have h := h.2 c2
    refine lv_bipush (v := (-101 : Int32)) hx hb dX8_change_11 (by decide) ?_
    exact hret (-101 : Int32) (I, F) _ _ _ _ dX8_change_13 hP hS h
def w_X8_isShift (a0 : Int32) (I : Nat → Int32) (F : Nat → Nat → Int32) (post : Int32 → Prop) : Prop :=
  ((a0 < 0 → post (0 : Int32)) ∧ (¬ a0 < 0 → (((12 : Int32) ≤ a0 → post (0 : Int32)) ∧ (¬ (12 : Int32) ≤ a0 → post (1 : Int32)))))
set_option maxHeartbeats 4000000 in
set_option maxRecDepth 100000 in
theorem c_X8_isShift (l : Launch) (D : va_G) (q : Nat → Nat) (cI cO : ClassId) (hq : cOk q) (a0 : Int32)  (I : Nat → Int32) (F : Nat → Nat → Int32) (post : Int32 → Prop) (h : w_X8_isShift a0 I F post) : Met l yX8_isShift wsX8_isShift ({ frames := 0, cells := 0, slots := 0, locals := 0 } : Room) (gPre D (cTys cI cO) (cW q cI cO I F) (cEnv q) [.int a0]) (va_Qi (fun r (_ : Unit) => post r) (gB D (fun _ : Unit => cW q cI cO I F)) (cA q)) 0 0 (cA q) := by
  refine gMetZ (by decide) rfl (Nat.le_of_ble_eq_true rfl) ?_
  intro p e R s m args below meth c Q ls hR hx hb hml hown hts hK hE hP hl hret
  have hRf : 0 ≤ R.frames := by subst hR; exact Nat.le_refl _
  have hRl : 0 ≤ R.locals := by subst hR; exact Nat.le_refl _
  have hown : s.vm.findClass RX8 = some m.cls := hown
  have hl : lv_has ls 1 [(0, .int a0)] := hl
  have hS : va_S (cA q) s.heap s.heap [] := va_S.rf
  have hP : va_P D vwCl (cW q cI cO I F) s.heap := hP
  refine lv_iload_n hx hb dX8_isShift_0 rfl (lv_at hl 0 rfl) ?_
  refine lv_if_lt (tgt := 14) hx hb dX8_isShift_1 (by decide) (fun c1 => ?_) (fun c1 => ?_)
  · have h := h.1 c1
    refine lv_iconst (v := (0 : Int32)) hx hb dX8_isShift_14 (by decide) ?_
    exact hret (0 : Int32) () _ _ _ _ dX8_isShift_15 hP hS (by decide) h
  · have h := h.2 c1
    refine lv_iload_n hx hb dX8_isShift_4 rfl (lv_at hl 0 rfl) ?_
    refine lv_bipush (v := (12 : Int32)) hx hb dX8_isShift_5 (by decide) ?_
    refine lv_icmp_ge (tgt := 14) hx hb dX8_isShift_7 (by decide) (fun c2 => ?_) (fun c2 => ?_)
    · have h := h.1 c2
      refine lv_iconst (v := (0 : Int32)) hx hb dX8_isShift_14 (by decide) ?_
      exact hret (0 : Int32) () _ _ _ _ dX8_isShift_15 hP hS (by decide) h
    · have h := h.2 c2
      refine lv_iconst (v := (1 : Int32)) hx hb dX8_isShift_10 (by decide) ?_
      refine lv_goto (tgt := 15) hx hb dX8_isShift_11 (by decide) ?_
      exact hret (1 : Int32) () _ _ _ _ dX8_isShift_15 hP hS (by decide) h
def w_X2_raise_4_B2 (x1 : Int32) (k again : Int32 → (Nat → Int32) → (Nat → Nat → Int32) → Prop) (x2 : Int32) (I : Nat → Int32) (F : Nat → Nat → Int32) : Prop :=
  (((I 8) ≤ x2 → k x2 I F) ∧ (¬ (I 8) ≤ x2 → vp_in x2 8 ∧ w_X8_raised (F 18 (x2).toNatClampNeg) x1 I F (fun (r2 : Int32) => vp_in x2 8 ∧ ∀ F3 : Nat → Nat → Int32, F3 = upF F 18 (upd (F 18) (x2).toNatClampNeg r2) → again (x2 + (1 : Int32)) I F3)))
def w_X2_raise_4 (a1 : Int32) (I : Nat → Int32) (F : Nat → Nat → Int32) (post : (Nat → Int32) → (Nat → Nat → Int32) → Prop) : Prop :=
  gL (fun ag v => w_X2_raise_4_B2 a1 (fun (y4 : Int32) (I5 : Nat → Int32) (F6 : Nat → Nat → Int32) => post I5 F6) (fun b0 b1 b2 => ag (b0, b1, b2)) v.1 v.2.1 v.2.2) ((0 : Int32), I, F)
set_option maxHeartbeats 4000000 in
set_option maxRecDepth 100000 in
theorem c_X2_raise_4 (l : Launch) (D : va_G) (q : Nat → Nat) (cI cO : ClassId) (hq : cOk q) (a1 : Int32)  (I : Nat → Int32) (F : Nat → Nat → Int32) (post : (Nat → Int32) → (Nat → Nat → Int32) → Prop) (h : w_X2_raise_4 a1 I F post) : Met l yX2_raise wsX2_raise ({ frames := 1, cells := 0, slots := 0, locals := 21 } : Room) (gPre D (cTys cI cO) (cW q cI cO I F) (cEnv q) [.ref (q 4), .int a1]) (va_Qv (fun (u : cS) => post u.1 u.2) (gB D (fun u : cS => cW q cI cO u.1 u.2)) (cA q)) 0 0 (cA q) := by
  refine gMetV (by decide) rfl (Nat.le_of_ble_eq_true rfl) ?_
  intro p e R s m args below meth c Q ls hR hx hb hml hown hts hK hE hP hl hret
  have hRf : 1 ≤ R.frames := by subst hR; exact Nat.le_refl _
  have hRl : 21 ≤ R.locals := by subst hR; exact Nat.le_refl _
  have hown : s.vm.findClass RX2 = some m.cls := hown
  have hl : lv_has ls 3 [(0, .ref (q 4)), (1, .int a1)] := hl
  have hS : va_S (cA q) s.heap s.heap [] := va_S.rf
  have hP : va_P D vwCl (cW q cI cO I F) s.heap := hP
  have L2 : ∀ (n : Nat) (x1 : Int32) (k : Int32 → (Nat → Int32) → (Nat → Nat → Int32) → Prop) (x2 : Int32) (I : Nat → Int32) (F : Nat → Nat → Int32) (H : Heap) (locs : List Loc) (ls : Array Slot), va_P D vwCl (cW q cI cO I F) H → va_S (cA q) s.heap H locs → lv_has ls 3 [(0, .ref (q 4)), (1, .int x1), (2, .int x2)] → gLN (fun ag v => w_X2_raise_4_B2 x1 k (fun b0 b1 b2 => ag (b0, b1, b2)) v.1 v.2.1 v.2.2) n (x2, I, F) → (∀ (x2 : Int32) (I : Nat → Int32) (F : Nat → Nat → Int32) (H : Heap) (locs : List Loc) (ls : Array Slot), va_P D vwCl (cW q cI cO I F) H → va_S (cA q) s.heap H locs → lv_has ls 3 [] → k x2 I F → W p l e R s m args below meth c H locs 0 0 Q (F0 m 32 ls [])) → W p l e R s m args below meth c H locs 0 0 Q (F0 m 2 ls []) := by
    intro n
    induction n with
    | zero =>
      intro x1 k x2 I F H locs ls  hP hS hl h K
      exact False.elim h
    | succ n ih =>
      intro x1 k x2 I F H locs ls  hP hS hl h K
      have h : w_X2_raise_4_B2 x1 k (fun b0 b1 b2 => gLN (fun ag v => w_X2_raise_4_B2 x1 k (fun b0 b1 b2 => ag (b0, b1, b2)) v.1 v.2.1 v.2.2) n (b0, b1, b2)) x2 I F := h
      refine lv_iload_n hx hb dX2_raise_2 rfl (lv_at hl 2 rfl) ?_
      refine lv_aload_n hx hb dX2_raise_3 rfl (lv_at hl 0 rfl) ?_
      refine va_get (D := D) (ci := 2) (v := .int (I 8)) (C := RX2) (T := TX2) (N := 4) hx hb hts (fun _ h9 => List.mem_cons_of_mem _ (List.mem_append_right _ h9)) hown hK hP 4 cAt4 rfl 1 (by decide) (hts _ (List.mem_of_getElem? (l := wsX2_raise) (i := 1) rfl)) (fun _ h9 => h9) rfl dX2_raise_4 ?_
      refine lv_icmp_ge (tgt := 32) hx hb dX2_raise_7 (by decide) (fun c1 => ?_) (fun c1 => ?_)
      · have h := h.1 c1
        exact K x2 I F _ _ _  hP hS (lv_sub hl [] rfl) h
      · have h := h.2 c1
        refine lv_aload_n hx hb dX2_raise_10 rfl (lv_at hl 0 rfl) ?_
        refine va_get (D := D) (ci := 2) (v := .ref (q 18)) (C := RX2) (T := TX2) (N := 4) hx hb hts (fun _ h9 => List.mem_cons_of_mem _ (List.mem_append_right _ h9)) hown hK hP 4 cAt4 rfl 3 (by decide) (hts _ (List.mem_of_getElem? (l := wsX2_raise) (i := 2) rfl)) (fun _ h9 => h9) rfl dX2_raise_11 ?_
        refine lv_iload_n hx hb dX2_raise_14 rfl (lv_at hl 2 rfl) ?_
        refine lv_aload_n hx hb dX2_raise_15 rfl (lv_at hl 0 rfl) ?_
        refine va_get (D := D) (ci := 2) (v := .ref (q 18)) (C := RX2) (T := TX2) (N := 4) hx hb hts (fun _ h9 => List.mem_cons_of_mem _ (List.mem_append_right _ h9)) hown hK hP 4 cAt4 rfl 3 (by decide) (hts _ (List.mem_of_getElem? (l := wsX2_raise) (i := 2) rfl)) (fun _ h9 => h9) rfl dX2_raise_16 ?_
        refine lv_iload_n hx hb dX2_raise_19 rfl (lv_at hl 2 rfl) ?_
        refine va_iald (D := D) hx hb hK hP 18 0 cAr18 rfl h.1 dX2_raise_20 ?_
        have h := h.2
        refine lv_iload_n hx hb dX2_raise_21 rfl (lv_at hl 1 rfl) ?_
        refine gCallI (D := D) (va_runSN (As := [.int (F 18 (x2).toNatClampNeg), .int x1]) (rest := [.int x2, .ref (q 18)]) ⟨hx, hb, hml, hown, hts⟩ (c_X8_raised l D q cI cO hq (F 18 (x2).toNatClampNeg) x1  I F _ h) ⟨va_cnB 2 hts gX2_raise_X8_raised_n35 rfl rfl rfl (hE.1.2 _ (List.mem_of_getElem? (l := cNM) (i := 10) rfl)) (hts _ (List.mem_of_getElem? (l := wsX2_raise) (i := 4) rfl)) (by decide +kernel) ⟨Nat.le_trans (Nat.le_of_ble_eq_true rfl) hRf, Nat.le_trans (Nat.le_of_ble_eq_true rfl) hRl⟩, (hts _ (List.mem_of_getElem? (l := wsX2_raise) (i := 3) rfl)), trivial⟩ (gPreS cEok hE hK hP hS) rfl rfl hl.1 rfl (lv_room (Nat.le_of_ble_eq_true rfl)) dX2_raise_22 ⟨Nat.zero_le _, Nat.zero_le _⟩) hS (fun r2 _ H locs hP hS h => ?_)
        have hP : va_P D vwCl (cW q cI cO I F) H := hP
        refine gAst (D := D) hx hb hK hP (cD hq) hS 18 0 cAr18 rfl h.1 dX2_raise_25 (cSA18 _) (fun H locs hP hS => ?_)
        obtain ⟨F3, eF3⟩ : ∃ z : Nat → Nat → Int32, z = upF F 18 (upd (F 18) (x2).toNatClampNeg r2) := ⟨_, rfl⟩
        rw [← eF3] at hP
        have h := h.2 F3 eF3
        refine lv_iinc (v := (x2 + (1 : Int32))) (lv' := [(2, .int (x2 + (1 : Int32))), (0, .ref (q 4)), (1, .int x1)]) hx hb dX2_raise_26 hl (k := 2) rfl rfl (by decide) rfl (fun ls hl => ?_)
        refine lv_goto (tgt := 2) hx hb dX2_raise_29 (by decide) ?_
        exact ih x1 _ (x2 + (1 : Int32)) I F3 _ _ _  hP hS (lv_sub hl [1, 2, 0] rfl) h K
  refine lv_iconst (v := (0 : Int32)) hx hb dX2_raise_0 (by decide) ?_
  refine lv_istore_n (lv' := [(2, .int (0 : Int32)), (0, .ref (q 4)), (1, .int a1)]) hx hb dX2_raise_1 rfl hl (by decide) rfl (fun ls hl => ?_)
  obtain ⟨n, h⟩ := h
  refine L2 n a1 _ (0 : Int32) I F _ _ _  hP hS (lv_sub hl [1, 2, 0] rfl) h (fun y4 I5 F6 H locs ls  hP hS hl h => ?_)
  exact hret (I5, F6) _ _ _ _ dX2_raise_32 hP hS h
def w_X8_shift (a1 : Int32) (I : Nat → Int32) (F : Nat → Nat → Int32) (post : Int32 → (Nat → Int32) → (Nat → Nat → Int32) → Prop) : Prop :=
  w_X8_isShift a1 I F (fun (r1 : Int32) => ((¬ r1 = 0 → ((¬ (I 8) = 0 → w_X2_raise_4 a1 I F (fun (I4 : Nat → Int32) (F5 : Nat → Nat → Int32) => w_X3_makeStale_9 I4 F5 (fun (I6 : Nat → Int32) (F7 : Nat → Nat → Int32) => w_X3_fewest_9_4 (0 : Int32) I6 F7 (fun (r8 : Int32) (I9 : Nat → Int32) (F10 : Nat → Nat → Int32) => post r8 I9 F10)))) ∧ ((I 8) = 0 → post (-103 : Int32) I F))) ∧ (r1 = 0 → post (-102 : Int32) I F)))
set_option maxHeartbeats 4000000 in
set_option maxRecDepth 100000 in
theorem c_X8_shift (l : Launch) (D : va_G) (q : Nat → Nat) (cI cO : ClassId) (hq : cOk q) (a1 : Int32)  (I : Nat → Int32) (F : Nat → Nat → Int32) (post : Int32 → (Nat → Int32) → (Nat → Nat → Int32) → Prop) (h : w_X8_shift a1 I F post) : Met l yX8_shift wsX8_shift ({ frames := 5, cells := 0, slots := 0, locals := 129 } : Room) (gPre D (cTys cI cO) (cW q cI cO I F) (cEnv q) [.ref (q 0), .int a1]) (va_Qi (fun r (u : cS) => post r u.1 u.2) (gB D (fun u : cS => cW q cI cO u.1 u.2)) (cA q)) 0 0 (cA q) := by
  refine gMetI (by decide) rfl (Nat.le_of_ble_eq_true rfl) ?_
  intro p e R s m args below meth c Q ls hR hx hb hml hown hts hK hE hP hl hret
  have hRf : 5 ≤ R.frames := by subst hR; exact Nat.le_refl _
  have hRl : 129 ≤ R.locals := by subst hR; exact Nat.le_refl _
  have hown : s.vm.findClass RX8 = some m.cls := hown
  have hl : lv_has ls 2 [(0, .ref (q 0)), (1, .int a1)] := hl
  have hS : va_S (cA q) s.heap s.heap [] := va_S.rf
  have hP : va_P D vwCl (cW q cI cO I F) s.heap := hP
  refine lv_iload_n hx hb dX8_shift_0 rfl (lv_at hl 1 rfl) ?_
  refine gCallI (D := D) (va_runS (As := [.int a1]) (rest := []) ⟨hx, hb, hml, hown, hts⟩ (c_X8_isShift l D q cI cO hq a1  I F _ h) (va_cwS 1 hts gX8_shift_X8_isShift rfl rfl rfl (by decide +kernel) ⟨Nat.le_trans (Nat.le_of_ble_eq_true rfl) hRf, Nat.le_trans (Nat.le_of_ble_eq_true rfl) hRl⟩) (gPreS cEok hE hK hP hS) rfl rfl hl.1 rfl (lv_room (Nat.le_of_ble_eq_true rfl)) dX8_shift_1 ⟨Nat.zero_le _, Nat.zero_le _⟩) hS (fun r1 _ H locs hP hS h => ?_)
  have hP : va_P D vwCl (cW q cI cO I F) H := hP
  refine lv_if_ne (tgt := 10) hx hb dX8_shift_4 (by decide) (fun c2 => ?_) (fun c2 => ?_)
  · have h := h.1 c2
    refine lv_aload_n hx hb dX8_shift_10 rfl (lv_at hl 0 rfl) ?_
    refine va_get (D := D) (ci := 8) (v := .ref (q 4)) (C := RX8) (T := TX8) (N := 11) hx hb hts (fun _ h9 => List.mem_cons_of_mem _ (List.mem_append_left _ (List.mem_append_left _ (List.mem_append_left _ (List.mem_append_left _ (List.mem_append_right _ h9)))))) hown hK hP 0 cAt0 rfl 2 (by decide) (hts _ (List.mem_of_getElem? (l := wsX8_shift) (i := 1) rfl)) (fun _ h9 => h9) rfl dX8_shift_11 ?_
    refine va_getN (D := D) (ci := 2) (v := .int (I 8)) (C := RX2) (T := TX2) (N := 4) hx hb hts (fun _ h9 => List.mem_cons_of_mem _ (List.mem_append_left _ (List.mem_append_left _ (List.mem_append_left _ (List.mem_append_right _ h9))))) hown hK hP 4 cAt4 rfl 1 (by decide) (va_Nw.use rfl (hE.1.1 _ (List.mem_of_getElem? (l := cNF) (i := 6) rfl))) (fun _ h9 => h9) rfl dX8_shift_14 ?_
    refine lv_if_ne (tgt := 23) hx hb dX8_shift_17 (by decide) (fun c3 => ?_) (fun c3 => ?_)
    · have h := h.1 c3
      refine lv_aload_n hx hb dX8_shift_23 rfl (lv_at hl 0 rfl) ?_
      refine va_get (D := D) (ci := 8) (v := .ref (q 4)) (C := RX8) (T := TX8) (N := 11) hx hb hts (fun _ h9 => List.mem_cons_of_mem _ (List.mem_append_left _ (List.mem_append_left _ (List.mem_append_left _ (List.mem_append_left _ (List.mem_append_right _ h9)))))) hown hK hP 0 cAt0 rfl 2 (by decide) (hts _ (List.mem_of_getElem? (l := wsX8_shift) (i := 1) rfl)) (fun _ h9 => h9) rfl dX8_shift_24 ?_
      refine lv_iload_n hx hb dX8_shift_27 rfl (lv_at hl 1 rfl) ?_
      refine gCallV (D := D) (va_runV (As := [.int a1]) (rest := []) ⟨hx, hb, hml, hown, hts⟩ (c_X2_raise_4 l D q cI cO hq a1  I F _ h) (cwV 1 hts gX8_shift_X2_raise rfl rfl rfl (by decide +kernel) ⟨Nat.le_trans (Nat.le_of_ble_eq_true rfl) hRf, Nat.le_trans (Nat.le_of_ble_eq_true rfl) hRl⟩) (gPreV (ci := 2) (q0 := 4) cEok hE hK hP hS rfl cAt4) rfl rfl hl.1 rfl (lv_room (Nat.le_of_ble_eq_true rfl)) dX8_shift_28 ⟨Nat.zero_le _, Nat.zero_le _⟩) hS (fun u H locs hP hS h => ?_)
      obtain ⟨I4, F5⟩ := u
      have hP : va_P D vwCl (cW q cI cO I4 F5) H := hP
      refine lv_aload_n hx hb dX8_shift_31 rfl (lv_at hl 0 rfl) ?_
      refine va_get (D := D) (ci := 8) (v := .ref (q 9)) (C := RX8) (T := TX8) (N := 11) hx hb hts (fun _ h9 => List.mem_cons_of_mem _ (List.mem_append_left _ (List.mem_append_left _ (List.mem_append_left _ (List.mem_append_left _ (List.mem_append_right _ h9)))))) hown hK hP 0 cAt0 rfl 7 (by decide) (hts _ (List.mem_of_getElem? (l := wsX8_shift) (i := 2) rfl)) (fun _ h9 => h9) rfl dX8_shift_32 ?_
      refine gCallV (D := D) (va_runV (As := []) (rest := []) ⟨hx, hb, hml, hown, hts⟩ (c_X3_makeStale_9 l D q cI cO hq   I4 F5 _ h) (cwV 0 hts gX8_shift_X3_makeStale rfl rfl rfl (by decide +kernel) ⟨Nat.le_trans (Nat.le_of_ble_eq_true rfl) hRf, Nat.le_trans (Nat.le_of_ble_eq_true rfl) hRl⟩) (gPreV (ci := 3) (q0 := 9) cEok hE hK hP hS rfl cAt9) rfl rfl hl.1 rfl (lv_room (Nat.le_of_ble_eq_true rfl)) dX8_shift_35 ⟨Nat.zero_le _, Nat.zero_le _⟩) hS (fun u H locs hP hS h => ?_)
      obtain ⟨I6, F7⟩ := u
      have hP : va_P D vwCl (cW q cI cO I6 F7) H := hP
      refine lv_aload_n hx hb dX8_shift_38 rfl (lv_at hl 0 rfl) ?_
      refine va_get (D := D) (ci := 8) (v := .ref (q 9)) (C := RX8) (T := TX8) (N := 11) hx hb hts (fun _ h9 => List.mem_cons_of_mem _ (List.mem_append_left _ (List.mem_append_left _ (List.mem_append_left _ (List.mem_append_left _ (List.mem_append_right _ h9)))))) hown hK hP 0 cAt0 rfl 7 (by decide) (hts _ (List.mem_of_getElem? (l := wsX8_shift) (i := 2) rfl)) (fun _ h9 => h9) rfl dX8_shift_39 ?_
      refine lv_aload_n hx hb dX8_shift_42 rfl (lv_at hl 0 rfl) ?_
      refine va_get (D := D) (ci := 8) (v := .ref (q 4)) (C := RX8) (T := TX8) (N := 11) hx hb hts (fun _ h9 => List.mem_cons_of_mem _ (List.mem_append_left _ (List.mem_append_left _ (List.mem_append_left _ (List.mem_append_left _ (List.mem_append_right _ h9)))))) hown hK hP 0 cAt0 rfl 2 (by decide) (hts _ (List.mem_of_getElem? (l := wsX8_shift) (i := 1) rfl)) (fun _ h9 => h9) rfl dX8_shift_43 ?_
      refine lv_iconst (v := (0 : Int32)) hx hb dX8_shift_46 (by decide) ?_
      refine gCallI (D := D) (va_runV (As := [.ref (q 4), .int (0 : Int32)]) (rest := []) ⟨hx, hb, hml, hown, hts⟩ (c_X3_fewest_9_4 l D q cI cO hq (0 : Int32)  I6 F7 _ h) (cwV 2 hts gX8_shift_X3_fewest rfl rfl rfl (by decide +kernel) ⟨Nat.le_trans (Nat.le_of_ble_eq_true rfl) hRf, Nat.le_trans (Nat.le_of_ble_eq_true rfl) hRl⟩) (gPreV (ci := 3) (q0 := 9) cEok hE hK hP hS rfl cAt9) rfl rfl hl.1 rfl (lv_room (Nat.le_of_ble_eq_true rfl)) dX8_shift_47 ⟨Nat.zero_le _, Nat.zero_le _⟩) hS (fun r8 u H locs hP hS h => ?_)
      obtain ⟨I9, F10⟩ := u
      have hP : va_P D vwCl (cW q cI cO I9 F10) H := hP
      exact hret r8 (I9, F10) _ _ _ _ dX8_shift_50 hP hS h
    · have h := h.2 c3
      refine lv_bipush (v := (-103 : Int32)) hx hb dX8_shift_20 (by decide) ?_
      exact hret (-103 : Int32) (I, F) _ _ _ _ dX8_shift_22 hP hS h
  · have h := h.2 c2
    refine lv_bipush (v := (-102 : Int32)) hx hb dX8_shift_7 (by decide) ?_
    exact hret (-102 : Int32) (I, F) _ _ _ _ dX8_shift_9 hP hS h
def w_X3_ways_9_4  (I : Nat → Int32) (F : Nat → Nat → Int32) (post : Int32 → (Nat → Int32) → (Nat → Nat → Int32) → Prop) : Prop :=
  w_X3_goForward_9_4 (0 : Int32) I F (fun (I1 : Nat → Int32) (F2 : Nat → Nat → Int32) => ((¬ (I1 14) = (1073741824 : Int32) → post ((I1 14) &&& (1048575 : Int32)) I1 F2) ∧ ((I1 14) = (1073741824 : Int32) → post (0 : Int32) I1 F2)))
set_option maxHeartbeats 4000000 in
set_option maxRecDepth 100000 in
theorem c_X3_ways_9_4 (l : Launch) (D : va_G) (q : Nat → Nat) (cI cO : ClassId) (hq : cOk q)   (I : Nat → Int32) (F : Nat → Nat → Int32) (post : Int32 → (Nat → Int32) → (Nat → Nat → Int32) → Prop) (h : w_X3_ways_9_4  I F post) : Met l yX3_ways wsX3_ways ({ frames := 4, cells := 0, slots := 0, locals := 107 } : Room) (gPre D (cTys cI cO) (cW q cI cO I F) (cEnv q) [.ref (q 9), .ref (q 4)]) (va_Qi (fun r (u : cS) => post r u.1 u.2) (gB D (fun u : cS => cW q cI cO u.1 u.2)) (cA q)) 0 0 (cA q) := by
  refine gMetI (by decide) rfl (Nat.le_of_ble_eq_true rfl) ?_
  intro p e R s m args below meth c Q ls hR hx hb hml hown hts hK hE hP hl hret
  have hRf : 4 ≤ R.frames := by subst hR; exact Nat.le_refl _
  have hRl : 107 ≤ R.locals := by subst hR; exact Nat.le_refl _
  have hown : s.vm.findClass RX3 = some m.cls := hown
  have hl : lv_has ls 2 [(0, .ref (q 9)), (1, .ref (q 4))] := hl
  have hS : va_S (cA q) s.heap s.heap [] := va_S.rf
  have hP : va_P D vwCl (cW q cI cO I F) s.heap := hP
  refine lv_aload_n hx hb dX3_ways_0 rfl (lv_at hl 0 rfl) ?_
  refine lv_aload_n hx hb dX3_ways_1 rfl (lv_at hl 1 rfl) ?_
  refine lv_iconst (v := (0 : Int32)) hx hb dX3_ways_2 (by decide) ?_
  refine gCallV (D := D) (va_runV (As := [.ref (q 4), .int (0 : Int32)]) (rest := []) ⟨hx, hb, hml, hown, hts⟩ (c_X3_goForward_9_4 l D q cI cO hq (0 : Int32)  I F _ h) (cwV 2 hts gX3_ways_X3_goForward rfl rfl rfl (by decide +kernel) ⟨Nat.le_trans (Nat.le_of_ble_eq_true rfl) hRf, Nat.le_trans (Nat.le_of_ble_eq_true rfl) hRl⟩) (gPreV (ci := 3) (q0 := 9) cEok hE hK hP hS rfl cAt9) rfl rfl hl.1 rfl (lv_room (Nat.le_of_ble_eq_true rfl)) dX3_ways_3 ⟨Nat.zero_le _, Nat.zero_le _⟩) hS (fun u H locs hP hS h => ?_)
  obtain ⟨I1, F2⟩ := u
  have hP : va_P D vwCl (cW q cI cO I1 F2) H := hP
  refine lv_aload_n hx hb dX3_ways_6 rfl (lv_at hl 0 rfl) ?_
  refine va_get (D := D) (ci := 3) (v := .int (I1 14)) (C := RX3) (T := TX3) (N := 12) hx hb hts (fun _ h9 => List.mem_cons_of_mem _ (List.mem_append_left _ (List.mem_append_left _ (List.mem_append_left _ (List.mem_append_right _ h9))))) hown hK hP 9 cAt9 rfl 9 (by decide) (hts _ (List.mem_of_getElem? (l := wsX3_ways) (i := 1) rfl)) (fun _ h9 => h9) rfl dX3_ways_7 ?_
  refine lv_ldc (v := (1073741824 : Int32)) hx hb hown (hts _ (List.mem_of_getElem? (l := wsX3_ways) (i := 2) rfl)) dX3_ways_10 ?_
  refine lv_icmp_ne (tgt := 19) hx hb dX3_ways_12 (by decide) (fun c3 => ?_) (fun c3 => ?_)
  · have h := h.1 c3
    refine lv_aload_n hx hb dX3_ways_19 rfl (lv_at hl 0 rfl) ?_
    refine va_get (D := D) (ci := 3) (v := .int (I1 14)) (C := RX3) (T := TX3) (N := 12) hx hb hts (fun _ h9 => List.mem_cons_of_mem _ (List.mem_append_left _ (List.mem_append_left _ (List.mem_append_left _ (List.mem_append_right _ h9))))) hown hK hP 9 cAt9 rfl 9 (by decide) (hts _ (List.mem_of_getElem? (l := wsX3_ways) (i := 1) rfl)) (fun _ h9 => h9) rfl dX3_ways_20 ?_
    refine lv_ldc (v := (1048575 : Int32)) hx hb hown (hts _ (List.mem_of_getElem? (l := wsX3_ways) (i := 3) rfl)) dX3_ways_23 ?_
    refine lv_iand hx hb dX3_ways_25 ?_
    exact hret ((I1 14) &&& (1048575 : Int32)) (I1, F2) _ _ _ _ dX3_ways_26 hP hS h
  · have h := h.2 c3
    refine lv_iconst (v := (0 : Int32)) hx hb dX3_ways_15 (by decide) ?_
    refine lv_goto (tgt := 26) hx hb dX3_ways_16 (by decide) ?_
    exact hret (0 : Int32) (I1, F2) _ _ _ _ dX3_ways_26 hP hS h
def w_X3_stuckAt_9_4_B8 (I : Nat → Int32) (F : Nat → Nat → Int32) (post : Int32 → (Nat → Int32) → (Nat → Nat → Int32) → Prop) (k again : Int32 → Prop) (x2 : Int32) : Prop :=
  (((I 8) ≤ x2 → k x2) ∧ (¬ (I 8) ≤ x2 → vp_in x2 8 ∧ ((¬ (F 26 (x2).toNatClampNeg) = 0 → again (x2 + (1 : Int32))) ∧ ((F 26 (x2).toNatClampNeg) = 0 → post x2 I F))))
def w_X3_stuckAt_9_4  (I : Nat → Int32) (F : Nat → Nat → Int32) (post : Int32 → (Nat → Int32) → (Nat → Nat → Int32) → Prop) : Prop :=
  w_X3_goForward_9_4 (0 : Int32) I F (fun (I3 : Nat → Int32) (F4 : Nat → Nat → Int32) => gL (fun ag v => w_X3_stuckAt_9_4_B8 I3 F4 post (fun (y5 : Int32) => post (-1 : Int32) I3 F4) ag v) (0 : Int32))
set_option maxHeartbeats 4000000 in
set_option maxRecDepth 100000 in
theorem c_X3_stuckAt_9_4 (l : Launch) (D : va_G) (q : Nat → Nat) (cI cO : ClassId) (hq : cOk q)   (I : Nat → Int32) (F : Nat → Nat → Int32) (post : Int32 → (Nat → Int32) → (Nat → Nat → Int32) → Prop) (h : w_X3_stuckAt_9_4  I F post) : Met l yX3_stuckAt wsX3_stuckAt ({ frames := 4, cells := 0, slots := 0, locals := 107 } : Room) (gPre D (cTys cI cO) (cW q cI cO I F) (cEnv q) [.ref (q 9), .ref (q 4)]) (va_Qi (fun r (u : cS) => post r u.1 u.2) (gB D (fun u : cS => cW q cI cO u.1 u.2)) (cA q)) 0 0 (cA q) := by
  refine gMetI (by decide) rfl (Nat.le_of_ble_eq_true rfl) ?_
  intro p e R s m args below meth c Q ls hR hx hb hml hown hts hK hE hP hl hret
  have hRf : 4 ≤ R.frames := by subst hR; exact Nat.le_refl _
  have hRl : 107 ≤ R.locals := by subst hR; exact Nat.le_refl _
  have hown : s.vm.findClass RX3 = some m.cls := hown
  have hl : lv_has ls 3 [(0, .ref (q 9)), (1, .ref (q 4))] := hl
  have hS : va_S (cA q) s.heap s.heap [] := va_S.rf
  have hP : va_P D vwCl (cW q cI cO I F) s.heap := hP
  have L8 : ∀ (n : Nat) (I : Nat → Int32) (F : Nat → Nat → Int32) (k : Int32 → Prop) (x2 : Int32) (H : Heap) (locs : List Loc) (ls : Array Slot), va_P D vwCl (cW q cI cO I F) H → va_S (cA q) s.heap H locs → lv_has ls 3 [(0, .ref (q 9)), (1, .ref (q 4)), (2, .int x2)] → gLN (fun ag v => w_X3_stuckAt_9_4_B8 I F post k ag v) n x2 → (∀ (x2 : Int32) (H : Heap) (locs : List Loc) (ls : Array Slot), va_P D vwCl (cW q cI cO I F) H → va_S (cA q) s.heap H locs → lv_has ls 3 [] → k x2 → W p l e R s m args below meth c H locs 0 0 Q (F0 m 33 ls [])) → W p l e R s m args below meth c H locs 0 0 Q (F0 m 8 ls []) := by
    intro n
    induction n with
    | zero =>
      intro I F k x2 H locs ls  hP hS hl h K
      exact False.elim h
    | succ n ih =>
      intro I F k x2 H locs ls  hP hS hl h K
      have h : w_X3_stuckAt_9_4_B8 I F post k (fun b0 => gLN (fun ag v => w_X3_stuckAt_9_4_B8 I F post k ag v) n b0) x2 := h
      refine lv_iload_n hx hb dX3_stuckAt_8 rfl (lv_at hl 2 rfl) ?_
      refine lv_aload_n hx hb dX3_stuckAt_9 rfl (lv_at hl 1 rfl) ?_
      refine va_getN (D := D) (ci := 2) (v := .int (I 8)) (C := RX2) (T := TX2) (N := 4) hx hb hts (fun _ h9 => List.mem_cons_of_mem _ (List.mem_append_left _ (List.mem_append_left _ (List.mem_append_left _ (List.mem_append_right _ h9))))) hown hK hP 4 cAt4 rfl 1 (by decide) (va_Nw.use rfl (hE.1.1 _ (List.mem_of_getElem? (l := cNF) (i := 5) rfl))) (fun _ h9 => h9) rfl dX3_stuckAt_10 ?_
      refine lv_icmp_ge (tgt := 33) hx hb dX3_stuckAt_13 (by decide) (fun c1 => ?_) (fun c1 => ?_)
      · have h := h.1 c1
        exact K x2 _ _ _  hP hS (lv_sub hl [] rfl) h
      · have h := h.2 c1
        refine lv_aload_n hx hb dX3_stuckAt_16 rfl (lv_at hl 0 rfl) ?_
        refine va_get (D := D) (ci := 3) (v := .ref (q 26)) (C := RX3) (T := TX3) (N := 12) hx hb hts (fun _ h9 => List.mem_cons_of_mem _ (List.mem_append_left _ (List.mem_append_left _ (List.mem_append_right _ h9)))) hown hK hP 9 cAt9 rfl 6 (by decide) (hts _ (List.mem_of_getElem? (l := wsX3_stuckAt) (i := 1) rfl)) (fun _ h9 => h9) rfl dX3_stuckAt_17 ?_
        refine lv_iload_n hx hb dX3_stuckAt_20 rfl (lv_at hl 2 rfl) ?_
        refine va_iald (D := D) hx hb hK hP 26 0 cAr26 rfl h.1 dX3_stuckAt_21 ?_
        have h := h.2
        refine lv_if_ne (tgt := 27) hx hb dX3_stuckAt_22 (by decide) (fun c2 => ?_) (fun c2 => ?_)
        · have h := h.1 c2
          refine lv_iinc (v := (x2 + (1 : Int32))) (lv' := [(2, .int (x2 + (1 : Int32))), (0, .ref (q 9)), (1, .ref (q 4))]) hx hb dX3_stuckAt_27 hl (k := 2) rfl rfl (by decide) rfl (fun ls hl => ?_)
          refine lv_goto (tgt := 8) hx hb dX3_stuckAt_30 (by decide) ?_
          exact ih I F _ (x2 + (1 : Int32)) _ _ _  hP hS (lv_sub hl [1, 2, 0] rfl) h K
        · have h := h.2 c2
          refine lv_iload_n hx hb dX3_stuckAt_25 rfl (lv_at hl 2 rfl) ?_
          exact hret x2 (I, F) _ _ _ _ dX3_stuckAt_26 hP hS h
  refine lv_aload_n hx hb dX3_stuckAt_0 rfl (lv_at hl 0 rfl) ?_
  refine lv_aload_n hx hb dX3_stuckAt_1 rfl (lv_at hl 1 rfl) ?_
  refine lv_iconst (v := (0 : Int32)) hx hb dX3_stuckAt_2 (by decide) ?_
  refine gCallV (D := D) (va_runV (As := [.ref (q 4), .int (0 : Int32)]) (rest := []) ⟨hx, hb, hml, hown, hts⟩ (c_X3_goForward_9_4 l D q cI cO hq (0 : Int32)  I F _ h) (cwV 2 hts gX3_stuckAt_X3_goForward rfl rfl rfl (by decide +kernel) ⟨Nat.le_trans (Nat.le_of_ble_eq_true rfl) hRf, Nat.le_trans (Nat.le_of_ble_eq_true rfl) hRl⟩) (gPreV (ci := 3) (q0 := 9) cEok hE hK hP hS rfl cAt9) rfl rfl hl.1 rfl (lv_room (Nat.le_of_ble_eq_true rfl)) dX3_stuckAt_3 ⟨Nat.zero_le _, Nat.zero_le _⟩) hS (fun u H locs hP hS h => ?_)
  obtain ⟨I3, F4⟩ := u
  have hP : va_P D vwCl (cW q cI cO I3 F4) H := hP
  refine lv_iconst (v := (0 : Int32)) hx hb dX3_stuckAt_6 (by decide) ?_
  refine lv_istore_n (lv' := [(2, .int (0 : Int32)), (0, .ref (q 9)), (1, .ref (q 4))]) hx hb dX3_stuckAt_7 rfl hl (by decide) rfl (fun ls hl => ?_)
  obtain ⟨n, h⟩ := h
  refine L8 n I3 F4 _ (0 : Int32) _ _ _  hP hS (lv_sub hl [1, 2, 0] rfl) h (fun y5 H locs ls  hP hS hl h => ?_)
  refine lv_iconst (v := (-1 : Int32)) hx hb dX3_stuckAt_33 (by decide) ?_
  exact hret (-1 : Int32) (I3, F4) _ _ _ _ dX3_stuckAt_34 hP hS h
def w_X8_plan (a1 : Int32) (I : Nat → Int32) (F : Nat → Nat → Int32) (post : Int32 → (Nat → Int32) → (Nat → Nat → Int32) → Prop) : Prop :=
  ((a1 < 0 → post (-102 : Int32) I F) ∧ (¬ a1 < 0 → ((a1 < (3 : Int32) → ((¬ (I 8) = 0 → ((a1 = (0 : Int32) → w_X3_fewest_9_4 (0 : Int32) I F (fun (r5 : Int32) (I6 : Nat → Int32) (F7 : Nat → Nat → Int32) => post r5 I6 F7)) ∧ (a1 = (1 : Int32) → w_X3_ways_9_4 I F (fun (r8 : Int32) (I9 : Nat → Int32) (F10 : Nat → Nat → Int32) => post r8 I9 F10)) ∧ (¬ a1 = (0 : Int32) → ¬ a1 = (1 : Int32) → w_X3_stuckAt_9_4 I F (fun (r11 : Int32) (I12 : Nat → Int32) (F13 : Nat → Nat → Int32) => post r11 I12 F13)))) ∧ ((I 8) = 0 → post (-103 : Int32) I F))) ∧ (¬ a1 < (3 : Int32) → post (-102 : Int32) I F))))
set_option maxHeartbeats 4000000 in
set_option maxRecDepth 100000 in
theorem c_X8_plan (l : Launch) (D : va_G) (q : Nat → Nat) (cI cO : ClassId) (hq : cOk q) (a1 : Int32)  (I : Nat → Int32) (F : Nat → Nat → Int32) (post : Int32 → (Nat → Int32) → (Nat → Nat → Int32) → Prop) (h : w_X8_plan a1 I F post) : Met l yX8_plan wsX8_plan ({ frames := 5, cells := 0, slots := 0, locals := 129 } : Room) (gPre D (cTys cI cO) (cW q cI cO I F) (cEnv q) [.ref (q 0), .int a1]) (va_Qi (fun r (u : cS) => post r u.1 u.2) (gB D (fun u : cS => cW q cI cO u.1 u.2)) (cA q)) 0 0 (cA q) := by
  refine gMetI (by decide) rfl (Nat.le_of_ble_eq_true rfl) ?_
  intro p e R s m args below meth c Q ls hR hx hb hml hown hts hK hE hP hl hret
  have hRf : 5 ≤ R.frames := by subst hR; exact Nat.le_refl _
  have hRl : 129 ≤ R.locals := by subst hR; exact Nat.le_refl _
  have hown : s.vm.findClass RX8 = some m.cls := hown
  have hl : lv_has ls 2 [(0, .ref (q 0)), (1, .int a1)] := hl
  have hS : va_S (cA q) s.heap s.heap [] := va_S.rf
  have hP : va_P D vwCl (cW q cI cO I F) s.heap := hP
  refine lv_iload_n hx hb dX8_plan_0 rfl (lv_at hl 1 rfl) ?_
  refine lv_if_lt (tgt := 9) hx hb dX8_plan_1 (by decide) (fun c1 => ?_) (fun c1 => ?_)
  · have h := h.1 c1
    refine lv_bipush (v := (-102 : Int32)) hx hb dX8_plan_9 (by decide) ?_
    exact hret (-102 : Int32) (I, F) _ _ _ _ dX8_plan_11 hP hS h
  · have h := h.2 c1
    refine lv_iload_n hx hb dX8_plan_4 rfl (lv_at hl 1 rfl) ?_
    refine lv_iconst (v := (3 : Int32)) hx hb dX8_plan_5 (by decide) ?_
    refine lv_icmp_lt (tgt := 12) hx hb dX8_plan_6 (by decide) (fun c2 => ?_) (fun c2 => ?_)
    · have h := h.1 c2
      refine lv_aload_n hx hb dX8_plan_12 rfl (lv_at hl 0 rfl) ?_
      refine va_get (D := D) (ci := 8) (v := .ref (q 4)) (C := RX8) (T := TX8) (N := 11) hx hb hts (fun _ h9 => List.mem_cons_of_mem _ (List.mem_append_left _ (List.mem_append_left _ (List.mem_append_left _ (List.mem_append_left _ (List.mem_append_right _ h9)))))) hown hK hP 0 cAt0 rfl 2 (by decide) (hts _ (List.mem_of_getElem? (l := wsX8_plan) (i := 1) rfl)) (fun _ h9 => h9) rfl dX8_plan_13 ?_
      refine va_getN (D := D) (ci := 2) (v := .int (I 8)) (C := RX2) (T := TX2) (N := 4) hx hb hts (fun _ h9 => List.mem_cons_of_mem _ (List.mem_append_left _ (List.mem_append_left _ (List.mem_append_left _ (List.mem_append_right _ h9))))) hown hK hP 4 cAt4 rfl 1 (by decide) (va_Nw.use rfl (hE.1.1 _ (List.mem_of_getElem? (l := cNF) (i := 6) rfl))) (fun _ h9 => h9) rfl dX8_plan_16 ?_
      refine lv_if_ne (tgt := 25) hx hb dX8_plan_19 (by decide) (fun c3 => ?_) (fun c3 => ?_)
      · have h := h.1 c3
        refine lv_iload_n hx hb dX8_plan_25 rfl (lv_at hl 1 rfl) ?_
        by_cases c4_0 : a1 = (0 : Int32)
        · have h := h.1 c4_0
          refine lv_lookup (tgt := 52) (off := 26) hx hb dX8_plan_26 (by decide) (by rw [c4_0]; rfl) (by decide) ?_
          refine lv_aload_n hx hb dX8_plan_52 rfl (lv_at hl 0 rfl) ?_
          refine va_get (D := D) (ci := 8) (v := .ref (q 9)) (C := RX8) (T := TX8) (N := 11) hx hb hts (fun _ h9 => List.mem_cons_of_mem _ (List.mem_append_left _ (List.mem_append_left _ (List.mem_append_left _ (List.mem_append_left _ (List.mem_append_right _ h9)))))) hown hK hP 0 cAt0 rfl 7 (by decide) (hts _ (List.mem_of_getElem? (l := wsX8_plan) (i := 2) rfl)) (fun _ h9 => h9) rfl dX8_plan_53 ?_
          refine lv_aload_n hx hb dX8_plan_56 rfl (lv_at hl 0 rfl) ?_
          refine va_get (D := D) (ci := 8) (v := .ref (q 4)) (C := RX8) (T := TX8) (N := 11) hx hb hts (fun _ h9 => List.mem_cons_of_mem _ (List.mem_append_left _ (List.mem_append_left _ (List.mem_append_left _ (List.mem_append_left _ (List.mem_append_right _ h9)))))) hown hK hP 0 cAt0 rfl 2 (by decide) (hts _ (List.mem_of_getElem? (l := wsX8_plan) (i := 1) rfl)) (fun _ h9 => h9) rfl dX8_plan_57 ?_
          refine lv_iconst (v := (0 : Int32)) hx hb dX8_plan_60 (by decide) ?_
          refine gCallI (D := D) (va_runV (As := [.ref (q 4), .int (0 : Int32)]) (rest := []) ⟨hx, hb, hml, hown, hts⟩ (c_X3_fewest_9_4 l D q cI cO hq (0 : Int32)  I F _ h) (cwV 2 hts gX8_plan_X3_fewest rfl rfl rfl (by decide +kernel) ⟨Nat.le_trans (Nat.le_of_ble_eq_true rfl) hRf, Nat.le_trans (Nat.le_of_ble_eq_true rfl) hRl⟩) (gPreV (ci := 3) (q0 := 9) cEok hE hK hP hS rfl cAt9) rfl rfl hl.1 rfl (lv_room (Nat.le_of_ble_eq_true rfl)) dX8_plan_61 ⟨Nat.zero_le _, Nat.zero_le _⟩) hS (fun r5 u H locs hP hS h => ?_)
          obtain ⟨I6, F7⟩ := u
          have hP : va_P D vwCl (cW q cI cO I6 F7) H := hP
          exact hret r5 (I6, F7) _ _ _ _ dX8_plan_64 hP hS h
        by_cases c4_1 : a1 = (1 : Int32)
        · have h := h.2.1 c4_1
          refine lv_lookup (tgt := 65) (off := 39) hx hb dX8_plan_26 (by decide) (by rw [c4_1]; rfl) (by decide) ?_
          refine lv_aload_n hx hb dX8_plan_65 rfl (lv_at hl 0 rfl) ?_
          refine va_get (D := D) (ci := 8) (v := .ref (q 9)) (C := RX8) (T := TX8) (N := 11) hx hb hts (fun _ h9 => List.mem_cons_of_mem _ (List.mem_append_left _ (List.mem_append_left _ (List.mem_append_left _ (List.mem_append_left _ (List.mem_append_right _ h9)))))) hown hK hP 0 cAt0 rfl 7 (by decide) (hts _ (List.mem_of_getElem? (l := wsX8_plan) (i := 2) rfl)) (fun _ h9 => h9) rfl dX8_plan_66 ?_
          refine lv_aload_n hx hb dX8_plan_69 rfl (lv_at hl 0 rfl) ?_
          refine va_get (D := D) (ci := 8) (v := .ref (q 4)) (C := RX8) (T := TX8) (N := 11) hx hb hts (fun _ h9 => List.mem_cons_of_mem _ (List.mem_append_left _ (List.mem_append_left _ (List.mem_append_left _ (List.mem_append_left _ (List.mem_append_right _ h9)))))) hown hK hP 0 cAt0 rfl 2 (by decide) (hts _ (List.mem_of_getElem? (l := wsX8_plan) (i := 1) rfl)) (fun _ h9 => h9) rfl dX8_plan_70 ?_
          refine gCallI (D := D) (va_runV (As := [.ref (q 4)]) (rest := []) ⟨hx, hb, hml, hown, hts⟩ (c_X3_ways_9_4 l D q cI cO hq   I F _ h) (cwV 1 hts gX8_plan_X3_ways rfl rfl rfl (by decide +kernel) ⟨Nat.le_trans (Nat.le_of_ble_eq_true rfl) hRf, Nat.le_trans (Nat.le_of_ble_eq_true rfl) hRl⟩) (gPreV (ci := 3) (q0 := 9) cEok hE hK hP hS rfl cAt9) rfl rfl hl.1 rfl (lv_room (Nat.le_of_ble_eq_true rfl)) dX8_plan_73 ⟨Nat.zero_le _, Nat.zero_le _⟩) hS (fun r8 u H locs hP hS h => ?_)
          obtain ⟨I9, F10⟩ := u
          have hP : va_P D vwCl (cW q cI cO I9 F10) H := hP
          exact hret r8 (I9, F10) _ _ _ _ dX8_plan_76 hP hS h
        have h := h.2.2 c4_0 c4_1
        refine lv_lookup (tgt := 77) (off := 51) hx hb dX8_plan_26 (by decide) ((lv_osw c4_0 rfl).trans ((lv_osw c4_1 rfl).trans rfl)) (by decide) ?_
        refine lv_aload_n hx hb dX8_plan_77 rfl (lv_at hl 0 rfl) ?_
        refine va_get (D := D) (ci := 8) (v := .ref (q 9)) (C := RX8) (T := TX8) (N := 11) hx hb hts (fun _ h9 => List.mem_cons_of_mem _ (List.mem_append_left _ (List.mem_append_left _ (List.mem_append_left _ (List.mem_append_left _ (List.mem_append_right _ h9)))))) hown hK hP 0 cAt0 rfl 7 (by decide) (hts _ (List.mem_of_getElem? (l := wsX8_plan) (i := 2) rfl)) (fun _ h9 => h9) rfl dX8_plan_78 ?_
        refine lv_aload_n hx hb dX8_plan_81 rfl (lv_at hl 0 rfl) ?_
        refine va_get (D := D) (ci := 8) (v := .ref (q 4)) (C := RX8) (T := TX8) (N := 11) hx hb hts (fun _ h9 => List.mem_cons_of_mem _ (List.mem_append_left _ (List.mem_append_left _ (List.mem_append_left _ (List.mem_append_left _ (List.mem_append_right _ h9)))))) hown hK hP 0 cAt0 rfl 2 (by decide) (hts _ (List.mem_of_getElem? (l := wsX8_plan) (i := 1) rfl)) (fun _ h9 => h9) rfl dX8_plan_82 ?_
        refine gCallI (D := D) (va_runV (As := [.ref (q 4)]) (rest := []) ⟨hx, hb, hml, hown, hts⟩ (c_X3_stuckAt_9_4 l D q cI cO hq   I F _ h) (cwV 1 hts gX8_plan_X3_stuckAt rfl rfl rfl (by decide +kernel) ⟨Nat.le_trans (Nat.le_of_ble_eq_true rfl) hRf, Nat.le_trans (Nat.le_of_ble_eq_true rfl) hRl⟩) (gPreV (ci := 3) (q0 := 9) cEok hE hK hP hS rfl cAt9) rfl rfl hl.1 rfl (lv_room (Nat.le_of_ble_eq_true rfl)) dX8_plan_85 ⟨Nat.zero_le _, Nat.zero_le _⟩) hS (fun r11 u H locs hP hS h => ?_)
        obtain ⟨I12, F13⟩ := u
        have hP : va_P D vwCl (cW q cI cO I12 F13) H := hP
        exact hret r11 (I12, F13) _ _ _ _ dX8_plan_88 hP hS h
      · have h := h.2 c3
        refine lv_bipush (v := (-103 : Int32)) hx hb dX8_plan_22 (by decide) ?_
        exact hret (-103 : Int32) (I, F) _ _ _ _ dX8_plan_24 hP hS h
    · have h := h.2 c2
      refine lv_bipush (v := (-102 : Int32)) hx hb dX8_plan_9 (by decide) ?_
      exact hret (-102 : Int32) (I, F) _ _ _ _ dX8_plan_11 hP hS h
def w_X0_movesBetween_10_B8 (x1 : Int32) (x2 : Int32) (I : Nat → Int32) (F : Nat → Nat → Int32) (post : Int32 → Prop) (k again : Int32 → Int32 → Int32 → Prop) (x3 : Int32) (x4 : Int32) (x5 : Int32) : Prop :=
  (((7 : Int32) ≤ x5 → k x3 x4 x5) ∧ (¬ (7 : Int32) ≤ x5 → w_X7_positionAt x1 x5 I F (fun (r2 : Int32) => w_X7_positionAt x2 x5 I F (fun (r3 : Int32) => ((r2 = r3 → again x3 x4 (x5 + (1 : Int32))) ∧ (¬ r2 = r3 → w_X0_holds_10 x5 r2 I F (fun (r5 : Int32) => ((r5 = 0 → (((3 : Int32) ≤ x5 → (((1 : Int32) < x3 → post (-1 : Int32)) ∧ (¬ (1 : Int32) < x3 → (((x4 + (1 : Int32)) ≤ (1 : Int32) → again x3 (x4 + (1 : Int32)) (x5 + (1 : Int32))) ∧ (¬ (x4 + (1 : Int32)) ≤ (1 : Int32) → post (-1 : Int32)))))) ∧ (¬ (3 : Int32) ≤ x5 → (((1 : Int32) < (x3 + (1 : Int32)) → post (-1 : Int32)) ∧ (¬ (1 : Int32) < (x3 + (1 : Int32)) → ((x4 ≤ (1 : Int32) → again (x3 + (1 : Int32)) x4 (x5 + (1 : Int32))) ∧ (¬ x4 ≤ (1 : Int32) → post (-1 : Int32)))))))) ∧ (¬ r5 = 0 → post (-1 : Int32))))))))))
def w_X0_movesBetween_10 (a1 : Int32) (a2 : Int32) (I : Nat → Int32) (F : Nat → Nat → Int32) (post : Int32 → Prop) : Prop :=
  gL (fun ag v => w_X0_movesBetween_10_B8 a1 a2 I F post (fun (y12 : Int32) (y13 : Int32) (y14 : Int32) => (((I 17) < (y12 + y13) → post (-1 : Int32)) ∧ (¬ (I 17) < (y12 + y13) → post (y12 + y13)))) (fun b0 b1 b2 => ag (b0, b1, b2)) v.1 v.2.1 v.2.2) ((0 : Int32), (0 : Int32), (0 : Int32))
set_option maxHeartbeats 4000000 in
set_option maxRecDepth 100000 in
theorem c_X0_movesBetween_10 (l : Launch) (D : va_G) (q : Nat → Nat) (cI cO : ClassId) (hq : cOk q) (a1 : Int32) (a2 : Int32)  (I : Nat → Int32) (F : Nat → Nat → Int32) (post : Int32 → Prop) (h : w_X0_movesBetween_10 a1 a2 I F post) : Met l yX0_movesBetween wsX0_movesBetween ({ frames := 1, cells := 0, slots := 0, locals := 22 } : Room) (gPre D (cTys cI cO) (cW q cI cO I F) (cEnv q) [.ref (q 10), .int a1, .int a2]) (va_Qi (fun r (_ : Unit) => post r) (gB D (fun _ : Unit => cW q cI cO I F)) (cA q)) 0 0 (cA q) := by
  refine gMetI (by decide) rfl (Nat.le_of_ble_eq_true rfl) ?_
  intro p e R s m args below meth c Q ls hR hx hb hml hown hts hK hE hP hl hret
  have hRf : 1 ≤ R.frames := by subst hR; exact Nat.le_refl _
  have hRl : 22 ≤ R.locals := by subst hR; exact Nat.le_refl _
  have hown : s.vm.findClass RX0 = some m.cls := hown
  have hl : lv_has ls 7 [(0, .ref (q 10)), (1, .int a1), (2, .int a2)] := hl
  have hS : va_S (cA q) s.heap s.heap [] := va_S.rf
  have hP : va_P D vwCl (cW q cI cO I F) s.heap := hP
  have L8 : ∀ (n : Nat) (x1 : Int32) (x2 : Int32) (k : Int32 → Int32 → Int32 → Prop) (x3 : Int32) (x4 : Int32) (x5 : Int32) (H : Heap) (locs : List Loc) (ls : Array Slot), va_P D vwCl (cW q cI cO I F) H → va_S (cA q) s.heap H locs → lv_has ls 7 [(0, .ref (q 10)), (1, .int x1), (2, .int x2), (3, .int x3), (4, .int x4), (5, .int x5)] → gLN (fun ag v => w_X0_movesBetween_10_B8 x1 x2 I F post k (fun b0 b1 b2 => ag (b0, b1, b2)) v.1 v.2.1 v.2.2) n (x3, x4, x5) → (∀ (x3 : Int32) (x4 : Int32) (x5 : Int32) (H : Heap) (locs : List Loc) (ls : Array Slot), va_P D vwCl (cW q cI cO I F) H → va_S (cA q) s.heap H locs → lv_has ls 7 [(0, .ref (q 10)), (3, .int x3), (4, .int x4)] → k x3 x4 x5 → W p l e R s m args below meth c H locs 0 0 Q (F0 m 81 ls [])) → W p l e R s m args below meth c H locs 0 0 Q (F0 m 8 ls []) := by
    intro n
    induction n with
    | zero =>
      intro x1 x2 k x3 x4 x5 H locs ls  hP hS hl h K
      exact False.elim h
    | succ n ih =>
      intro x1 x2 k x3 x4 x5 H locs ls  hP hS hl h K
      have h : w_X0_movesBetween_10_B8 x1 x2 I F post k (fun b0 b1 b2 => gLN (fun ag v => w_X0_movesBetween_10_B8 x1 x2 I F post k (fun b0 b1 b2 => ag (b0, b1, b2)) v.1 v.2.1 v.2.2) n (b0, b1, b2)) x3 x4 x5 := h
      refine lv_iload hx hb dX0_movesBetween_8 (lv_at hl 5 rfl) ?_
      refine lv_bipush (v := (7 : Int32)) hx hb dX0_movesBetween_10 (by decide) ?_
      refine lv_icmp_ge (tgt := 81) hx hb dX0_movesBetween_12 (by decide) (fun c1 => ?_) (fun c1 => ?_)
      · have h := h.1 c1
        exact K x3 x4 x5 _ _ _  hP hS (lv_sub hl [0, 3, 4] rfl) h
      · have h := h.2 c1
        refine lv_iload_n hx hb dX0_movesBetween_15 rfl (lv_at hl 1 rfl) ?_
        refine lv_iload hx hb dX0_movesBetween_16 (lv_at hl 5 rfl) ?_
        refine gCallI (D := D) (va_runS (As := [.int x1, .int x5]) (rest := []) ⟨hx, hb, hml, hown, hts⟩ (c_X7_positionAt l D q cI cO hq x1 x5  I F _ h) (va_cwS 2 hts gX0_movesBetween_X7_positionAt rfl rfl rfl (by decide +kernel) ⟨Nat.le_trans (Nat.le_of_ble_eq_true rfl) hRf, Nat.le_trans (Nat.le_of_ble_eq_true rfl) hRl⟩) (gPreS cEok hE hK hP hS) rfl rfl hl.1 rfl (lv_room (Nat.le_of_ble_eq_true rfl)) dX0_movesBetween_18 ⟨Nat.zero_le _, Nat.zero_le _⟩) hS (fun r2 _ H locs hP hS h => ?_)
        have hP : va_P D vwCl (cW q cI cO I F) H := hP
        refine lv_istore (lv' := [(6, .int r2), (0, .ref (q 10)), (1, .int x1), (2, .int x2), (3, .int x3), (4, .int x4), (5, .int x5)]) hx hb dX0_movesBetween_21 hl (by decide) rfl (fun ls hl => ?_)
        refine lv_iload hx hb dX0_movesBetween_23 (lv_at hl 0 rfl) ?_
        refine lv_iload_n hx hb dX0_movesBetween_25 rfl (lv_at hl 3 rfl) ?_
        refine lv_iload hx hb dX0_movesBetween_26 (lv_at hl 6 rfl) ?_
        refine gCallI (D := D) (va_runS (As := [.int x2, .int x5]) (rest := [.int r2]) ⟨hx, hb, hml, hown, hts⟩ (c_X7_positionAt l D q cI cO hq x2 x5  I F _ h) (va_cwS 2 hts gX0_movesBetween_X7_positionAt rfl rfl rfl (by decide +kernel) ⟨Nat.le_trans (Nat.le_of_ble_eq_true rfl) hRf, Nat.le_trans (Nat.le_of_ble_eq_true rfl) hRl⟩) (gPreS cEok hE hK hP hS) rfl rfl hl.1 rfl (lv_room (Nat.le_of_ble_eq_true rfl)) dX0_movesBetween_28 ⟨Nat.zero_le _, Nat.zero_le _⟩) hS (fun r3 _ H locs hP hS h => ?_)
        have hP : va_P D vwCl (cW q cI cO I F) H := hP
        refine lv_icmp_eq (tgt := 75) hx hb dX0_movesBetween_31 (by decide) (fun c4 => ?_) (fun c4 => ?_)
        · have h := h.1 c4
          refine lv_iinc (v := (x5 + (1 : Int32))) (lv' := [(5, .int (x5 + (1 : Int32))), (6, .int r2), (0, .ref (q 10)), (1, .int x1), (2, .int x2), (3, .int x3), (4, .int x4)]) hx hb dX0_movesBetween_75 hl (k := 6) rfl rfl (by decide) rfl (fun ls hl => ?_)
          refine lv_goto (tgt := 8) hx hb dX0_movesBetween_78 (by decide) ?_
          exact ih x1 x2 _ x3 x4 (x5 + (1 : Int32)) _ _ _  hP hS (lv_sub hl [2, 3, 4, 5, 6, 0] rfl) h K
        · have h := h.2 c4
          refine lv_aload_n hx hb dX0_movesBetween_34 rfl (lv_at hl 1 rfl) ?_
          refine lv_iload hx hb dX0_movesBetween_35 (lv_at hl 6 rfl) ?_
          refine lv_iload hx hb dX0_movesBetween_37 (lv_at hl 0 rfl) ?_
          refine gCallI (D := D) (va_runV (As := [.int x5, .int r2]) (rest := []) ⟨hx, hb, hml, hown, hts⟩ (c_X0_holds_10 l D q cI cO hq x5 r2  I F _ h) (cwV 2 hts gX0_movesBetween_X0_holds rfl rfl rfl (by decide +kernel) ⟨Nat.le_trans (Nat.le_of_ble_eq_true rfl) hRf, Nat.le_trans (Nat.le_of_ble_eq_true rfl) hRl⟩) (gPreV (ci := 0) (q0 := 10) cEok hE hK hP hS rfl cAt10) rfl rfl hl.1 rfl (lv_room (Nat.le_of_ble_eq_true rfl)) dX0_movesBetween_39 ⟨Nat.zero_le _, Nat.zero_le _⟩) hS (fun r5 _ H locs hP hS h => ?_)
          have hP : va_P D vwCl (cW q cI cO I F) H := hP
          refine lv_if_eq (tgt := 47) hx hb dX0_movesBetween_42 (by decide) (fun c6 => ?_) (fun c6 => ?_)
          · have h := h.1 c6
            refine lv_iload hx hb dX0_movesBetween_47 (lv_at hl 6 rfl) ?_
            refine lv_iconst (v := (3 : Int32)) hx hb dX0_movesBetween_49 (by decide) ?_
            refine lv_icmp_ge (tgt := 59) hx hb dX0_movesBetween_50 (by decide) (fun c7 => ?_) (fun c7 => ?_)
            · have h := h.1 c7
              refine lv_iinc (v := (x4 + (1 : Int32))) (lv' := [(4, .int (x4 + (1 : Int32))), (6, .int r2), (0, .ref (q 10)), (1, .int x1), (2, .int x2), (3, .int x3), (5, .int x5)]) hx hb dX0_movesBetween_59 hl (k := 5) rfl rfl (by decide) rfl (fun ls hl => ?_)
              refine lv_iload_n hx hb dX0_movesBetween_62 rfl (lv_at hl 5 rfl) ?_
              refine lv_iconst (v := (1 : Int32)) hx hb dX0_movesBetween_63 (by decide) ?_
              refine lv_icmp_gt (tgt := 73) hx hb dX0_movesBetween_64 (by decide) (fun c8 => ?_) (fun c8 => ?_)
              · have h := h.1 c8
                refine lv_iconst (v := (-1 : Int32)) hx hb dX0_movesBetween_73 (by decide) ?_
                exact hret (-1 : Int32) () _ _ _ _ dX0_movesBetween_74 hP hS h
              · have h := h.2 c8
                refine lv_iload hx hb dX0_movesBetween_67 (lv_at hl 0 rfl) ?_
                refine lv_iconst (v := (1 : Int32)) hx hb dX0_movesBetween_69 (by decide) ?_
                refine lv_icmp_le (tgt := 75) hx hb dX0_movesBetween_70 (by decide) (fun c9 => ?_) (fun c9 => ?_)
                · have h := h.1 c9
                  refine lv_iinc (v := (x5 + (1 : Int32))) (lv' := [(5, .int (x5 + (1 : Int32))), (4, .int (x4 + (1 : Int32))), (6, .int r2), (0, .ref (q 10)), (1, .int x1), (2, .int x2), (3, .int x3)]) hx hb dX0_movesBetween_75 hl (k := 6) rfl rfl (by decide) rfl (fun ls hl => ?_)
                  refine lv_goto (tgt := 8) hx hb dX0_movesBetween_78 (by decide) ?_
                  exact ih x1 x2 _ x3 (x4 + (1 : Int32)) (x5 + (1 : Int32)) _ _ _  hP hS (lv_sub hl [3, 4, 5, 6, 1, 0] rfl) h K
                · have h := h.2 c9
                  refine lv_iconst (v := (-1 : Int32)) hx hb dX0_movesBetween_73 (by decide) ?_
                  exact hret (-1 : Int32) () _ _ _ _ dX0_movesBetween_74 hP hS h
            · have h := h.2 c7
              refine lv_iinc (v := (x3 + (1 : Int32))) (lv' := [(3, .int (x3 + (1 : Int32))), (6, .int r2), (0, .ref (q 10)), (1, .int x1), (2, .int x2), (4, .int x4), (5, .int x5)]) hx hb dX0_movesBetween_53 hl (k := 4) rfl rfl (by decide) rfl (fun ls hl => ?_)
              refine lv_goto (tgt := 62) hx hb dX0_movesBetween_56 (by decide) ?_
              refine lv_iload_n hx hb dX0_movesBetween_62 rfl (lv_at hl 0 rfl) ?_
              refine lv_iconst (v := (1 : Int32)) hx hb dX0_movesBetween_63 (by decide) ?_
              refine lv_icmp_gt (tgt := 73) hx hb dX0_movesBetween_64 (by decide) (fun c10 => ?_) (fun c10 => ?_)
              · have h := h.1 c10
                refine lv_iconst (v := (-1 : Int32)) hx hb dX0_movesBetween_73 (by decide) ?_
                exact hret (-1 : Int32) () _ _ _ _ dX0_movesBetween_74 hP hS h
              · have h := h.2 c10
                refine lv_iload hx hb dX0_movesBetween_67 (lv_at hl 5 rfl) ?_
                refine lv_iconst (v := (1 : Int32)) hx hb dX0_movesBetween_69 (by decide) ?_
                refine lv_icmp_le (tgt := 75) hx hb dX0_movesBetween_70 (by decide) (fun c11 => ?_) (fun c11 => ?_)
                · have h := h.1 c11
                  refine lv_iinc (v := (x5 + (1 : Int32))) (lv' := [(5, .int (x5 + (1 : Int32))), (3, .int (x3 + (1 : Int32))), (6, .int r2), (0, .ref (q 10)), (1, .int x1), (2, .int x2), (4, .int x4)]) hx hb dX0_movesBetween_75 hl (k := 6) rfl rfl (by decide) rfl (fun ls hl => ?_)
                  refine lv_goto (tgt := 8) hx hb dX0_movesBetween_78 (by decide) ?_
                  exact ih x1 x2 _ (x3 + (1 : Int32)) x4 (x5 + (1 : Int32)) _ _ _  hP hS (lv_sub hl [3, 4, 5, 1, 6, 0] rfl) h K
                · have h := h.2 c11
                  refine lv_iconst (v := (-1 : Int32)) hx hb dX0_movesBetween_73 (by decide) ?_
                  exact hret (-1 : Int32) () _ _ _ _ dX0_movesBetween_74 hP hS h
          · have h := h.2 c6
            refine lv_iconst (v := (-1 : Int32)) hx hb dX0_movesBetween_45 (by decide) ?_
            exact hret (-1 : Int32) () _ _ _ _ dX0_movesBetween_46 hP hS h
  refine lv_iconst (v := (0 : Int32)) hx hb dX0_movesBetween_0 (by decide) ?_
  refine lv_istore_n (lv' := [(3, .int (0 : Int32)), (0, .ref (q 10)), (1, .int a1), (2, .int a2)]) hx hb dX0_movesBetween_1 rfl hl (by decide) rfl (fun ls hl => ?_)
  refine lv_iconst (v := (0 : Int32)) hx hb dX0_movesBetween_2 (by decide) ?_
  refine lv_istore (lv' := [(4, .int (0 : Int32)), (3, .int (0 : Int32)), (0, .ref (q 10)), (1, .int a1), (2, .int a2)]) hx hb dX0_movesBetween_3 hl (by decide) rfl (fun ls hl => ?_)
  refine lv_iconst (v := (0 : Int32)) hx hb dX0_movesBetween_5 (by decide) ?_
  refine lv_istore (lv' := [(5, .int (0 : Int32)), (4, .int (0 : Int32)), (3, .int (0 : Int32)), (0, .ref (q 10)), (1, .int a1), (2, .int a2)]) hx hb dX0_movesBetween_6 hl (by decide) rfl (fun ls hl => ?_)
  obtain ⟨n, h⟩ := h
  refine L8 n a1 a2 _ (0 : Int32) (0 : Int32) (0 : Int32) _ _ _  hP hS (lv_sub hl [3, 4, 5, 2, 1, 0] rfl) h (fun y12 y13 y14 H locs ls  hP hS hl h => ?_)
  refine lv_iload_n hx hb dX0_movesBetween_81 rfl (lv_at hl 1 rfl) ?_
  refine lv_iload hx hb dX0_movesBetween_82 (lv_at hl 2 rfl) ?_
  refine lv_iadd hx hb dX0_movesBetween_84 ?_
  refine lv_aload_n hx hb dX0_movesBetween_85 rfl (lv_at hl 0 rfl) ?_
  refine va_get (D := D) (ci := 0) (v := .int (I 17)) (C := RX0) (T := TX0) (N := 2) hx hb hts (fun _ h9 => List.mem_cons_of_mem _ (List.mem_append_right _ h9)) hown hK hP 10 cAt10 rfl 0 (by decide) (hts _ (List.mem_of_getElem? (l := wsX0_movesBetween) (i := 1) rfl)) (fun _ h9 => h9) rfl dX0_movesBetween_86 ?_
  refine lv_icmp_gt (tgt := 99) hx hb dX0_movesBetween_89 (by decide) (fun c15 => ?_) (fun c15 => ?_)
  · have h := h.1 c15
    refine lv_iconst (v := (-1 : Int32)) hx hb dX0_movesBetween_99 (by decide) ?_
    exact hret (-1 : Int32) () _ _ _ _ dX0_movesBetween_100 hP hS h
  · have h := h.2 c15
    refine lv_iload_n hx hb dX0_movesBetween_92 rfl (lv_at hl 1 rfl) ?_
    refine lv_iload hx hb dX0_movesBetween_93 (lv_at hl 2 rfl) ?_
    refine lv_iadd hx hb dX0_movesBetween_95 ?_
    refine lv_goto (tgt := 100) hx hb dX0_movesBetween_96 (by decide) ?_
    exact hret (y12 + y13) () _ _ _ _ dX0_movesBetween_100 hP hS h
def w_X3_bestNext_9_r_B9 (x1 : Int32) (x2 : Nat) (I : Nat → Int32) (F : Nat → Nat → Int32) (k again : Int32 → Int32 → Int32 → Prop) (x3 : Int32) (x4 : Int32) (x5 : Int32) : Prop :=
  (((2187 : Int32) ≤ x5 → k x3 x4 x5) ∧ (¬ (2187 : Int32) ≤ x5 → vp_in x5 2187 ∧ ∀ v2 : Int32, v2 = ((F x2 (x5).toNatClampNeg) >>> ((20 : Int32) &&& 31)) → vp_in x5 2187 ∧ (((F x2 (x5).toNatClampNeg) = (1073741824 : Int32) → again x3 x4 (x5 + (1 : Int32))) ∧ (¬ (F x2 (x5).toNatClampNeg) = (1073741824 : Int32) → ((x4 ≤ v2 → again x3 x4 (x5 + (1 : Int32))) ∧ (¬ x4 ≤ v2 → w_X0_movesBetween_10 x1 x5 I F (fun (r5 : Int32) => ((r5 = (-1 : Int32) → again x3 x4 (x5 + (1 : Int32))) ∧ (¬ r5 = (-1 : Int32) → ((x4 ≤ (r5 + v2) → again x3 x4 (x5 + (1 : Int32))) ∧ (¬ x4 ≤ (r5 + v2) → ∀ v8 : Int32, v8 = (r5 + v2) → again x5 v8 (x5 + (1 : Int32)))))))))))))
def w_X3_bestNext_9_r (a1 : Int32) (r2 : Nat) (I : Nat → Int32) (F : Nat → Nat → Int32) (post : Int32 → Prop) : Prop :=
  gL (fun ag v => w_X3_bestNext_9_r_B9 a1 r2 I F (fun (y9 : Int32) (y10 : Int32) (y11 : Int32) => post y9) (fun b0 b1 b2 => ag (b0, b1, b2)) v.1 v.2.1 v.2.2) ((-1 : Int32), (1073741824 : Int32), (0 : Int32))
set_option maxHeartbeats 4000000 in
set_option maxRecDepth 100000 in
theorem c_X3_bestNext_9_r (l : Launch) (D : va_G) (q : Nat → Nat) (cI cO : ClassId) (hq : cOk q) (a1 : Int32) (r2 : Nat) (hr2 : 28 ≤ r2 ∧ r2 < 39) (I : Nat → Int32) (F : Nat → Nat → Int32) (post : Int32 → Prop) (h : w_X3_bestNext_9_r a1 r2 I F post) : Met l yX3_bestNext wsX3_bestNext ({ frames := 2, cells := 0, slots := 0, locals := 48 } : Room) (gPre D (cTys cI cO) (cW q cI cO I F) (cEnv q) [.ref (q 9), .int a1, .ref (q r2)]) (va_Qi (fun r (_ : Unit) => post r) (gB D (fun _ : Unit => cW q cI cO I F)) (cA q)) 0 0 (cA q) := by
  refine gMetI (by decide) rfl (Nat.le_of_ble_eq_true rfl) ?_
  intro p e R s m args below meth c Q ls hR hx hb hml hown hts hK hE hP hl hret
  have hRf : 2 ≤ R.frames := by subst hR; exact Nat.le_refl _
  have hRl : 48 ≤ R.locals := by subst hR; exact Nat.le_refl _
  have hown : s.vm.findClass RX3 = some m.cls := hown
  have hl : lv_has ls 8 [(0, .ref (q 9)), (1, .int a1), (2, .ref (q r2))] := hl
  have hS : va_S (cA q) s.heap s.heap [] := va_S.rf
  have hP : va_P D vwCl (cW q cI cO I F) s.heap := hP
  have L9 : ∀ (n : Nat) (x1 : Int32) (x2 : Nat) (k : Int32 → Int32 → Int32 → Prop) (x3 : Int32) (x4 : Int32) (x5 : Int32) (H : Heap) (locs : List Loc) (ls : Array Slot), 28 ≤ x2 ∧ x2 < 39 → va_P D vwCl (cW q cI cO I F) H → va_S (cA q) s.heap H locs → lv_has ls 8 [(0, .ref (q 9)), (1, .int x1), (2, .ref (q x2)), (3, .int x3), (4, .int x4), (5, .int x5)] → gLN (fun ag v => w_X3_bestNext_9_r_B9 x1 x2 I F k (fun b0 b1 b2 => ag (b0, b1, b2)) v.1 v.2.1 v.2.2) n (x3, x4, x5) → (∀ (x3 : Int32) (x4 : Int32) (x5 : Int32) (H : Heap) (locs : List Loc) (ls : Array Slot), va_P D vwCl (cW q cI cO I F) H → va_S (cA q) s.heap H locs → lv_has ls 8 [(3, .int x3)] → k x3 x4 x5 → W p l e R s m args below meth c H locs 0 0 Q (F0 m 86 ls [])) → W p l e R s m args below meth c H locs 0 0 Q (F0 m 9 ls []) := by
    intro n
    induction n with
    | zero =>
      intro x1 x2 k x3 x4 x5 H locs ls hx2 hP hS hl h K
      exact False.elim h
    | succ n ih =>
      intro x1 x2 k x3 x4 x5 H locs ls hx2 hP hS hl h K
      have h : w_X3_bestNext_9_r_B9 x1 x2 I F k (fun b0 b1 b2 => gLN (fun ag v => w_X3_bestNext_9_r_B9 x1 x2 I F k (fun b0 b1 b2 => ag (b0, b1, b2)) v.1 v.2.1 v.2.2) n (b0, b1, b2)) x3 x4 x5 := h
      refine lv_iload hx hb dX3_bestNext_9 (lv_at hl 5 rfl) ?_
      refine lv_sipush (v := (2187 : Int32)) hx hb dX3_bestNext_11 (by decide) ?_
      refine lv_icmp_ge (tgt := 86) hx hb dX3_bestNext_14 (by decide) (fun c1 => ?_) (fun c1 => ?_)
      · have h := h.1 c1
        exact K x3 x4 x5 _ _ _  hP hS (lv_sub hl [3] rfl) h
      · have h := h.2 c1
        refine lv_aload_n hx hb dX3_bestNext_17 rfl (lv_at hl 2 rfl) ?_
        refine lv_iload hx hb dX3_bestNext_18 (lv_at hl 5 rfl) ?_
        refine va_iald (D := D) hx hb hK hP x2 0 (cRow hx2) rfl h.1 dX3_bestNext_20 ?_
        have h := h.2
        refine lv_bipush (v := (20 : Int32)) hx hb dX3_bestNext_21 (by decide) ?_
        refine lv_ishr hx hb dX3_bestNext_23 ?_
        refine lv_topi (fun v2 ev2 => ?_)
        have h := h v2 ev2
        refine lv_istore (lv' := [(6, .int v2), (0, .ref (q 9)), (1, .int x1), (2, .ref (q x2)), (3, .int x3), (4, .int x4), (5, .int x5)]) hx hb dX3_bestNext_24 hl (by decide) rfl (fun ls hl => ?_)
        refine lv_aload_n hx hb dX3_bestNext_26 rfl (lv_at hl 3 rfl) ?_
        refine lv_iload hx hb dX3_bestNext_27 (lv_at hl 6 rfl) ?_
        refine va_iald (D := D) hx hb hK hP x2 0 (cRow hx2) rfl h.1 dX3_bestNext_29 ?_
        have h := h.2
        refine lv_ldc (v := (1073741824 : Int32)) hx hb hown (hts _ (List.mem_of_getElem? (l := wsX3_bestNext) (i := 1) rfl)) dX3_bestNext_30 ?_
        refine lv_icmp_eq (tgt := 80) hx hb dX3_bestNext_32 (by decide) (fun c3 => ?_) (fun c3 => ?_)
        · have h := h.1 c3
          refine lv_iinc (v := (x5 + (1 : Int32))) (lv' := [(5, .int (x5 + (1 : Int32))), (6, .int v2), (0, .ref (q 9)), (1, .int x1), (2, .ref (q x2)), (3, .int x3), (4, .int x4)]) hx hb dX3_bestNext_80 hl (k := 6) rfl rfl (by decide) rfl (fun ls hl => ?_)
          refine lv_goto (tgt := 9) hx hb dX3_bestNext_83 (by decide) ?_
          exact ih x1 x2 _ x3 x4 (x5 + (1 : Int32)) _ _ _ hx2 hP hS (lv_sub hl [2, 3, 4, 5, 6, 0] rfl) h K
        · have h := h.2 c3
          refine lv_iload hx hb dX3_bestNext_35 (lv_at hl 0 rfl) ?_
          refine lv_iload hx hb dX3_bestNext_37 (lv_at hl 5 rfl) ?_
          refine lv_icmp_ge (tgt := 80) hx hb dX3_bestNext_39 (by decide) (fun c4 => ?_) (fun c4 => ?_)
          · have h := h.1 c4
            refine lv_iinc (v := (x5 + (1 : Int32))) (lv' := [(5, .int (x5 + (1 : Int32))), (6, .int v2), (0, .ref (q 9)), (1, .int x1), (2, .ref (q x2)), (3, .int x3), (4, .int x4)]) hx hb dX3_bestNext_80 hl (k := 6) rfl rfl (by decide) rfl (fun ls hl => ?_)
            refine lv_goto (tgt := 9) hx hb dX3_bestNext_83 (by decide) ?_
            exact ih x1 x2 _ x3 x4 (x5 + (1 : Int32)) _ _ _ hx2 hP hS (lv_sub hl [2, 3, 4, 5, 6, 0] rfl) h K
          · have h := h.2 c4
            refine lv_aload_n hx hb dX3_bestNext_42 rfl (lv_at hl 1 rfl) ?_
            refine va_get (D := D) (ci := 3) (v := .ref (q 10)) (C := RX3) (T := TX3) (N := 12) hx hb hts (fun _ h9 => List.mem_cons_of_mem _ (List.mem_append_left _ (List.mem_append_right _ h9))) hown hK hP 9 cAt9 rfl 1 (by decide) (hts _ (List.mem_of_getElem? (l := wsX3_bestNext) (i := 2) rfl)) (fun _ h9 => h9) rfl dX3_bestNext_43 ?_
            refine lv_iload_n hx hb dX3_bestNext_46 rfl (lv_at hl 2 rfl) ?_
            refine lv_iload hx hb dX3_bestNext_47 (lv_at hl 6 rfl) ?_
            refine gCallI (D := D) (va_runV (As := [.int x1, .int x5]) (rest := []) ⟨hx, hb, hml, hown, hts⟩ (c_X0_movesBetween_10 l D q cI cO hq x1 x5  I F _ h) (cwV 2 hts gX3_bestNext_X0_movesBetween rfl rfl rfl (by decide +kernel) ⟨Nat.le_trans (Nat.le_of_ble_eq_true rfl) hRf, Nat.le_trans (Nat.le_of_ble_eq_true rfl) hRl⟩) (gPreV (ci := 0) (q0 := 10) cEok hE hK hP hS rfl cAt10) rfl rfl hl.1 rfl (lv_room (Nat.le_of_ble_eq_true rfl)) dX3_bestNext_49 ⟨Nat.zero_le _, Nat.zero_le _⟩) hS (fun r5 _ H locs hP hS h => ?_)
            have hP : va_P D vwCl (cW q cI cO I F) H := hP
            refine lv_istore (lv' := [(7, .int r5), (6, .int v2), (0, .ref (q 9)), (1, .int x1), (2, .ref (q x2)), (3, .int x3), (4, .int x4), (5, .int x5)]) hx hb dX3_bestNext_52 hl (by decide) rfl (fun ls hl => ?_)
            refine lv_iload hx hb dX3_bestNext_54 (lv_at hl 0 rfl) ?_
            refine lv_iconst (v := (-1 : Int32)) hx hb dX3_bestNext_56 (by decide) ?_
            refine lv_icmp_eq (tgt := 80) hx hb dX3_bestNext_57 (by decide) (fun c6 => ?_) (fun c6 => ?_)
            · have h := h.1 c6
              refine lv_iinc (v := (x5 + (1 : Int32))) (lv' := [(5, .int (x5 + (1 : Int32))), (7, .int r5), (6, .int v2), (0, .ref (q 9)), (1, .int x1), (2, .ref (q x2)), (3, .int x3), (4, .int x4)]) hx hb dX3_bestNext_80 hl (k := 7) rfl rfl (by decide) rfl (fun ls hl => ?_)
              refine lv_goto (tgt := 9) hx hb dX3_bestNext_83 (by decide) ?_
              exact ih x1 x2 _ x3 x4 (x5 + (1 : Int32)) _ _ _ hx2 hP hS (lv_sub hl [3, 4, 5, 6, 7, 0] rfl) h K
            · have h := h.2 c6
              refine lv_iload hx hb dX3_bestNext_60 (lv_at hl 0 rfl) ?_
              refine lv_iload hx hb dX3_bestNext_62 (lv_at hl 1 rfl) ?_
              refine lv_iadd hx hb dX3_bestNext_64 ?_
              refine lv_iload hx hb dX3_bestNext_65 (lv_at hl 6 rfl) ?_
              refine lv_icmp_ge (tgt := 80) hx hb dX3_bestNext_67 (by decide) (fun c7 => ?_) (fun c7 => ?_)
              · have h := h.1 c7
                refine lv_iinc (v := (x5 + (1 : Int32))) (lv' := [(5, .int (x5 + (1 : Int32))), (7, .int r5), (6, .int v2), (0, .ref (q 9)), (1, .int x1), (2, .ref (q x2)), (3, .int x3), (4, .int x4)]) hx hb dX3_bestNext_80 hl (k := 7) rfl rfl (by decide) rfl (fun ls hl => ?_)
                refine lv_goto (tgt := 9) hx hb dX3_bestNext_83 (by decide) ?_
                exact ih x1 x2 _ x3 x4 (x5 + (1 : Int32)) _ _ _ hx2 hP hS (lv_sub hl [3, 4, 5, 6, 7, 0] rfl) h K
              · have h := h.2 c7
                refine lv_iload hx hb dX3_bestNext_70 (lv_at hl 7 rfl) ?_
                refine lv_istore_n (lv' := [(3, .int x5), (7, .int r5), (6, .int v2), (0, .ref (q 9)), (1, .int x1), (2, .ref (q x2)), (4, .int x4), (5, .int x5)]) hx hb dX3_bestNext_72 rfl hl (by decide) rfl (fun ls hl => ?_)
                refine lv_iload hx hb dX3_bestNext_73 (lv_at hl 1 rfl) ?_
                refine lv_iload hx hb dX3_bestNext_75 (lv_at hl 2 rfl) ?_
                refine lv_iadd hx hb dX3_bestNext_77 ?_
                refine lv_topi (fun v8 ev8 => ?_)
                have h := h v8 ev8
                refine lv_istore (lv' := [(4, .int v8), (3, .int x5), (7, .int r5), (6, .int v2), (0, .ref (q 9)), (1, .int x1), (2, .ref (q x2)), (5, .int x5)]) hx hb dX3_bestNext_78 hl (by decide) rfl (fun ls hl => ?_)
                refine lv_iinc (v := (x5 + (1 : Int32))) (lv' := [(5, .int (x5 + (1 : Int32))), (4, .int v8), (3, .int x5), (7, .int r5), (6, .int v2), (0, .ref (q 9)), (1, .int x1), (2, .ref (q x2))]) hx hb dX3_bestNext_80 hl (k := 7) rfl rfl (by decide) rfl (fun ls hl => ?_)
                refine lv_goto (tgt := 9) hx hb dX3_bestNext_83 (by decide) ?_
                exact ih x1 x2 _ x5 v8 (x5 + (1 : Int32)) _ _ _ hx2 hP hS (lv_sub hl [5, 6, 7, 2, 1, 0] rfl) h K
  refine lv_iconst (v := (-1 : Int32)) hx hb dX3_bestNext_0 (by decide) ?_
  refine lv_istore_n (lv' := [(3, .int (-1 : Int32)), (0, .ref (q 9)), (1, .int a1), (2, .ref (q r2))]) hx hb dX3_bestNext_1 rfl hl (by decide) rfl (fun ls hl => ?_)
  refine lv_ldc (v := (1073741824 : Int32)) hx hb hown (hts _ (List.mem_of_getElem? (l := wsX3_bestNext) (i := 1) rfl)) dX3_bestNext_2 ?_
  refine lv_istore (lv' := [(4, .int (1073741824 : Int32)), (3, .int (-1 : Int32)), (0, .ref (q 9)), (1, .int a1), (2, .ref (q r2))]) hx hb dX3_bestNext_4 hl (by decide) rfl (fun ls hl => ?_)
  refine lv_iconst (v := (0 : Int32)) hx hb dX3_bestNext_6 (by decide) ?_
  refine lv_istore (lv' := [(5, .int (0 : Int32)), (4, .int (1073741824 : Int32)), (3, .int (-1 : Int32)), (0, .ref (q 9)), (1, .int a1), (2, .ref (q r2))]) hx hb dX3_bestNext_7 hl (by decide) rfl (fun ls hl => ?_)
  obtain ⟨n, h⟩ := h
  refine L9 n a1 r2 _ (-1 : Int32) (1073741824 : Int32) (0 : Int32) _ _ _ hr2 hP hS (lv_sub hl [3, 4, 5, 2, 1, 0] rfl) h (fun y9 y10 y11 H locs ls  hP hS hl h => ?_)
  refine lv_iload_n hx hb dX3_bestNext_86 rfl (lv_at hl 0 rfl) ?_
  exact hret y9 () _ _ _ _ dX3_bestNext_87 hP hS h
def w_X3_followBest_9_4_B7  (k again : Int32 → Int32 → (Nat → Int32) → (Nat → Nat → Int32) → Prop) (x2 : Int32) (x3 : Int32) (I : Nat → Int32) (F : Nat → Nat → Int32) : Prop :=
  (((I 8) ≤ x3 → k x2 x3 I F) ∧ (¬ (I 8) ≤ x3 → ((x2 = (-1 : Int32) → vp_in x3 8 ∧ ∀ F3 : Nat → Nat → Int32, F3 = upF F 27 (upd (F 27) (x3).toNatClampNeg x2) → again x2 (x3 + (1 : Int32)) I F3) ∧ (¬ x2 = (-1 : Int32) → w_X3_setGapAheadOf_9_4 x3 (0 : Int32) I F (fun (I4 : Nat → Int32) (F5 : Nat → Nat → Int32) => vp_in x3 8 ∧ w_X3_bestNext_9_r x2 (31 + (x3).toNatClampNeg) I4 F5 (fun (r7 : Int32) => vp_in x3 8 ∧ ∀ F8 : Nat → Nat → Int32, F8 = upF F5 27 (upd (F5 27) (x3).toNatClampNeg r7) → again r7 (x3 + (1 : Int32)) I4 F8))))))
def w_X3_followBest_9_4  (I : Nat → Int32) (F : Nat → Nat → Int32) (post : (Nat → Int32) → (Nat → Nat → Int32) → Prop) : Prop :=
  ∀ v9 : Int32, v9 = (I 7) → gL (fun ag v => w_X3_followBest_9_4_B7  (fun (y10 : Int32) (y11 : Int32) (I12 : Nat → Int32) (F13 : Nat → Nat → Int32) => post I12 F13) (fun b0 b1 b2 b3 => ag (b0, b1, b2, b3)) v.1 v.2.1 v.2.2.1 v.2.2.2) (v9, (0 : Int32), I, F)
set_option maxHeartbeats 4000000 in
set_option maxRecDepth 100000 in
theorem c_X3_followBest_9_4 (l : Launch) (D : va_G) (q : Nat → Nat) (cI cO : ClassId) (hq : cOk q)   (I : Nat → Int32) (F : Nat → Nat → Int32) (post : (Nat → Int32) → (Nat → Nat → Int32) → Prop) (h : w_X3_followBest_9_4  I F post) : Met l yX3_followBest wsX3_followBest ({ frames := 3, cells := 0, slots := 0, locals := 75 } : Room) (gPre D (cTys cI cO) (cW q cI cO I F) (cEnv q) [.ref (q 9), .ref (q 4)]) (va_Qv (fun (u : cS) => post u.1 u.2) (gB D (fun u : cS => cW q cI cO u.1 u.2)) (cA q)) 0 0 (cA q) := by
  refine gMetV (by decide) rfl (Nat.le_of_ble_eq_true rfl) ?_
  intro p e R s m args below meth c Q ls hR hx hb hml hown hts hK hE hP hl hret
  have hRf : 3 ≤ R.frames := by subst hR; exact Nat.le_refl _
  have hRl : 75 ≤ R.locals := by subst hR; exact Nat.le_refl _
  have hown : s.vm.findClass RX3 = some m.cls := hown
  have hl : lv_has ls 4 [(0, .ref (q 9)), (1, .ref (q 4))] := hl
  have hS : va_S (cA q) s.heap s.heap [] := va_S.rf
  have hP : va_P D vwCl (cW q cI cO I F) s.heap := hP
  have L7 : ∀ (n : Nat)  (k : Int32 → Int32 → (Nat → Int32) → (Nat → Nat → Int32) → Prop) (x2 : Int32) (x3 : Int32) (I : Nat → Int32) (F : Nat → Nat → Int32) (H : Heap) (locs : List Loc) (ls : Array Slot), va_P D vwCl (cW q cI cO I F) H → va_S (cA q) s.heap H locs → lv_has ls 4 [(0, .ref (q 9)), (1, .ref (q 4)), (2, .int x2), (3, .int x3)] → gLN (fun ag v => w_X3_followBest_9_4_B7  k (fun b0 b1 b2 b3 => ag (b0, b1, b2, b3)) v.1 v.2.1 v.2.2.1 v.2.2.2) n (x2, x3, I, F) → (∀ (x2 : Int32) (x3 : Int32) (I : Nat → Int32) (F : Nat → Nat → Int32) (H : Heap) (locs : List Loc) (ls : Array Slot), va_P D vwCl (cW q cI cO I F) H → va_S (cA q) s.heap H locs → lv_has ls 4 [] → k x2 x3 I F → W p l e R s m args below meth c H locs 0 0 Q (F0 m 52 ls [])) → W p l e R s m args below meth c H locs 0 0 Q (F0 m 7 ls []) := by
    intro n
    induction n with
    | zero =>
      intro  k x2 x3 I F H locs ls  hP hS hl h K
      exact False.elim h
    | succ n ih =>
      intro  k x2 x3 I F H locs ls  hP hS hl h K
      have h : w_X3_followBest_9_4_B7  k (fun b0 b1 b2 b3 => gLN (fun ag v => w_X3_followBest_9_4_B7  k (fun b0 b1 b2 b3 => ag (b0, b1, b2, b3)) v.1 v.2.1 v.2.2.1 v.2.2.2) n (b0, b1, b2, b3)) x2 x3 I F := h
      refine lv_iload_n hx hb dX3_followBest_7 rfl (lv_at hl 3 rfl) ?_
      refine lv_aload_n hx hb dX3_followBest_8 rfl (lv_at hl 1 rfl) ?_
      refine va_getN (D := D) (ci := 2) (v := .int (I 8)) (C := RX2) (T := TX2) (N := 4) hx hb hts (fun _ h9 => List.mem_cons_of_mem _ (List.mem_append_left _ (List.mem_append_left _ (List.mem_append_right _ h9)))) hown hK hP 4 cAt4 rfl 1 (by decide) (va_Nw.use rfl (hE.1.1 _ (List.mem_of_getElem? (l := cNF) (i := 5) rfl))) (fun _ h9 => h9) rfl dX3_followBest_9 ?_
      refine lv_icmp_ge (tgt := 52) hx hb dX3_followBest_12 (by decide) (fun c1 => ?_) (fun c1 => ?_)
      · have h := h.1 c1
        exact K x2 x3 I F _ _ _  hP hS (lv_sub hl [] rfl) h
      · have h := h.2 c1
        refine lv_iload_n hx hb dX3_followBest_15 rfl (lv_at hl 2 rfl) ?_
        refine lv_iconst (v := (-1 : Int32)) hx hb dX3_followBest_16 (by decide) ?_
        refine lv_icmp_eq (tgt := 39) hx hb dX3_followBest_17 (by decide) (fun c2 => ?_) (fun c2 => ?_)
        · have h := h.1 c2
          refine lv_aload_n hx hb dX3_followBest_39 rfl (lv_at hl 0 rfl) ?_
          refine va_get (D := D) (ci := 3) (v := .ref (q 27)) (C := RX3) (T := TX3) (N := 12) hx hb hts (fun _ h9 => List.mem_cons_of_mem _ (List.mem_append_left _ (List.mem_append_right _ h9))) hown hK hP 9 cAt9 rfl 7 (by decide) (hts _ (List.mem_of_getElem? (l := wsX3_followBest) (i := 2) rfl)) (fun _ h9 => h9) rfl dX3_followBest_40 ?_
          refine lv_iload_n hx hb dX3_followBest_43 rfl (lv_at hl 3 rfl) ?_
          refine lv_iload_n hx hb dX3_followBest_44 rfl (lv_at hl 2 rfl) ?_
          refine gAst (D := D) hx hb hK hP (cD hq) hS 27 0 cAr27 rfl h.1 dX3_followBest_45 (cSA27 _) (fun H locs hP hS => ?_)
          obtain ⟨F3, eF3⟩ : ∃ z : Nat → Nat → Int32, z = upF F 27 (upd (F 27) (x3).toNatClampNeg x2) := ⟨_, rfl⟩
          rw [← eF3] at hP
          have h := h.2 F3 eF3
          refine lv_iinc (v := (x3 + (1 : Int32))) (lv' := [(3, .int (x3 + (1 : Int32))), (0, .ref (q 9)), (1, .ref (q 4)), (2, .int x2)]) hx hb dX3_followBest_46 hl (k := 3) rfl rfl (by decide) rfl (fun ls hl => ?_)
          refine lv_goto (tgt := 7) hx hb dX3_followBest_49 (by decide) ?_
          exact ih  _ x2 (x3 + (1 : Int32)) I F3 _ _ _  hP hS (lv_sub hl [1, 2, 3, 0] rfl) h K
        · have h := h.2 c2
          refine lv_aload_n hx hb dX3_followBest_20 rfl (lv_at hl 0 rfl) ?_
          refine lv_aload_n hx hb dX3_followBest_21 rfl (lv_at hl 1 rfl) ?_
          refine lv_iload_n hx hb dX3_followBest_22 rfl (lv_at hl 3 rfl) ?_
          refine lv_iconst (v := (0 : Int32)) hx hb dX3_followBest_23 (by decide) ?_
          refine gCallV (D := D) (va_runV (As := [.ref (q 4), .int x3, .int (0 : Int32)]) (rest := []) ⟨hx, hb, hml, hown, hts⟩ (c_X3_setGapAheadOf_9_4 l D q cI cO hq x3 (0 : Int32)  I F _ h) (cwV 3 hts gX3_followBest_X3_setGapAheadOf rfl rfl rfl (by decide +kernel) ⟨Nat.le_trans (Nat.le_of_ble_eq_true rfl) hRf, Nat.le_trans (Nat.le_of_ble_eq_true rfl) hRl⟩) (gPreV (ci := 3) (q0 := 9) cEok hE hK hP hS rfl cAt9) rfl rfl hl.1 rfl (lv_room (Nat.le_of_ble_eq_true rfl)) dX3_followBest_24 ⟨Nat.zero_le _, Nat.zero_le _⟩) hS (fun u H locs hP hS h => ?_)
          obtain ⟨I4, F5⟩ := u
          have hP : va_P D vwCl (cW q cI cO I4 F5) H := hP
          refine lv_aload_n hx hb dX3_followBest_27 rfl (lv_at hl 0 rfl) ?_
          refine lv_iload_n hx hb dX3_followBest_28 rfl (lv_at hl 2 rfl) ?_
          refine lv_aload_n hx hb dX3_followBest_29 rfl (lv_at hl 0 rfl) ?_
          refine va_get (D := D) (ci := 3) (v := .ref (q 13)) (C := RX3) (T := TX3) (N := 12) hx hb hts (fun _ h9 => List.mem_cons_of_mem _ (List.mem_append_left _ (List.mem_append_right _ h9))) hown hK hP 9 cAt9 rfl 5 (by decide) (hts _ (List.mem_of_getElem? (l := wsX3_followBest) (i := 1) rfl)) (fun _ h9 => h9) rfl dX3_followBest_30 ?_
          refine lv_iload_n hx hb dX3_followBest_33 rfl (lv_at hl 3 rfl) ?_
          have ho6 := h.1
          refine gAldA (D := D) hx hb hK hP 13 1 cOut rfl ho6 dX3_followBest_34 (cOutAt ho6) ?_
          have h := h.2
          refine gCallI (D := D) (va_runV (As := [.int x2, .ref (q (31 + (x3).toNatClampNeg))]) (rest := []) ⟨hx, hb, hml, hown, hts⟩ (c_X3_bestNext_9_r l D q cI cO hq x2 (31 + (x3).toNatClampNeg) (cOutRow ho6) I4 F5 _ h) (cwV 2 hts gX3_followBest_X3_bestNext rfl rfl rfl (by decide +kernel) ⟨Nat.le_trans (Nat.le_of_ble_eq_true rfl) hRf, Nat.le_trans (Nat.le_of_ble_eq_true rfl) hRl⟩) (gPreV (ci := 3) (q0 := 9) cEok hE hK hP hS rfl cAt9) rfl rfl hl.1 rfl (lv_room (Nat.le_of_ble_eq_true rfl)) dX3_followBest_35 ⟨Nat.zero_le _, Nat.zero_le _⟩) hS (fun r7 _ H locs hP hS h => ?_)
          have hP : va_P D vwCl (cW q cI cO I4 F5) H := hP
          refine lv_istore_n (lv' := [(2, .int r7), (0, .ref (q 9)), (1, .ref (q 4)), (3, .int x3)]) hx hb dX3_followBest_38 rfl hl (by decide) rfl (fun ls hl => ?_)
          refine lv_aload_n hx hb dX3_followBest_39 rfl (lv_at hl 1 rfl) ?_
          refine va_get (D := D) (ci := 3) (v := .ref (q 27)) (C := RX3) (T := TX3) (N := 12) hx hb hts (fun _ h9 => List.mem_cons_of_mem _ (List.mem_append_left _ (List.mem_append_right _ h9))) hown hK hP 9 cAt9 rfl 7 (by decide) (hts _ (List.mem_of_getElem? (l := wsX3_followBest) (i := 2) rfl)) (fun _ h9 => h9) rfl dX3_followBest_40 ?_
          refine lv_iload_n hx hb dX3_followBest_43 rfl (lv_at hl 3 rfl) ?_
          refine lv_iload_n hx hb dX3_followBest_44 rfl (lv_at hl 0 rfl) ?_
          refine gAst (D := D) hx hb hK hP (cD hq) hS 27 0 cAr27 rfl h.1 dX3_followBest_45 (cSA27 _) (fun H locs hP hS => ?_)
          obtain ⟨F8, eF8⟩ : ∃ z : Nat → Nat → Int32, z = upF F5 27 (upd (F5 27) (x3).toNatClampNeg r7) := ⟨_, rfl⟩
          rw [← eF8] at hP
          have h := h.2 F8 eF8
          refine lv_iinc (v := (x3 + (1 : Int32))) (lv' := [(3, .int (x3 + (1 : Int32))), (2, .int r7), (0, .ref (q 9)), (1, .ref (q 4))]) hx hb dX3_followBest_46 hl (k := 3) rfl rfl (by decide) rfl (fun ls hl => ?_)
          refine lv_goto (tgt := 7) hx hb dX3_followBest_49 (by decide) ?_
          exact ih  _ r7 (x3 + (1 : Int32)) I4 F8 _ _ _  hP hS (lv_sub hl [2, 3, 1, 0] rfl) h K
  refine lv_aload_n hx hb dX3_followBest_0 rfl (lv_at hl 1 rfl) ?_
  refine va_getN (D := D) (ci := 2) (v := .int (I 7)) (C := RX2) (T := TX2) (N := 4) hx hb hts (fun _ h9 => List.mem_cons_of_mem _ (List.mem_append_left _ (List.mem_append_left _ (List.mem_append_right _ h9)))) hown hK hP 4 cAt4 rfl 0 (by decide) (va_Nw.use rfl (hE.1.1 _ (List.mem_of_getElem? (l := cNF) (i := 3) rfl))) (fun _ h9 => h9) rfl dX3_followBest_1 ?_
  refine lv_topi (fun v9 ev9 => ?_)
  have h := h v9 ev9
  refine lv_istore_n (lv' := [(2, .int v9), (0, .ref (q 9)), (1, .ref (q 4))]) hx hb dX3_followBest_4 rfl hl (by decide) rfl (fun ls hl => ?_)
  refine lv_iconst (v := (0 : Int32)) hx hb dX3_followBest_5 (by decide) ?_
  refine lv_istore_n (lv' := [(3, .int (0 : Int32)), (2, .int v9), (0, .ref (q 9)), (1, .ref (q 4))]) hx hb dX3_followBest_6 rfl hl (by decide) rfl (fun ls hl => ?_)
  obtain ⟨n, h⟩ := h
  refine L7 n  _ v9 (0 : Int32) I F _ _ _  hP hS (lv_sub hl [2, 3, 1, 0] rfl) h (fun y10 y11 I12 F13 H locs ls  hP hS hl h => ?_)
  exact hret (I12, F13) _ _ _ _ dX3_followBest_52 hP hS h
