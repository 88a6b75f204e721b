def w_X6_become_7_6  (I : Nat → Int32) (F : Nat → Nat → Int32) (post : (Nat → Int32) → (Nat → Nat → Int32) → Prop) : Prop :=
  ∀ I1 : Nat → Int32, I1 = upd I 12 (I 11) → ∀ F2 : Nat → Nat → Int32, F2 = upF F 23 (va_cpy (F 21) (F 23) ((0 : Int32)).toNatClampNeg ((0 : Int32)).toNatClampNeg ((6 : Int32)).toNatClampNeg) → ∀ F3 : Nat → Nat → Int32, F3 = upF F2 24 (va_cpy (F2 22) (F2 24) ((0 : Int32)).toNatClampNeg ((0 : Int32)).toNatClampNeg ((6 : Int32)).toNatClampNeg) → post I1 F3
set_option maxHeartbeats 4000000 in
set_option maxRecDepth 100000 in
theorem c_X6_become_7_6 (l : Launch) (D : va_G) (q : Nat → Nat) (cI cO : ClassId) (hq : cOk q)   (I : Nat → Int32) (F : Nat → Nat → Int32) (post : (Nat → Int32) → (Nat → Nat → Int32) → Prop) (h : w_X6_become_7_6  I F post) : Met l yX6_become wsX6_become ({ frames := 1, cells := 0, slots := 0, locals := 40 } : Room) (gPre D (cTys cI cO) (cW q cI cO I F) (cEnv q) [.ref (q 7), .ref (q 6)]) (va_Qv (fun (u : cS) => post u.1 u.2) (gB D (fun u : cS => cW q cI cO u.1 u.2)) (cA q)) 0 0 (cA q) := by
  refine gMetV (by decide) rfl (Nat.le_of_ble_eq_true rfl) ?_
  intro p e R s m args below meth c Q ls hR hx hb hml hown hts hK hE hP hl hret
  have hRf : 1 ≤ R.frames := by subst hR; exact Nat.le_refl _
  have hRl : 40 ≤ R.locals := by subst hR; exact Nat.le_refl _
  have hown : s.vm.findClass RX6 = some m.cls := hown
  have hl : lv_has ls 2 [(0, .ref (q 7)), (1, .ref (q 6))] := hl
  have hS : va_S (cA q) s.heap s.heap [] := va_S.rf
  have hP : va_P D vwCl (cW q cI cO I F) s.heap := hP
  refine lv_aload_n hx hb dX6_become_0 rfl (lv_at hl 0 rfl) ?_
  refine lv_aload_n hx hb dX6_become_1 rfl (lv_at hl 1 rfl) ?_
  refine va_get (D := D) (ci := 6) (v := .int (I 11)) (C := RX6) (T := TX6) (N := 3) hx hb hts (fun _ h9 => List.mem_cons_of_mem _ (List.mem_append_right _ h9)) hown hK hP 6 cAt6 rfl 0 (by decide) (hts _ (List.mem_of_getElem? (l := wsX6_become) (i := 1) rfl)) (fun _ h9 => h9) rfl dX6_become_2 ?_
  refine gPut (D := D) (ci := 6) (ty := .int) (C := RX6) (T := TX6) (N := 3) hx hb hts (fun _ h9 => List.mem_cons_of_mem _ (List.mem_append_right _ h9)) tyX6 tyX6_ok nmX6 hown hK hP (cD hq) hS 7 cAt7 rfl 0 (by decide) (hts _ (List.mem_of_getElem? (l := wsX6_become) (i := 1) rfl)) (fun _ h9 => h9) rfl (by decide +kernel) rfl rfl (Nat.le_of_ble_eq_true rfl) dX6_become_5 (cSet12 (I 11)) (fun H locs hP hS => ?_)
  obtain ⟨I1, eI1⟩ : ∃ z : Nat → Int32, z = upd I 12 (I 11) := ⟨_, rfl⟩
  rw [← eI1] at hP
  have h := h I1 eI1
  refine lv_aload_n hx hb dX6_become_8 rfl (lv_at hl 1 rfl) ?_
  refine va_get (D := D) (ci := 6) (v := .ref (q 21)) (C := RX6) (T := TX6) (N := 3) hx hb hts (fun _ h9 => List.mem_cons_of_mem _ (List.mem_append_right _ h9)) hown hK hP 6 cAt6 rfl 1 (by decide) (hts _ (List.mem_of_getElem? (l := wsX6_become) (i := 2) rfl)) (fun _ h9 => h9) rfl dX6_become_9 ?_
  refine lv_iconst (v := (0 : Int32)) hx hb dX6_become_12 (by decide) ?_
  refine lv_aload_n hx hb dX6_become_13 rfl (lv_at hl 0 rfl) ?_
  refine va_get (D := D) (ci := 6) (v := .ref (q 23)) (C := RX6) (T := TX6) (N := 3) hx hb hts (fun _ h9 => List.mem_cons_of_mem _ (List.mem_append_right _ h9)) hown hK hP 7 cAt7 rfl 1 (by decide) (hts _ (List.mem_of_getElem? (l := wsX6_become) (i := 2) rfl)) (fun _ h9 => h9) rfl dX6_become_14 ?_
  refine lv_iconst (v := (0 : Int32)) hx hb dX6_become_17 (by decide) ?_
  refine lv_bipush (v := (6 : Int32)) hx hb dX6_become_18 (by decide) ?_
  refine gCopy (D := D) hx hb (hml.trans hl.1.symm) hown (hts _ (List.mem_of_getElem? (l := wsX6_become) (i := 3) rfl)) (hts _ (List.mem_of_getElem? (l := wsX6_become) (i := 4) rfl)) (hts _ (List.mem_of_getElem? (l := wsX6_become) (i := 5) rfl)) (hts _ (List.mem_of_getElem? (l := wsX6_become) (i := 6) rfl)) hK hP (cD hq) hS 21 23 0 cAr21 cAr23 rfl (by decide) (by decide) (by decide) (by decide) (by decide) (Nat.le_trans (by decide) hRf) (Nat.le_trans (by decide) hRl) dX6_become_20 (cSA23 _) (fun H locs hP hS => ?_)
  obtain ⟨F2, eF2⟩ : ∃ z : Nat → Nat → Int32, z = upF F 23 (va_cpy (F 21) (F 23) ((0 : Int32)).toNatClampNeg ((0 : Int32)).toNatClampNeg ((6 : Int32)).toNatClampNeg) := ⟨_, rfl⟩
  rw [← eF2] at hP
  have h := h F2 eF2
  refine lv_aload_n hx hb dX6_become_23 rfl (lv_at hl 1 rfl) ?_
  refine va_get (D := D) (ci := 6) (v := .ref (q 22)) (C := RX6) (T := TX6) (N := 3) hx hb hts (fun _ h9 => List.mem_cons_of_mem _ (List.mem_append_right _ h9)) hown hK hP 6 cAt6 rfl 2 (by decide) (hts _ (List.mem_of_getElem? (l := wsX6_become) (i := 7) rfl)) (fun _ h9 => h9) rfl dX6_become_24 ?_
  refine lv_iconst (v := (0 : Int32)) hx hb dX6_become_27 (by decide) ?_
  refine lv_aload_n hx hb dX6_become_28 rfl (lv_at hl 0 rfl) ?_
  refine va_get (D := D) (ci := 6) (v := .ref (q 24)) (C := RX6) (T := TX6) (N := 3) hx hb hts (fun _ h9 => List.mem_cons_of_mem _ (List.mem_append_right _ h9)) hown hK hP 7 cAt7 rfl 2 (by decide) (hts _ (List.mem_of_getElem? (l := wsX6_become) (i := 7) rfl)) (fun _ h9 => h9) rfl dX6_become_29 ?_
  refine lv_iconst (v := (0 : Int32)) hx hb dX6_become_32 (by decide) ?_
  refine lv_bipush (v := (6 : Int32)) hx hb dX6_become_33 (by decide) ?_
  refine gCopy (D := D) hx hb (hml.trans hl.1.symm) hown (hts _ (List.mem_of_getElem? (l := wsX6_become) (i := 3) rfl)) (hts _ (List.mem_of_getElem? (l := wsX6_become) (i := 4) rfl)) (hts _ (List.mem_of_getElem? (l := wsX6_become) (i := 5) rfl)) (hts _ (List.mem_of_getElem? (l := wsX6_become) (i := 6) rfl)) hK hP (cD hq) hS 22 24 0 cAr22 cAr24 rfl (by decide) (by decide) (by decide) (by decide) (by decide) (Nat.le_trans (by decide) hRf) (Nat.le_trans (by decide) hRl) dX6_become_35 (cSA24 _) (fun H locs hP hS => ?_)
  obtain ⟨F3, eF3⟩ : ∃ z : Nat → Nat → Int32, z = upF F2 24 (va_cpy (F2 22) (F2 24) ((0 : Int32)).toNatClampNeg ((0 : Int32)).toNatClampNeg ((6 : Int32)).toNatClampNeg) := ⟨_, rfl⟩
  rw [← eF3] at hP
  have h := h F3 eF3
  exact hret (I1, F3) _ _ _ _ dX6_become_38 hP hS h
def w_X8_image  (I : Nat → Int32) (F : Nat → Nat → Int32) (post : Int32 → (Nat → Int32) → (Nat → Nat → Int32) → Prop) : Prop :=
  ((¬ (I 8) = 0 → w_X2_become_5_4 I F (fun (I2 : Nat → Int32) (F3 : Nat → Nat → Int32) => w_X6_become_7_6 I2 F3 (fun (I4 : Nat → Int32) (F5 : Nat → Nat → Int32) => post (I4 8) I4 F5))) ∧ ((I 8) = 0 → post (-103 : Int32) I F))
set_option maxHeartbeats 4000000 in
set_option maxRecDepth 100000 in
theorem c_X8_image (l : Launch) (D : va_G) (q : Nat → Nat) (cI cO : ClassId) (hq : cOk q)   (I : Nat → Int32) (F : Nat → Nat → Int32) (post : Int32 → (Nat → Int32) → (Nat → Nat → Int32) → Prop) (h : w_X8_image  I F post) : Met l yX8_image wsX8_image ({ frames := 2, cells := 0, slots := 0, locals := 61 } : Room) (gPre D (cTys cI cO) (cW q cI cO I F) (cEnv q) [.ref (q 0)]) (va_Qi (fun r (u : cS) => post r u.1 u.2) (gB D (fun u : cS => cW q cI cO u.1 u.2)) (cA q)) 0 0 (cA q) := by
  refine gMetI (by decide) rfl (Nat.le_of_ble_eq_true rfl) ?_
  intro p e R s m args below meth c Q ls hR hx hb hml hown hts hK hE hP hl hret
  have hRf : 2 ≤ R.frames := by subst hR; exact Nat.le_refl _
  have hRl : 61 ≤ R.locals := by subst hR; exact Nat.le_refl _
  have hown : s.vm.findClass RX8 = some m.cls := hown
  have hl : lv_has ls 1 [(0, .ref (q 0))] := hl
  have hS : va_S (cA q) s.heap s.heap [] := va_S.rf
  have hP : va_P D vwCl (cW q cI cO I F) s.heap := hP
  refine lv_aload_n hx hb dX8_image_0 rfl (lv_at hl 0 rfl) ?_
  refine va_get (D := D) (ci := 8) (v := .ref (q 4)) (C := RX8) (T := TX8) (N := 11) hx hb hts (fun _ h9 => List.mem_cons_of_mem _ (List.mem_append_left _ (List.mem_append_left _ (List.mem_append_right _ h9)))) hown hK hP 0 cAt0 rfl 2 (by decide) (hts _ (List.mem_of_getElem? (l := wsX8_image) (i := 1) rfl)) (fun _ h9 => h9) rfl dX8_image_1 ?_
  refine va_getN (D := D) (ci := 2) (v := .int (I 8)) (C := RX2) (T := TX2) (N := 4) hx hb hts (fun _ h9 => List.mem_cons_of_mem _ (List.mem_append_left _ (List.mem_append_right _ h9))) hown hK hP 4 cAt4 rfl 1 (by decide) (va_Nw.use rfl (hE.1.1 _ (List.mem_of_getElem? (l := cNF) (i := 6) rfl))) (fun _ h9 => h9) rfl dX8_image_4 ?_
  refine lv_if_ne (tgt := 13) hx hb dX8_image_7 (by decide) (fun c1 => ?_) (fun c1 => ?_)
  · have h := h.1 c1
    refine lv_aload_n hx hb dX8_image_13 rfl (lv_at hl 0 rfl) ?_
    refine va_get (D := D) (ci := 8) (v := .ref (q 5)) (C := RX8) (T := TX8) (N := 11) hx hb hts (fun _ h9 => List.mem_cons_of_mem _ (List.mem_append_left _ (List.mem_append_left _ (List.mem_append_right _ h9)))) hown hK hP 0 cAt0 rfl 3 (by decide) (hts _ (List.mem_of_getElem? (l := wsX8_image) (i := 2) rfl)) (fun _ h9 => h9) rfl dX8_image_14 ?_
    refine lv_aload_n hx hb dX8_image_17 rfl (lv_at hl 0 rfl) ?_
    refine va_get (D := D) (ci := 8) (v := .ref (q 4)) (C := RX8) (T := TX8) (N := 11) hx hb hts (fun _ h9 => List.mem_cons_of_mem _ (List.mem_append_left _ (List.mem_append_left _ (List.mem_append_right _ h9)))) hown hK hP 0 cAt0 rfl 2 (by decide) (hts _ (List.mem_of_getElem? (l := wsX8_image) (i := 1) rfl)) (fun _ h9 => h9) rfl dX8_image_18 ?_
    refine gCallV (D := D) (va_runV (As := [.ref (q 4)]) (rest := []) ⟨hx, hb, hml, hown, hts⟩ (c_X2_become_5_4 l D q cI cO hq   I F _ h) (cwV 1 hts gX8_image_X2_become rfl rfl rfl (by decide +kernel) ⟨Nat.le_trans (Nat.le_of_ble_eq_true rfl) hRf, Nat.le_trans (Nat.le_of_ble_eq_true rfl) hRl⟩) (gPreV (ci := 2) (q0 := 5) cEok hE hK hP hS rfl cAt5) rfl rfl hl.1 rfl (lv_room (Nat.le_of_ble_eq_true rfl)) dX8_image_21 ⟨Nat.zero_le _, Nat.zero_le _⟩) hS (fun u H locs hP hS h => ?_)
    obtain ⟨I2, F3⟩ := u
    have hP : va_P D vwCl (cW q cI cO I2 F3) H := hP
    refine lv_aload_n hx hb dX8_image_24 rfl (lv_at hl 0 rfl) ?_
    refine va_get (D := D) (ci := 8) (v := .ref (q 7)) (C := RX8) (T := TX8) (N := 11) hx hb hts (fun _ h9 => List.mem_cons_of_mem _ (List.mem_append_left _ (List.mem_append_left _ (List.mem_append_right _ h9)))) hown hK hP 0 cAt0 rfl 5 (by decide) (hts _ (List.mem_of_getElem? (l := wsX8_image) (i := 3) rfl)) (fun _ h9 => h9) rfl dX8_image_25 ?_
    refine lv_aload_n hx hb dX8_image_28 rfl (lv_at hl 0 rfl) ?_
    refine va_get (D := D) (ci := 8) (v := .ref (q 6)) (C := RX8) (T := TX8) (N := 11) hx hb hts (fun _ h9 => List.mem_cons_of_mem _ (List.mem_append_left _ (List.mem_append_left _ (List.mem_append_right _ h9)))) hown hK hP 0 cAt0 rfl 4 (by decide) (hts _ (List.mem_of_getElem? (l := wsX8_image) (i := 4) rfl)) (fun _ h9 => h9) rfl dX8_image_29 ?_
    refine gCallV (D := D) (va_runV (As := [.ref (q 6)]) (rest := []) ⟨hx, hb, hml, hown, hts⟩ (c_X6_become_7_6 l D q cI cO hq   I2 F3 _ h) (cwV 1 hts gX8_image_X6_become rfl rfl rfl (by decide +kernel) ⟨Nat.le_trans (Nat.le_of_ble_eq_true rfl) hRf, Nat.le_trans (Nat.le_of_ble_eq_true rfl) hRl⟩) (gPreV (ci := 6) (q0 := 7) cEok hE hK hP hS rfl cAt7) rfl rfl hl.1 rfl (lv_room (Nat.le_of_ble_eq_true rfl)) dX8_image_32 ⟨Nat.zero_le _, Nat.zero_le _⟩) hS (fun u H locs hP hS h => ?_)
    obtain ⟨I4, F5⟩ := u
    have hP : va_P D vwCl (cW q cI cO I4 F5) H := hP
    refine lv_aload_n hx hb dX8_image_35 rfl (lv_at hl 0 rfl) ?_
    refine va_get (D := D) (ci := 8) (v := .ref (q 4)) (C := RX8) (T := TX8) (N := 11) hx hb hts (fun _ h9 => List.mem_cons_of_mem _ (List.mem_append_left _ (List.mem_append_left _ (List.mem_append_right _ h9)))) hown hK hP 0 cAt0 rfl 2 (by decide) (hts _ (List.mem_of_getElem? (l := wsX8_image) (i := 1) rfl)) (fun _ h9 => h9) rfl dX8_image_36 ?_
    refine va_getN (D := D) (ci := 2) (v := .int (I4 8)) (C := RX2) (T := TX2) (N := 4) hx hb hts (fun _ h9 => List.mem_cons_of_mem _ (List.mem_append_left _ (List.mem_append_right _ h9))) hown hK hP 4 cAt4 rfl 1 (by decide) (va_Nw.use rfl (hE.1.1 _ (List.mem_of_getElem? (l := cNF) (i := 6) rfl))) (fun _ h9 => h9) rfl dX8_image_39 ?_
    exact hret (I4 8) (I4, F5) _ _ _ _ dX8_image_42 hP hS h
  · have h := h.2 c1
    refine lv_bipush (v := (-103 : Int32)) hx hb dX8_image_10 (by decide) ?_
    exact hret (-103 : Int32) (I, F) _ _ _ _ dX8_image_12 hP hS h
def w_X2_become_4_5  (I : Nat → Int32) (F : Nat → Nat → Int32) (post : (Nat → Int32) → (Nat → Nat → Int32) → Prop) : Prop :=
  ∀ I1 : Nat → Int32, I1 = upd I 7 (I 9) → ∀ I2 : Nat → Int32, I2 = upd I1 8 (I1 10) → ∀ F3 : Nat → Nat → Int32, F3 = upF F 17 (va_cpy (F 19) (F 17) ((0 : Int32)).toNatClampNeg ((0 : Int32)).toNatClampNeg ((8 : Int32)).toNatClampNeg) → ∀ F4 : Nat → Nat → Int32, F4 = upF F3 18 (va_cpy (F3 20) (F3 18) ((0 : Int32)).toNatClampNeg ((0 : Int32)).toNatClampNeg ((8 : Int32)).toNatClampNeg) → post I2 F4
set_option maxHeartbeats 4000000 in
set_option maxRecDepth 100000 in
theorem c_X2_become_4_5 (l : Launch) (D : va_G) (q : Nat → Nat) (cI cO : ClassId) (hq : cOk q)   (I : Nat → Int32) (F : Nat → Nat → Int32) (post : (Nat → Int32) → (Nat → Nat → Int32) → Prop) (h : w_X2_become_4_5  I F post) : Met l yX2_become wsX2_become ({ frames := 1, cells := 0, slots := 0, locals := 40 } : Room) (gPre D (cTys cI cO) (cW q cI cO I F) (cEnv q) [.ref (q 4), .ref (q 5)]) (va_Qv (fun (u : cS) => post u.1 u.2) (gB D (fun u : cS => cW q cI cO u.1 u.2)) (cA q)) 0 0 (cA q) := by
  refine gMetV (by decide) rfl (Nat.le_of_ble_eq_true rfl) ?_
  intro p e R s m args below meth c Q ls hR hx hb hml hown hts hK hE hP hl hret
  have hRf : 1 ≤ R.frames := by subst hR; exact Nat.le_refl _
  have hRl : 40 ≤ R.locals := by subst hR; exact Nat.le_refl _
  have hown : s.vm.findClass RX2 = some m.cls := hown
  have hl : lv_has ls 2 [(0, .ref (q 4)), (1, .ref (q 5))] := hl
  have hS : va_S (cA q) s.heap s.heap [] := va_S.rf
  have hP : va_P D vwCl (cW q cI cO I F) s.heap := hP
  refine lv_aload_n hx hb dX2_become_0 rfl (lv_at hl 0 rfl) ?_
  refine lv_aload_n hx hb dX2_become_1 rfl (lv_at hl 1 rfl) ?_
  refine va_get (D := D) (ci := 2) (v := .int (I 9)) (C := RX2) (T := TX2) (N := 4) hx hb hts (fun _ h9 => List.mem_cons_of_mem _ (List.mem_append_right _ h9)) hown hK hP 5 cAt5 rfl 0 (by decide) (hts _ (List.mem_of_getElem? (l := wsX2_become) (i := 1) rfl)) (fun _ h9 => h9) rfl dX2_become_2 ?_
  refine gPut (D := D) (ci := 2) (ty := .int) (C := RX2) (T := TX2) (N := 4) hx hb hts (fun _ h9 => List.mem_cons_of_mem _ (List.mem_append_right _ h9)) tyX2 tyX2_ok nmX2 hown hK hP (cD hq) hS 4 cAt4 rfl 0 (by decide) (hts _ (List.mem_of_getElem? (l := wsX2_become) (i := 1) rfl)) (fun _ h9 => h9) rfl (by decide +kernel) rfl rfl (Nat.le_of_ble_eq_true rfl) dX2_become_5 (cSet7 (I 9)) (fun H locs hP hS => ?_)
  obtain ⟨I1, eI1⟩ : ∃ z : Nat → Int32, z = upd I 7 (I 9) := ⟨_, rfl⟩
  rw [← eI1] at hP
  have h := h I1 eI1
  refine lv_aload_n hx hb dX2_become_8 rfl (lv_at hl 0 rfl) ?_
  refine lv_aload_n hx hb dX2_become_9 rfl (lv_at hl 1 rfl) ?_
  refine va_get (D := D) (ci := 2) (v := .int (I1 10)) (C := RX2) (T := TX2) (N := 4) hx hb hts (fun _ h9 => List.mem_cons_of_mem _ (List.mem_append_right _ h9)) hown hK hP 5 cAt5 rfl 1 (by decide) (hts _ (List.mem_of_getElem? (l := wsX2_become) (i := 2) rfl)) (fun _ h9 => h9) rfl dX2_become_10 ?_
  refine gPut (D := D) (ci := 2) (ty := .int) (C := RX2) (T := TX2) (N := 4) hx hb hts (fun _ h9 => List.mem_cons_of_mem _ (List.mem_append_right _ h9)) tyX2 tyX2_ok nmX2 hown hK hP (cD hq) hS 4 cAt4 rfl 1 (by decide) (hts _ (List.mem_of_getElem? (l := wsX2_become) (i := 2) rfl)) (fun _ h9 => h9) rfl (by decide +kernel) rfl rfl (Nat.le_of_ble_eq_true rfl) dX2_become_13 (cSet8 (I1 10)) (fun H locs hP hS => ?_)
  obtain ⟨I2, eI2⟩ : ∃ z : Nat → Int32, z = upd I1 8 (I1 10) := ⟨_, rfl⟩
  rw [← eI2] at hP
  have h := h I2 eI2
  refine lv_aload_n hx hb dX2_become_16 rfl (lv_at hl 1 rfl) ?_
  refine va_get (D := D) (ci := 2) (v := .ref (q 19)) (C := RX2) (T := TX2) (N := 4) hx hb hts (fun _ h9 => List.mem_cons_of_mem _ (List.mem_append_right _ h9)) hown hK hP 5 cAt5 rfl 2 (by decide) (hts _ (List.mem_of_getElem? (l := wsX2_become) (i := 3) rfl)) (fun _ h9 => h9) rfl dX2_become_17 ?_
  refine lv_iconst (v := (0 : Int32)) hx hb dX2_become_20 (by decide) ?_
  refine lv_aload_n hx hb dX2_become_21 rfl (lv_at hl 0 rfl) ?_
  refine va_get (D := D) (ci := 2) (v := .ref (q 17)) (C := RX2) (T := TX2) (N := 4) hx hb hts (fun _ h9 => List.mem_cons_of_mem _ (List.mem_append_right _ h9)) hown hK hP 4 cAt4 rfl 2 (by decide) (hts _ (List.mem_of_getElem? (l := wsX2_become) (i := 3) rfl)) (fun _ h9 => h9) rfl dX2_become_22 ?_
  refine lv_iconst (v := (0 : Int32)) hx hb dX2_become_25 (by decide) ?_
  refine lv_bipush (v := (8 : Int32)) hx hb dX2_become_26 (by decide) ?_
  refine gCopy (D := D) hx hb (hml.trans hl.1.symm) hown (hts _ (List.mem_of_getElem? (l := wsX2_become) (i := 4) rfl)) (hts _ (List.mem_of_getElem? (l := wsX2_become) (i := 5) rfl)) (hts _ (List.mem_of_getElem? (l := wsX2_become) (i := 6) rfl)) (hts _ (List.mem_of_getElem? (l := wsX2_become) (i := 7) rfl)) hK hP (cD hq) hS 19 17 0 cAr19 cAr17 rfl (by decide) (by decide) (by decide) (by decide) (by decide) (Nat.le_trans (by decide) hRf) (Nat.le_trans (by decide) hRl) dX2_become_28 (cSA17 _) (fun H locs hP hS => ?_)
  obtain ⟨F3, eF3⟩ : ∃ z : Nat → Nat → Int32, z = upF F 17 (va_cpy (F 19) (F 17) ((0 : Int32)).toNatClampNeg ((0 : Int32)).toNatClampNeg ((8 : Int32)).toNatClampNeg) := ⟨_, rfl⟩
  rw [← eF3] at hP
  have h := h F3 eF3
  refine lv_aload_n hx hb dX2_become_31 rfl (lv_at hl 1 rfl) ?_
  refine va_get (D := D) (ci := 2) (v := .ref (q 20)) (C := RX2) (T := TX2) (N := 4) hx hb hts (fun _ h9 => List.mem_cons_of_mem _ (List.mem_append_right _ h9)) hown hK hP 5 cAt5 rfl 3 (by decide) (hts _ (List.mem_of_getElem? (l := wsX2_become) (i := 8) rfl)) (fun _ h9 => h9) rfl dX2_become_32 ?_
  refine lv_iconst (v := (0 : Int32)) hx hb dX2_become_35 (by decide) ?_
  refine lv_aload_n hx hb dX2_become_36 rfl (lv_at hl 0 rfl) ?_
  refine va_get (D := D) (ci := 2) (v := .ref (q 18)) (C := RX2) (T := TX2) (N := 4) hx hb hts (fun _ h9 => List.mem_cons_of_mem _ (List.mem_append_right _ h9)) hown hK hP 4 cAt4 rfl 3 (by decide) (hts _ (List.mem_of_getElem? (l := wsX2_become) (i := 8) rfl)) (fun _ h9 => h9) rfl dX2_become_37 ?_
  refine lv_iconst (v := (0 : Int32)) hx hb dX2_become_40 (by decide) ?_
  refine lv_bipush (v := (8 : Int32)) hx hb dX2_become_41 (by decide) ?_
  refine gCopy (D := D) hx hb (hml.trans hl.1.symm) hown (hts _ (List.mem_of_getElem? (l := wsX2_become) (i := 4) rfl)) (hts _ (List.mem_of_getElem? (l := wsX2_become) (i := 5) rfl)) (hts _ (List.mem_of_getElem? (l := wsX2_become) (i := 6) rfl)) (hts _ (List.mem_of_getElem? (l := wsX2_become) (i := 7) rfl)) hK hP (cD hq) hS 20 18 0 cAr20 cAr18 rfl (by decide) (by decide) (by decide) (by decide) (by decide) (Nat.le_trans (by decide) hRf) (Nat.le_trans (by decide) hRl) dX2_become_43 (cSA18 _) (fun H locs hP hS => ?_)
  obtain ⟨F4, eF4⟩ : ∃ z : Nat → Nat → Int32, z = upF F3 18 (va_cpy (F3 20) (F3 18) ((0 : Int32)).toNatClampNeg ((0 : Int32)).toNatClampNeg ((8 : Int32)).toNatClampNeg) := ⟨_, rfl⟩
  rw [← eF4] at hP
  have h := h F4 eF4
  exact hret (I2, F4) _ _ _ _ dX2_become_46 hP hS h
def w_X6_become_6_7  (I : Nat → Int32) (F : Nat → Nat → Int32) (post : (Nat → Int32) → (Nat → Nat → Int32) → Prop) : Prop :=
  ∀ I1 : Nat → Int32, I1 = upd I 11 (I 12) → ∀ F2 : Nat → Nat → Int32, F2 = upF F 21 (va_cpy (F 23) (F 21) ((0 : Int32)).toNatClampNeg ((0 : Int32)).toNatClampNeg ((6 : Int32)).toNatClampNeg) → ∀ F3 : Nat → Nat → Int32, F3 = upF F2 22 (va_cpy (F2 24) (F2 22) ((0 : Int32)).toNatClampNeg ((0 : Int32)).toNatClampNeg ((6 : Int32)).toNatClampNeg) → post I1 F3
set_option maxHeartbeats 4000000 in
set_option maxRecDepth 100000 in
theorem c_X6_become_6_7 (l : Launch) (D : va_G) (q : Nat → Nat) (cI cO : ClassId) (hq : cOk q)   (I : Nat → Int32) (F : Nat → Nat → Int32) (post : (Nat → Int32) → (Nat → Nat → Int32) → Prop) (h : w_X6_become_6_7  I F post) : Met l yX6_become wsX6_become ({ frames := 1, cells := 0, slots := 0, locals := 40 } : Room) (gPre D (cTys cI cO) (cW q cI cO I F) (cEnv q) [.ref (q 6), .ref (q 7)]) (va_Qv (fun (u : cS) => post u.1 u.2) (gB D (fun u : cS => cW q cI cO u.1 u.2)) (cA q)) 0 0 (cA q) := by
  refine gMetV (by decide) rfl (Nat.le_of_ble_eq_true rfl) ?_
  intro p e R s m args below meth c Q ls hR hx hb hml hown hts hK hE hP hl hret
  have hRf : 1 ≤ R.frames := by subst hR; exact Nat.le_refl _
  have hRl : 40 ≤ R.locals := by subst hR; exact Nat.le_refl _
  have hown : s.vm.findClass RX6 = some m.cls := hown
  have hl : lv_has ls 2 [(0, .ref (q 6)), (1, .ref (q 7))] := hl
  have hS : va_S (cA q) s.heap s.heap [] := va_S.rf
  have hP : va_P D vwCl (cW q cI cO I F) s.heap := hP
  refine lv_aload_n hx hb dX6_become_0 rfl (lv_at hl 0 rfl) ?_
  refine lv_aload_n hx hb dX6_become_1 rfl (lv_at hl 1 rfl) ?_
  refine va_get (D := D) (ci := 6) (v := .int (I 12)) (C := RX6) (T := TX6) (N := 3) hx hb hts (fun _ h9 => List.mem_cons_of_mem _ (List.mem_append_right _ h9)) hown hK hP 7 cAt7 rfl 0 (by decide) (hts _ (List.mem_of_getElem? (l := wsX6_become) (i := 1) rfl)) (fun _ h9 => h9) rfl dX6_become_2 ?_
  refine gPut (D := D) (ci := 6) (ty := .int) (C := RX6) (T := TX6) (N := 3) hx hb hts (fun _ h9 => List.mem_cons_of_mem _ (List.mem_append_right _ h9)) tyX6 tyX6_ok nmX6 hown hK hP (cD hq) hS 6 cAt6 rfl 0 (by decide) (hts _ (List.mem_of_getElem? (l := wsX6_become) (i := 1) rfl)) (fun _ h9 => h9) rfl (by decide +kernel) rfl rfl (Nat.le_of_ble_eq_true rfl) dX6_become_5 (cSet11 (I 12)) (fun H locs hP hS => ?_)
  obtain ⟨I1, eI1⟩ : ∃ z : Nat → Int32, z = upd I 11 (I 12) := ⟨_, rfl⟩
  rw [← eI1] at hP
  have h := h I1 eI1
  refine lv_aload_n hx hb dX6_become_8 rfl (lv_at hl 1 rfl) ?_
  refine va_get (D := D) (ci := 6) (v := .ref (q 23)) (C := RX6) (T := TX6) (N := 3) hx hb hts (fun _ h9 => List.mem_cons_of_mem _ (List.mem_append_right _ h9)) hown hK hP 7 cAt7 rfl 1 (by decide) (hts _ (List.mem_of_getElem? (l := wsX6_become) (i := 2) rfl)) (fun _ h9 => h9) rfl dX6_become_9 ?_
  refine lv_iconst (v := (0 : Int32)) hx hb dX6_become_12 (by decide) ?_
  refine lv_aload_n hx hb dX6_become_13 rfl (lv_at hl 0 rfl) ?_
  refine va_get (D := D) (ci := 6) (v := .ref (q 21)) (C := RX6) (T := TX6) (N := 3) hx hb hts (fun _ h9 => List.mem_cons_of_mem _ (List.mem_append_right _ h9)) hown hK hP 6 cAt6 rfl 1 (by decide) (hts _ (List.mem_of_getElem? (l := wsX6_become) (i := 2) rfl)) (fun _ h9 => h9) rfl dX6_become_14 ?_
  refine lv_iconst (v := (0 : Int32)) hx hb dX6_become_17 (by decide) ?_
  refine lv_bipush (v := (6 : Int32)) hx hb dX6_become_18 (by decide) ?_
  refine gCopy (D := D) hx hb (hml.trans hl.1.symm) hown (hts _ (List.mem_of_getElem? (l := wsX6_become) (i := 3) rfl)) (hts _ (List.mem_of_getElem? (l := wsX6_become) (i := 4) rfl)) (hts _ (List.mem_of_getElem? (l := wsX6_become) (i := 5) rfl)) (hts _ (List.mem_of_getElem? (l := wsX6_become) (i := 6) rfl)) hK hP (cD hq) hS 23 21 0 cAr23 cAr21 rfl (by decide) (by decide) (by decide) (by decide) (by decide) (Nat.le_trans (by decide) hRf) (Nat.le_trans (by decide) hRl) dX6_become_20 (cSA21 _) (fun H locs hP hS => ?_)
  obtain ⟨F2, eF2⟩ : ∃ z : Nat → Nat → Int32, z = upF F 21 (va_cpy (F 23) (F 21) ((0 : Int32)).toNatClampNeg ((0 : Int32)).toNatClampNeg ((6 : Int32)).toNatClampNeg) := ⟨_, rfl⟩
  rw [← eF2] at hP
  have h := h F2 eF2
  refine lv_aload_n hx hb dX6_become_23 rfl (lv_at hl 1 rfl) ?_
  refine va_get (D := D) (ci := 6) (v := .ref (q 24)) (C := RX6) (T := TX6) (N := 3) hx hb hts (fun _ h9 => List.mem_cons_of_mem _ (List.mem_append_right _ h9)) hown hK hP 7 cAt7 rfl 2 (by decide) (hts _ (List.mem_of_getElem? (l := wsX6_become) (i := 7) rfl)) (fun _ h9 => h9) rfl dX6_become_24 ?_
  refine lv_iconst (v := (0 : Int32)) hx hb dX6_become_27 (by decide) ?_
  refine lv_aload_n hx hb dX6_become_28 rfl (lv_at hl 0 rfl) ?_
  refine va_get (D := D) (ci := 6) (v := .ref (q 22)) (C := RX6) (T := TX6) (N := 3) hx hb hts (fun _ h9 => List.mem_cons_of_mem _ (List.mem_append_right _ h9)) hown hK hP 6 cAt6 rfl 2 (by decide) (hts _ (List.mem_of_getElem? (l := wsX6_become) (i := 7) rfl)) (fun _ h9 => h9) rfl dX6_become_29 ?_
  refine lv_iconst (v := (0 : Int32)) hx hb dX6_become_32 (by decide) ?_
  refine lv_bipush (v := (6 : Int32)) hx hb dX6_become_33 (by decide) ?_
  refine gCopy (D := D) hx hb (hml.trans hl.1.symm) hown (hts _ (List.mem_of_getElem? (l := wsX6_become) (i := 3) rfl)) (hts _ (List.mem_of_getElem? (l := wsX6_become) (i := 4) rfl)) (hts _ (List.mem_of_getElem? (l := wsX6_become) (i := 5) rfl)) (hts _ (List.mem_of_getElem? (l := wsX6_become) (i := 6) rfl)) hK hP (cD hq) hS 24 22 0 cAr24 cAr22 rfl (by decide) (by decide) (by decide) (by decide) (by decide) (Nat.le_trans (by decide) hRf) (Nat.le_trans (by decide) hRl) dX6_become_35 (cSA22 _) (fun H locs hP hS => ?_)
  obtain ⟨F3, eF3⟩ : ∃ z : Nat → Nat → Int32, z = upF F2 22 (va_cpy (F2 24) (F2 22) ((0 : Int32)).toNatClampNeg ((0 : Int32)).toNatClampNeg ((6 : Int32)).toNatClampNeg) := ⟨_, rfl⟩
  rw [← eF3] at hP
  have h := h F3 eF3
  exact hret (I1, F3) _ _ _ _ dX6_become_38 hP hS h
def w_X8_restore  (I : Nat → Int32) (F : Nat → Nat → Int32) (post : Int32 → (Nat → Int32) → (Nat → Nat → Int32) → Prop) : Prop :=
  ((¬ (I 10) = 0 → w_X2_become_4_5 I F (fun (I2 : Nat → Int32) (F3 : Nat → Nat → Int32) => w_X6_become_6_7 I2 F3 (fun (I4 : Nat → Int32) (F5 : Nat → Nat → Int32) => w_X3_makeStale_9 I4 F5 (fun (I6 : Nat → Int32) (F7 : Nat → Nat → Int32) => post (I6 8) I6 F7)))) ∧ ((I 10) = 0 → post (-103 : Int32) I F))
set_option maxHeartbeats 4000000 in
set_option maxRecDepth 100000 in
theorem c_X8_restore (l : Launch) (D : va_G) (q : Nat → Nat) (cI cO : ClassId) (hq : cOk q)   (I : Nat → Int32) (F : Nat → Nat → Int32) (post : Int32 → (Nat → Int32) → (Nat → Nat → Int32) → Prop) (h : w_X8_restore  I F post) : Met l yX8_restore wsX8_restore ({ frames := 2, cells := 0, slots := 0, locals := 61 } : Room) (gPre D (cTys cI cO) (cW q cI cO I F) (cEnv q) [.ref (q 0)]) (va_Qi (fun r (u : cS) => post r u.1 u.2) (gB D (fun u : cS => cW q cI cO u.1 u.2)) (cA q)) 0 0 (cA q) := by
  refine gMetI (by decide) rfl (Nat.le_of_ble_eq_true rfl) ?_
  intro p e R s m args below meth c Q ls hR hx hb hml hown hts hK hE hP hl hret
  have hRf : 2 ≤ R.frames := by subst hR; exact Nat.le_refl _
  have hRl : 61 ≤ R.locals := by subst hR; exact Nat.le_refl _
  have hown : s.vm.findClass RX8 = some m.cls := hown
  have hl : lv_has ls 1 [(0, .ref (q 0))] := hl
  have hS : va_S (cA q) s.heap s.heap [] := va_S.rf
  have hP : va_P D vwCl (cW q cI cO I F) s.heap := hP
  refine lv_aload_n hx hb dX8_restore_0 rfl (lv_at hl 0 rfl) ?_
  refine va_get (D := D) (ci := 8) (v := .ref (q 5)) (C := RX8) (T := TX8) (N := 11) hx hb hts (fun _ h9 => List.mem_cons_of_mem _ (List.mem_append_left _ (List.mem_append_left _ (List.mem_append_left _ (List.mem_append_right _ h9))))) hown hK hP 0 cAt0 rfl 3 (by decide) (hts _ (List.mem_of_getElem? (l := wsX8_restore) (i := 1) rfl)) (fun _ h9 => h9) rfl dX8_restore_1 ?_
  refine va_getN (D := D) (ci := 2) (v := .int (I 10)) (C := RX2) (T := TX2) (N := 4) hx hb hts (fun _ h9 => List.mem_cons_of_mem _ (List.mem_append_left _ (List.mem_append_left _ (List.mem_append_right _ h9)))) hown hK hP 5 cAt5 rfl 1 (by decide) (va_Nw.use rfl (hE.1.1 _ (List.mem_of_getElem? (l := cNF) (i := 6) rfl))) (fun _ h9 => h9) rfl dX8_restore_4 ?_
  refine lv_if_ne (tgt := 13) hx hb dX8_restore_7 (by decide) (fun c1 => ?_) (fun c1 => ?_)
  · have h := h.1 c1
    refine lv_aload_n hx hb dX8_restore_13 rfl (lv_at hl 0 rfl) ?_
    refine va_get (D := D) (ci := 8) (v := .ref (q 4)) (C := RX8) (T := TX8) (N := 11) hx hb hts (fun _ h9 => List.mem_cons_of_mem _ (List.mem_append_left _ (List.mem_append_left _ (List.mem_append_left _ (List.mem_append_right _ h9))))) hown hK hP 0 cAt0 rfl 2 (by decide) (hts _ (List.mem_of_getElem? (l := wsX8_restore) (i := 2) rfl)) (fun _ h9 => h9) rfl dX8_restore_14 ?_
    refine lv_aload_n hx hb dX8_restore_17 rfl (lv_at hl 0 rfl) ?_
    refine va_get (D := D) (ci := 8) (v := .ref (q 5)) (C := RX8) (T := TX8) (N := 11) hx hb hts (fun _ h9 => List.mem_cons_of_mem _ (List.mem_append_left _ (List.mem_append_left _ (List.mem_append_left _ (List.mem_append_right _ h9))))) hown hK hP 0 cAt0 rfl 3 (by decide) (hts _ (List.mem_of_getElem? (l := wsX8_restore) (i := 1) rfl)) (fun _ h9 => h9) rfl dX8_restore_18 ?_
    refine gCallV (D := D) (va_runV (As := [.ref (q 5)]) (rest := []) ⟨hx, hb, hml, hown, hts⟩ (c_X2_become_4_5 l D q cI cO hq   I F _ h) (cwV 1 hts gX8_restore_X2_become rfl rfl rfl (by decide +kernel) ⟨Nat.le_trans (Nat.le_of_ble_eq_true rfl) hRf, Nat.le_trans (Nat.le_of_ble_eq_true rfl) hRl⟩) (gPreV (ci := 2) (q0 := 4) cEok hE hK hP hS rfl cAt4) rfl rfl hl.1 rfl (lv_room (Nat.le_of_ble_eq_true rfl)) dX8_restore_21 ⟨Nat.zero_le _, Nat.zero_le _⟩) hS (fun u H locs hP hS h => ?_)
    obtain ⟨I2, F3⟩ := u
    have hP : va_P D vwCl (cW q cI cO I2 F3) H := hP
    refine lv_aload_n hx hb dX8_restore_24 rfl (lv_at hl 0 rfl) ?_
    refine va_get (D := D) (ci := 8) (v := .ref (q 6)) (C := RX8) (T := TX8) (N := 11) hx hb hts (fun _ h9 => List.mem_cons_of_mem _ (List.mem_append_left _ (List.mem_append_left _ (List.mem_append_left _ (List.mem_append_right _ h9))))) hown hK hP 0 cAt0 rfl 4 (by decide) (hts _ (List.mem_of_getElem? (l := wsX8_restore) (i := 3) rfl)) (fun _ h9 => h9) rfl dX8_restore_25 ?_
    refine lv_aload_n hx hb dX8_restore_28 rfl (lv_at hl 0 rfl) ?_
    refine va_get (D := D) (ci := 8) (v := .ref (q 7)) (C := RX8) (T := TX8) (N := 11) hx hb hts (fun _ h9 => List.mem_cons_of_mem _ (List.mem_append_left _ (List.mem_append_left _ (List.mem_append_left _ (List.mem_append_right _ h9))))) hown hK hP 0 cAt0 rfl 5 (by decide) (hts _ (List.mem_of_getElem? (l := wsX8_restore) (i := 4) rfl)) (fun _ h9 => h9) rfl dX8_restore_29 ?_
    refine gCallV (D := D) (va_runV (As := [.ref (q 7)]) (rest := []) ⟨hx, hb, hml, hown, hts⟩ (c_X6_become_6_7 l D q cI cO hq   I2 F3 _ h) (cwV 1 hts gX8_restore_X6_become rfl rfl rfl (by decide +kernel) ⟨Nat.le_trans (Nat.le_of_ble_eq_true rfl) hRf, Nat.le_trans (Nat.le_of_ble_eq_true rfl) hRl⟩) (gPreV (ci := 6) (q0 := 6) cEok hE hK hP hS rfl cAt6) rfl rfl hl.1 rfl (lv_room (Nat.le_of_ble_eq_true rfl)) dX8_restore_32 ⟨Nat.zero_le _, Nat.zero_le _⟩) hS (fun u H locs hP hS h => ?_)
    obtain ⟨I4, F5⟩ := u
    have hP : va_P D vwCl (cW q cI cO I4 F5) H := hP
    refine lv_aload_n hx hb dX8_restore_35 rfl (lv_at hl 0 rfl) ?_
    refine va_get (D := D) (ci := 8) (v := .ref (q 9)) (C := RX8) (T := TX8) (N := 11) hx hb hts (fun _ h9 => List.mem_cons_of_mem _ (List.mem_append_left _ (List.mem_append_left _ (List.mem_append_left _ (List.mem_append_right _ h9))))) hown hK hP 0 cAt0 rfl 7 (by decide) (hts _ (List.mem_of_getElem? (l := wsX8_restore) (i := 5) rfl)) (fun _ h9 => h9) rfl dX8_restore_36 ?_
    refine gCallV (D := D) (va_runV (As := []) (rest := []) ⟨hx, hb, hml, hown, hts⟩ (c_X3_makeStale_9 l D q cI cO hq   I4 F5 _ h) (cwV 0 hts gX8_restore_X3_makeStale rfl rfl rfl (by decide +kernel) ⟨Nat.le_trans (Nat.le_of_ble_eq_true rfl) hRf, Nat.le_trans (Nat.le_of_ble_eq_true rfl) hRl⟩) (gPreV (ci := 3) (q0 := 9) cEok hE hK hP hS rfl cAt9) rfl rfl hl.1 rfl (lv_room (Nat.le_of_ble_eq_true rfl)) dX8_restore_39 ⟨Nat.zero_le _, Nat.zero_le _⟩) hS (fun u H locs hP hS h => ?_)
    obtain ⟨I6, F7⟩ := u
    have hP : va_P D vwCl (cW q cI cO I6 F7) H := hP
    refine lv_aload_n hx hb dX8_restore_42 rfl (lv_at hl 0 rfl) ?_
    refine va_get (D := D) (ci := 8) (v := .ref (q 4)) (C := RX8) (T := TX8) (N := 11) hx hb hts (fun _ h9 => List.mem_cons_of_mem _ (List.mem_append_left _ (List.mem_append_left _ (List.mem_append_left _ (List.mem_append_right _ h9))))) hown hK hP 0 cAt0 rfl 2 (by decide) (hts _ (List.mem_of_getElem? (l := wsX8_restore) (i := 2) rfl)) (fun _ h9 => h9) rfl dX8_restore_43 ?_
    refine va_getN (D := D) (ci := 2) (v := .int (I6 8)) (C := RX2) (T := TX2) (N := 4) hx hb hts (fun _ h9 => List.mem_cons_of_mem _ (List.mem_append_left _ (List.mem_append_left _ (List.mem_append_right _ h9)))) hown hK hP 4 cAt4 rfl 1 (by decide) (va_Nw.use rfl (hE.1.1 _ (List.mem_of_getElem? (l := cNF) (i := 6) rfl))) (fun _ h9 => h9) rfl dX8_restore_46 ?_
    exact hret (I6 8) (I6, F7) _ _ _ _ dX8_restore_49 hP hS h
  · have h := h.2 c1
    refine lv_bipush (v := (-103 : Int32)) hx hb dX8_restore_10 (by decide) ?_
    exact hret (-103 : Int32) (I, F) _ _ _ _ dX8_restore_12 hP hS h
def w_X2_tonesOfAll_4_B4 (I : Nat → Int32) (F : Nat → Nat → Int32) (k again : Int32 → Int32 → Prop) (x1 : Int32) (x2 : Int32) : Prop :=
  (((I 8) ≤ x2 → k x1 x2) ∧ (¬ (I 8) ≤ x2 → vp_in x2 8 ∧ ∀ v2 : Int32, v2 = (x1 ||| (F 18 (x2).toNatClampNeg)) → again v2 (x2 + (1 : Int32))))
def w_X2_tonesOfAll_4  (I : Nat → Int32) (F : Nat → Nat → Int32) (post : Int32 → Prop) : Prop :=
  gL (fun ag v => w_X2_tonesOfAll_4_B4 I F (fun (y3 : Int32) (y4 : Int32) => post y3) (fun b0 b1 => ag (b0, b1)) v.1 v.2) ((0 : Int32), (0 : Int32))
set_option maxHeartbeats 4000000 in
set_option maxRecDepth 100000 in
theorem c_X2_tonesOfAll_4 (l : Launch) (D : va_G) (q : Nat → Nat) (cI cO : ClassId) (hq : cOk q)   (I : Nat → Int32) (F : Nat → Nat → Int32) (post : Int32 → Prop) (h : w_X2_tonesOfAll_4  I F post) : Met l yX2_tonesOfAll wsX2_tonesOfAll ({ frames := 0, cells := 0, slots := 0, locals := 0 } : Room) (gPre D (cTys cI cO) (cW q cI cO I F) (cEnv q) [.ref (q 4)]) (va_Qi (fun r (_ : Unit) => post r) (gB D (fun _ : Unit => cW q cI cO I F)) (cA q)) 0 0 (cA q) := by
  refine gMetI (by decide) rfl (Nat.le_of_ble_eq_true rfl) ?_
  intro p e R s m args below meth c Q ls hR hx hb hml hown hts hK hE hP hl hret
  have hRf : 0 ≤ R.frames := by subst hR; exact Nat.le_refl _
  have hRl : 0 ≤ R.locals := by subst hR; exact Nat.le_refl _
  have hown : s.vm.findClass RX2 = some m.cls := hown
  have hl : lv_has ls 3 [(0, .ref (q 4))] := hl
  have hS : va_S (cA q) s.heap s.heap [] := va_S.rf
  have hP : va_P D vwCl (cW q cI cO I F) s.heap := hP
  have L4 : ∀ (n : Nat)  (k : Int32 → Int32 → Prop) (x1 : Int32) (x2 : Int32) (H : Heap) (locs : List Loc) (ls : Array Slot), va_P D vwCl (cW q cI cO I F) H → va_S (cA q) s.heap H locs → lv_has ls 3 [(0, .ref (q 4)), (1, .int x1), (2, .int x2)] → gLN (fun ag v => w_X2_tonesOfAll_4_B4 I F k (fun b0 b1 => ag (b0, b1)) v.1 v.2) n (x1, x2) → (∀ (x1 : Int32) (x2 : Int32) (H : Heap) (locs : List Loc) (ls : Array Slot), va_P D vwCl (cW q cI cO I F) H → va_S (cA q) s.heap H locs → lv_has ls 3 [(1, .int x1)] → k x1 x2 → W p l e R s m args below meth c H locs 0 0 Q (F0 m 27 ls [])) → W p l e R s m args below meth c H locs 0 0 Q (F0 m 4 ls []) := by
    intro n
    induction n with
    | zero =>
      intro  k x1 x2 H locs ls  hP hS hl h K
      exact False.elim h
    | succ n ih =>
      intro  k x1 x2 H locs ls  hP hS hl h K
      have h : w_X2_tonesOfAll_4_B4 I F k (fun b0 b1 => gLN (fun ag v => w_X2_tonesOfAll_4_B4 I F k (fun b0 b1 => ag (b0, b1)) v.1 v.2) n (b0, b1)) x1 x2 := h
      refine lv_iload_n hx hb dX2_tonesOfAll_4 rfl (lv_at hl 2 rfl) ?_
      refine lv_aload_n hx hb dX2_tonesOfAll_5 rfl (lv_at hl 0 rfl) ?_
      refine va_get (D := D) (ci := 2) (v := .int (I 8)) (C := RX2) (T := TX2) (N := 4) hx hb hts (fun _ h9 => List.mem_cons_of_mem _ (List.mem_append_right _ h9)) hown hK hP 4 cAt4 rfl 1 (by decide) (hts _ (List.mem_of_getElem? (l := wsX2_tonesOfAll) (i := 1) rfl)) (fun _ h9 => h9) rfl dX2_tonesOfAll_6 ?_
      refine lv_icmp_ge (tgt := 27) hx hb dX2_tonesOfAll_9 (by decide) (fun c1 => ?_) (fun c1 => ?_)
      · have h := h.1 c1
        exact K x1 x2 _ _ _  hP hS (lv_sub hl [1] rfl) h
      · have h := h.2 c1
        refine lv_iload_n hx hb dX2_tonesOfAll_12 rfl (lv_at hl 1 rfl) ?_
        refine lv_aload_n hx hb dX2_tonesOfAll_13 rfl (lv_at hl 0 rfl) ?_
        refine va_get (D := D) (ci := 2) (v := .ref (q 18)) (C := RX2) (T := TX2) (N := 4) hx hb hts (fun _ h9 => List.mem_cons_of_mem _ (List.mem_append_right _ h9)) hown hK hP 4 cAt4 rfl 3 (by decide) (hts _ (List.mem_of_getElem? (l := wsX2_tonesOfAll) (i := 2) rfl)) (fun _ h9 => h9) rfl dX2_tonesOfAll_14 ?_
        refine lv_iload_n hx hb dX2_tonesOfAll_17 rfl (lv_at hl 2 rfl) ?_
        refine va_iald (D := D) hx hb hK hP 18 0 cAr18 rfl h.1 dX2_tonesOfAll_18 ?_
        have h := h.2
        refine lv_ior hx hb dX2_tonesOfAll_19 ?_
        refine lv_topi (fun v2 ev2 => ?_)
        have h := h v2 ev2
        refine lv_istore_n (lv' := [(1, .int v2), (0, .ref (q 4)), (2, .int x2)]) hx hb dX2_tonesOfAll_20 rfl hl (by decide) rfl (fun ls hl => ?_)
        refine lv_iinc (v := (x2 + (1 : Int32))) (lv' := [(2, .int (x2 + (1 : Int32))), (1, .int v2), (0, .ref (q 4))]) hx hb dX2_tonesOfAll_21 hl (k := 2) rfl rfl (by decide) rfl (fun ls hl => ?_)
        refine lv_goto (tgt := 4) hx hb dX2_tonesOfAll_24 (by decide) ?_
        exact ih  _ v2 (x2 + (1 : Int32)) _ _ _  hP hS (lv_sub hl [2, 1, 0] rfl) h K
  refine lv_iconst (v := (0 : Int32)) hx hb dX2_tonesOfAll_0 (by decide) ?_
  refine lv_istore_n (lv' := [(1, .int (0 : Int32)), (0, .ref (q 4))]) hx hb dX2_tonesOfAll_1 rfl hl (by decide) rfl (fun ls hl => ?_)
  refine lv_iconst (v := (0 : Int32)) hx hb dX2_tonesOfAll_2 (by decide) ?_
  refine lv_istore_n (lv' := [(2, .int (0 : Int32)), (1, .int (0 : Int32)), (0, .ref (q 4))]) hx hb dX2_tonesOfAll_3 rfl hl (by decide) rfl (fun ls hl => ?_)
  obtain ⟨n, h⟩ := h
  refine L4 n  _ (0 : Int32) (0 : Int32) _ _ _  hP hS (lv_sub hl [2, 1, 0] rfl) h (fun y3 y4 H locs ls  hP hS hl h => ?_)
  refine lv_iload_n hx hb dX2_tonesOfAll_27 rfl (lv_at hl 0 rfl) ?_
  exact hret y3 () _ _ _ _ dX2_tonesOfAll_28 hP hS h
def w_X8_count (a1 : Int32) (I : Nat → Int32) (F : Nat → Nat → Int32) (post : Int32 → Prop) : Prop :=
  ((a1 = (0 : Int32) → post (I 8)) ∧ (a1 = (1 : Int32) → ((¬ (I 8) = 0 → w_X7_numberOf (I 7) I F (fun (r3 : Int32) => post r3)) ∧ ((I 8) = 0 → post (-1 : Int32)))) ∧ (a1 = (2 : Int32) → w_X2_tonesOfAll_4 I F (fun (r4 : Int32) => w_J6_bitCount_0f7a4 r4 I F (fun (r5 : Int32) => post r5))) ∧ (a1 = (3 : Int32) → post (I 11)) ∧ (a1 = (4 : Int32) → post (I 2)) ∧ (a1 = (5 : Int32) → post (I 0)) ∧ (a1 = (6 : Int32) → post (I 1)) ∧ (¬ a1 = (0 : Int32) → ¬ a1 = (1 : Int32) → ¬ a1 = (2 : Int32) → ¬ a1 = (3 : Int32) → ¬ a1 = (4 : Int32) → ¬ a1 = (5 : Int32) → ¬ a1 = (6 : Int32) → post (-102 : Int32)))
set_option maxHeartbeats 4000000 in
set_option maxRecDepth 100000 in
theorem c_X8_count (l : Launch) (D : va_G) (q : Nat → Nat) (cI cO : ClassId) (hq : cOk q) (a1 : Int32)  (I : Nat → Int32) (F : Nat → Nat → Int32) (post : Int32 → Prop) (h : w_X8_count a1 I F post) : Met l yX8_count wsX8_count ({ frames := 2, cells := 0, slots := 0, locals := 43 } : Room) (gPre D (cTys cI cO) (cW q cI cO I F) (cEnv q) [.ref (q 0), .int a1]) (va_Qi (fun r (_ : Unit) => post r) (gB D (fun _ : Unit => cW q cI cO I F)) (cA q)) 0 0 (cA q) := by
  refine gMetI (by decide) rfl (Nat.le_of_ble_eq_true rfl) ?_
  intro p e R s m args below meth c Q ls hR hx hb hml hown hts hK hE hP hl hret
  have hRf : 2 ≤ R.frames := by subst hR; exact Nat.le_refl _
  have hRl : 43 ≤ R.locals := by subst hR; exact Nat.le_refl _
  have hown : s.vm.findClass RX8 = some m.cls := hown
  have hl : lv_has ls 2 [(0, .ref (q 0)), (1, .int a1)] := hl
  have hS : va_S (cA q) s.heap s.heap [] := va_S.rf
  have hP : va_P D vwCl (cW q cI cO I F) s.heap := hP
  refine lv_iload_n hx hb dX8_count_0 rfl (lv_at hl 1 rfl) ?_
  by_cases c1_0 : a1 = (0 : Int32)
  · have h := h.1 c1_0
    refine lv_tableIn (tgt := 44) (off := 43) hx hb dX8_count_1 (by rw [c1_0]; decide) (by rw [c1_0]; decide) (by rw [c1_0]; rfl) (by decide) ?_
    refine lv_aload_n hx hb dX8_count_44 rfl (lv_at hl 0 rfl) ?_
    refine va_get (D := D) (ci := 8) (v := .ref (q 4)) (C := RX8) (T := TX8) (N := 11) hx hb hts (fun _ h9 => List.mem_cons_of_mem _ (List.mem_append_left _ (List.mem_append_left _ (List.mem_append_left _ (List.mem_append_right _ h9))))) hown hK hP 0 cAt0 rfl 2 (by decide) (hts _ (List.mem_of_getElem? (l := wsX8_count) (i := 1) rfl)) (fun _ h9 => h9) rfl dX8_count_45 ?_
    refine va_getN (D := D) (ci := 2) (v := .int (I 8)) (C := RX2) (T := TX2) (N := 4) hx hb hts (fun _ h9 => List.mem_cons_of_mem _ (List.mem_append_left _ (List.mem_append_left _ (List.mem_append_right _ h9)))) hown hK hP 4 cAt4 rfl 1 (by decide) (va_Nw.use rfl (hE.1.1 _ (List.mem_of_getElem? (l := cNF) (i := 6) rfl))) (fun _ h9 => h9) rfl dX8_count_48 ?_
    exact hret (I 8) () _ _ _ _ dX8_count_51 hP hS h
  by_cases c1_1 : a1 = (1 : Int32)
  · have h := h.2.1 c1_1
    refine lv_tableIn (tgt := 52) (off := 51) hx hb dX8_count_1 (by rw [c1_1]; decide) (by rw [c1_1]; decide) (by rw [c1_1]; rfl) (by decide) ?_
    refine lv_aload_n hx hb dX8_count_52 rfl (lv_at hl 0 rfl) ?_
    refine va_get (D := D) (ci := 8) (v := .ref (q 4)) (C := RX8) (T := TX8) (N := 11) hx hb hts (fun _ h9 => List.mem_cons_of_mem _ (List.mem_append_left _ (List.mem_append_left _ (List.mem_append_left _ (List.mem_append_right _ h9))))) hown hK hP 0 cAt0 rfl 2 (by decide) (hts _ (List.mem_of_getElem? (l := wsX8_count) (i := 1) rfl)) (fun _ h9 => h9) rfl dX8_count_53 ?_
    refine va_getN (D := D) (ci := 2) (v := .int (I 8)) (C := RX2) (T := TX2) (N := 4) hx hb hts (fun _ h9 => List.mem_cons_of_mem _ (List.mem_append_left _ (List.mem_append_left _ (List.mem_append_right _ h9)))) hown hK hP 4 cAt4 rfl 1 (by decide) (va_Nw.use rfl (hE.1.1 _ (List.mem_of_getElem? (l := cNF) (i := 6) rfl))) (fun _ h9 => h9) rfl dX8_count_56 ?_
    refine lv_if_ne (tgt := 66) hx hb dX8_count_59 (by decide) (fun c2 => ?_) (fun c2 => ?_)
    · have h := h.1 c2
      refine lv_aload_n hx hb dX8_count_66 rfl (lv_at hl 0 rfl) ?_
      refine va_get (D := D) (ci := 8) (v := .ref (q 4)) (C := RX8) (T := TX8) (N := 11) hx hb hts (fun _ h9 => List.mem_cons_of_mem _ (List.mem_append_left _ (List.mem_append_left _ (List.mem_append_left _ (List.mem_append_right _ h9))))) hown hK hP 0 cAt0 rfl 2 (by decide) (hts _ (List.mem_of_getElem? (l := wsX8_count) (i := 1) rfl)) (fun _ h9 => h9) rfl dX8_count_67 ?_
      refine va_getN (D := D) (ci := 2) (v := .int (I 7)) (C := RX2) (T := TX2) (N := 4) hx hb hts (fun _ h9 => List.mem_cons_of_mem _ (List.mem_append_left _ (List.mem_append_left _ (List.mem_append_right _ h9)))) hown hK hP 4 cAt4 rfl 0 (by decide) (va_Nw.use rfl (hE.1.1 _ (List.mem_of_getElem? (l := cNF) (i := 4) rfl))) (fun _ h9 => h9) rfl dX8_count_70 ?_
      refine gCallI (D := D) (va_runS (As := [.int (I 7)]) (rest := []) ⟨hx, hb, hml, hown, hts⟩ (c_X7_numberOf l D q cI cO hq (I 7)  I F _ h) (va_cwS 1 hts gX8_count_X7_numberOf rfl rfl rfl (by decide +kernel) ⟨Nat.le_trans (Nat.le_of_ble_eq_true rfl) hRf, Nat.le_trans (Nat.le_of_ble_eq_true rfl) hRl⟩) (gPreS cEok hE hK hP hS) rfl rfl hl.1 rfl (lv_room (Nat.le_of_ble_eq_true rfl)) dX8_count_73 ⟨Nat.zero_le _, Nat.zero_le _⟩) hS (fun r3 _ H locs hP hS h => ?_)
      have hP : va_P D vwCl (cW q cI cO I F) H := hP
      exact hret r3 () _ _ _ _ dX8_count_76 hP hS h
    · have h := h.2 c2
      refine lv_iconst (v := (-1 : Int32)) hx hb dX8_count_62 (by decide) ?_
      refine lv_goto (tgt := 76) hx hb dX8_count_63 (by decide) ?_
      exact hret (-1 : Int32) () _ _ _ _ dX8_count_76 hP hS h
  by_cases c1_2 : a1 = (2 : Int32)
  · have h := h.2.2.1 c1_2
    refine lv_tableIn (tgt := 77) (off := 76) hx hb dX8_count_1 (by rw [c1_2]; decide) (by rw [c1_2]; decide) (by rw [c1_2]; rfl) (by decide) ?_
    refine lv_aload_n hx hb dX8_count_77 rfl (lv_at hl 0 rfl) ?_
    refine va_get (D := D) (ci := 8) (v := .ref (q 4)) (C := RX8) (T := TX8) (N := 11) hx hb hts (fun _ h9 => List.mem_cons_of_mem _ (List.mem_append_left _ (List.mem_append_left _ (List.mem_append_left _ (List.mem_append_right _ h9))))) hown hK hP 0 cAt0 rfl 2 (by decide) (hts _ (List.mem_of_getElem? (l := wsX8_count) (i := 1) rfl)) (fun _ h9 => h9) rfl dX8_count_78 ?_
    refine gCallI (D := D) (va_runV (As := []) (rest := []) ⟨hx, hb, hml, hown, hts⟩ (c_X2_tonesOfAll_4 l D q cI cO hq   I F _ h) (cwV 0 hts gX8_count_X2_tonesOfAll rfl rfl rfl (by decide +kernel) ⟨Nat.le_trans (Nat.le_of_ble_eq_true rfl) hRf, Nat.le_trans (Nat.le_of_ble_eq_true rfl) hRl⟩) (gPreV (ci := 2) (q0 := 4) cEok hE hK hP hS rfl cAt4) rfl rfl hl.1 rfl (lv_room (Nat.le_of_ble_eq_true rfl)) dX8_count_81 ⟨Nat.zero_le _, Nat.zero_le _⟩) hS (fun r4 _ H locs hP hS h => ?_)
    have hP : va_P D vwCl (cW q cI cO I F) H := hP
    refine gCallI (D := D) (va_runS (As := [.int r4]) (rest := []) ⟨hx, hb, hml, hown, hts⟩ (c_J6_bitCount_0f7a4 l D q cI cO hq r4  I F _ h) (va_cwS 1 hts gX8_count_J6_bitCount_0f7a4 rfl rfl rfl (by decide +kernel) ⟨Nat.le_trans (Nat.le_of_ble_eq_true rfl) hRf, Nat.le_trans (Nat.le_of_ble_eq_true rfl) hRl⟩) (gPreS cEok hE hK hP hS) rfl rfl hl.1 rfl (lv_room (Nat.le_of_ble_eq_true rfl)) dX8_count_84 ⟨Nat.zero_le _, Nat.zero_le _⟩) hS (fun r5 _ H locs hP hS h => ?_)
    have hP : va_P D vwCl (cW q cI cO I F) H := hP
    exact hret r5 () _ _ _ _ dX8_count_87 hP hS h
  by_cases c1_3 : a1 = (3 : Int32)
  · have h := h.2.2.2.1 c1_3
    refine lv_tableIn (tgt := 88) (off := 87) hx hb dX8_count_1 (by rw [c1_3]; decide) (by rw [c1_3]; decide) (by rw [c1_3]; rfl) (by decide) ?_
    refine lv_aload_n hx hb dX8_count_88 rfl (lv_at hl 0 rfl) ?_
    refine va_get (D := D) (ci := 8) (v := .ref (q 6)) (C := RX8) (T := TX8) (N := 11) hx hb hts (fun _ h9 => List.mem_cons_of_mem _ (List.mem_append_left _ (List.mem_append_left _ (List.mem_append_left _ (List.mem_append_right _ h9))))) hown hK hP 0 cAt0 rfl 4 (by decide) (hts _ (List.mem_of_getElem? (l := wsX8_count) (i := 2) rfl)) (fun _ h9 => h9) rfl dX8_count_89 ?_
    refine va_getN (D := D) (ci := 6) (v := .int (I 11)) (C := RX6) (T := TX6) (N := 3) hx hb hts (fun _ h9 => List.mem_cons_of_mem _ (List.mem_append_left _ (List.mem_append_right _ h9))) hown hK hP 6 cAt6 rfl 0 (by decide) (va_Nw.use rfl (hE.1.1 _ (List.mem_of_getElem? (l := cNF) (i := 13) rfl))) (fun _ h9 => h9) rfl dX8_count_92 ?_
    exact hret (I 11) () _ _ _ _ dX8_count_95 hP hS h
  by_cases c1_4 : a1 = (4 : Int32)
  · have h := h.2.2.2.2.1 c1_4
    refine lv_tableIn (tgt := 96) (off := 95) hx hb dX8_count_1 (by rw [c1_4]; decide) (by rw [c1_4]; decide) (by rw [c1_4]; rfl) (by decide) ?_
    refine lv_aload_n hx hb dX8_count_96 rfl (lv_at hl 0 rfl) ?_
    refine va_get (D := D) (ci := 8) (v := .ref (q 1)) (C := RX8) (T := TX8) (N := 11) hx hb hts (fun _ h9 => List.mem_cons_of_mem _ (List.mem_append_left _ (List.mem_append_left _ (List.mem_append_left _ (List.mem_append_right _ h9))))) hown hK hP 0 cAt0 rfl 0 (by decide) (hts _ (List.mem_of_getElem? (l := wsX8_count) (i := 3) rfl)) (fun _ h9 => h9) rfl dX8_count_97 ?_
    refine va_getN (D := D) (ci := 1) (v := .int (I 2)) (C := RX1) (T := TX1) (N := 2) hx hb hts (fun _ h9 => List.mem_cons_of_mem _ (List.mem_append_right _ h9)) hown hK hP 1 cAt1 rfl 1 (by decide) (va_Nw.use rfl (hE.1.1 _ (List.mem_of_getElem? (l := cNF) (i := 1) rfl))) (fun _ h9 => h9) rfl dX8_count_100 ?_
    exact hret (I 2) () _ _ _ _ dX8_count_103 hP hS h
  by_cases c1_5 : a1 = (5 : Int32)
  · have h := h.2.2.2.2.2.1 c1_5
    refine lv_tableIn (tgt := 104) (off := 103) hx hb dX8_count_1 (by rw [c1_5]; decide) (by rw [c1_5]; decide) (by rw [c1_5]; rfl) (by decide) ?_
    refine lv_aload_n hx hb dX8_count_104 rfl (lv_at hl 0 rfl) ?_
    refine va_get (D := D) (ci := 8) (v := .int (I 0)) (C := RX8) (T := TX8) (N := 11) hx hb hts (fun _ h9 => List.mem_cons_of_mem _ (List.mem_append_left _ (List.mem_append_left _ (List.mem_append_left _ (List.mem_append_right _ h9))))) hown hK hP 0 cAt0 rfl 9 (by decide) (hts _ (List.mem_of_getElem? (l := wsX8_count) (i := 4) rfl)) (fun _ h9 => h9) rfl dX8_count_105 ?_
    exact hret (I 0) () _ _ _ _ dX8_count_108 hP hS h
  by_cases c1_6 : a1 = (6 : Int32)
  · have h := h.2.2.2.2.2.2.1 c1_6
    refine lv_tableIn (tgt := 109) (off := 108) hx hb dX8_count_1 (by rw [c1_6]; decide) (by rw [c1_6]; decide) (by rw [c1_6]; rfl) (by decide) ?_
    refine lv_aload_n hx hb dX8_count_109 rfl (lv_at hl 0 rfl) ?_
    refine va_get (D := D) (ci := 8) (v := .int (I 1)) (C := RX8) (T := TX8) (N := 11) hx hb hts (fun _ h9 => List.mem_cons_of_mem _ (List.mem_append_left _ (List.mem_append_left _ (List.mem_append_left _ (List.mem_append_right _ h9))))) hown hK hP 0 cAt0 rfl 10 (by decide) (hts _ (List.mem_of_getElem? (l := wsX8_count) (i := 5) rfl)) (fun _ h9 => h9) rfl dX8_count_110 ?_
    exact hret (I 1) () _ _ _ _ dX8_count_113 hP hS h
  have h := h.2.2.2.2.2.2.2 c1_0 c1_1 c1_2 c1_3 c1_4 c1_5 c1_6
  have tc1_0 := lv_neT (a := 0) c1_0 rfl
  have tc1_1 := lv_neT (a := 1) c1_1 rfl
  have tc1_2 := lv_neT (a := 2) c1_2 rfl
  have tc1_3 := lv_neT (a := 3) c1_3 rfl
  have tc1_4 := lv_neT (a := 4) c1_4 rfl
  have tc1_5 := lv_neT (a := 5) c1_5 rfl
  have tc1_6 := lv_neT (a := 6) c1_6 rfl
  refine lv_tableOut (tgt := 114) hx hb dX8_count_1 (by omega) (by decide) ?_
  refine lv_bipush (v := (-102 : Int32)) hx hb dX8_count_114 (by decide) ?_
  exact hret (-102 : Int32) () _ _ _ _ dX8_count_116 hP hS h
def w_X8_digest_B168 (I : Nat → Int32) (F : Nat → Nat → Int32) (k again : Int64 → Int32 → Prop) (x1 : Int64) (x3 : Int32) : Prop :=
  (((7 : Int32) ≤ x3 → k x1 x3) ∧ (¬ (7 : Int32) ≤ x3 → w_X8_count x3 I F (fun (r2 : Int32) => ∀ v3 : Int64, v3 = (((31 : Int64) * x1) + ((r2).toInt64)) → again v3 (x3 + (1 : Int32)))))
def w_X8_digest_B132 (I : Nat → Int32) (F : Nat → Nat → Int32) (k again : Int64 → Int32 → Prop) (x1 : Int64) (x3 : Int32) : Prop :=
  (((I 2) ≤ x3 → k x1 x3) ∧ (¬ (I 2) ≤ x3 → vp_in x3 56 ∧ ∀ v5 : Int64, v5 = (((31 : Int64) * x1) + (((F 14 (x3).toNatClampNeg)).toInt64)) → again v5 (x3 + (1 : Int32))))
def w_X8_digest_J130 (x1 : Int64) (I : Nat → Int32) (F : Nat → Nat → Int32) (post : Int64 → (Nat → Int32) → (Nat → Nat → Int32) → Prop) : Prop :=
  gL (fun ag v => w_X8_digest_B132 I F (fun (y6 : Int64) (y7 : Int32) => gL (fun ag v => w_X8_digest_B168 I F (fun (y8 : Int64) (y9 : Int32) => post y8 I F) (fun b0 b1 => ag (b0, b1)) v.1 v.2) (y6, (0 : Int32))) (fun b0 b1 => ag (b0, b1)) v.1 v.2) (x1, (0 : Int32))
def w_X8_digest_B106  (k again : Int64 → Int32 → (Nat → Int32) → (Nat → Nat → Int32) → Prop) (x1 : Int64) (x3 : Int32) (I : Nat → Int32) (F : Nat → Nat → Int32) : Prop :=
  (((3 : Int32) ≤ x3 → k x1 x3 I F) ∧ (¬ (3 : Int32) ≤ x3 → w_X8_plan x3 I F (fun (r11 : Int32) (I12 : Nat → Int32) (F13 : Nat → Nat → Int32) => ∀ v14 : Int64, v14 = (((31 : Int64) * x1) + ((r11).toInt64)) → again v14 (x3 + (1 : Int32)) I12 F13)))
def w_X8_digest_B20 (x3 : Int32) (I : Nat → Int32) (F : Nat → Nat → Int32) (k again : Int64 → Int32 → Prop) (x1 : Int64) (x4 : Int32) : Prop :=
  (((6 : Int32) ≤ x4 → k x1 x4) ∧ (¬ (6 : Int32) ≤ x4 → w_X8_chord x3 x4 I F (fun (r16 : Int32) => ∀ v17 : Int64, v17 = (((31 : Int64) * x1) + ((r16).toInt64)) → again v17 (x4 + (1 : Int32)))))
def w_X8_digest_B6  (k again : Int64 → Int32 → (Nat → Int32) → (Nat → Nat → Int32) → Prop) (x1 : Int64) (x3 : Int32) (I : Nat → Int32) (F : Nat → Nat → Int32) : Prop :=
  (((I 8) ≤ x3 → k x1 x3 I F) ∧ (¬ (I 8) ≤ x3 → gL (fun ag v => w_X8_digest_B20 x3 I F (fun (y19 : Int64) (y20 : Int32) => w_X3_bestSetting_9_4 x3 I F (fun (r21 : Int32) (I22 : Nat → Int32) (F23 : Nat → Nat → Int32) => ∀ v24 : Int64, v24 = (((31 : Int64) * y19) + ((r21).toInt64)) → w_X3_howManyReached_9_4 x3 I22 F23 (fun (r25 : Int32) (I26 : Nat → Int32) (F27 : Nat → Nat → Int32) => ∀ v28 : Int64, v28 = (((31 : Int64) * v24) + ((r25).toInt64)) → again v28 (x3 + (1 : Int32)) I26 F27))) (fun b0 b1 => ag (b0, b1)) v.1 v.2) (x1, (0 : Int32))))
def w_X8_digest  (I : Nat → Int32) (F : Nat → Nat → Int32) (post : Int64 → (Nat → Int32) → (Nat → Nat → Int32) → Prop) : Prop :=
  gL (fun ag v => w_X8_digest_B6  (fun (y29 : Int64) (y30 : Int32) (I31 : Nat → Int32) (F32 : Nat → Nat → Int32) => (((I31 8) ≤ 0 → w_X8_digest_J130 y29 I31 F32 post) ∧ (¬ (I31 8) ≤ 0 → gL (fun ag v => w_X8_digest_B106  (fun (y34 : Int64) (y35 : Int32) (I36 : Nat → Int32) (F37 : Nat → Nat → Int32) => w_X8_digest_J130 y34 I36 F37 post) (fun b0 b1 b2 b3 => ag (b0, b1, b2, b3)) v.1 v.2.1 v.2.2.1 v.2.2.2) (y29, (0 : Int32), I31, F32)))) (fun b0 b1 b2 b3 => ag (b0, b1, b2, b3)) v.1 v.2.1 v.2.2.1 v.2.2.2) ((1423 : Int64), (0 : Int32), I, F)
set_option maxHeartbeats 4000000 in
set_option maxRecDepth 100000 in
theorem c_X8_digest (l : Launch) (D : va_G) (q : Nat → Nat) (cI cO : ClassId) (hq : cOk q)   (I : Nat → Int32) (F : Nat → Nat → Int32) (post : Int64 → (Nat → Int32) → (Nat → Nat → Int32) → Prop) (h : w_X8_digest  I F post) : Met l yX8_digest wsX8_digest ({ frames := 6, cells := 0, slots := 0, locals := 150 } : Room) (gPre D (cTys cI cO) (cW q cI cO I F) (cEnv q) [.ref (q 0)]) (va_Ql (fun r (u : cS) => post r u.1 u.2) (gB D (fun u : cS => cW q cI cO u.1 u.2)) (cA q)) 0 0 (cA q) := by
  refine gMetL (by decide) rfl (Nat.le_of_ble_eq_true rfl) ?_
  intro p e R s m args below meth c Q ls hR hx hb hml hown hts hK hE hP hl hret
  have hRf : 6 ≤ R.frames := by subst hR; exact Nat.le_refl _
  have hRl : 150 ≤ R.locals := by subst hR; exact Nat.le_refl _
  have hown : s.vm.findClass RX8 = some m.cls := hown
  have hl : lv_has ls 5 [(0, .ref (q 0))] := hl
  have hS : va_S (cA q) s.heap s.heap [] := va_S.rf
  have hP : va_P D vwCl (cW q cI cO I F) s.heap := hP
  have L168 : ∀ (n : Nat) (I : Nat → Int32) (F : Nat → Nat → Int32) (k : Int64 → Int32 → Prop) (x1 : Int64) (x3 : Int32) (H : Heap) (locs : List Loc) (ls : Array Slot), va_P D vwCl (cW q cI cO I F) H → va_S (cA q) s.heap H locs → lv_has ls 5 [(0, .ref (q 0)), (1, .long x1), (3, .int x3)] → gLN (fun ag v => w_X8_digest_B168 I F k (fun b0 b1 => ag (b0, b1)) v.1 v.2) n (x1, x3) → (∀ (x1 : Int64) (x3 : Int32) (H : Heap) (locs : List Loc) (ls : Array Slot), va_P D vwCl (cW q cI cO I F) H → va_S (cA q) s.heap H locs → lv_has ls 5 [(1, .long x1)] → k x1 x3 → W p l e R s m args below meth c H locs 0 0 Q (F0 m 193 ls [])) → W p l e R s m args below meth c H locs 0 0 Q (F0 m 168 ls []) := by
    intro n
    induction n with
    | zero =>
      intro I F k x1 x3 H locs ls  hP hS hl h K
      exact False.elim h
    | succ n ih =>
      intro I F k x1 x3 H locs ls  hP hS hl h K
      have h : w_X8_digest_B168 I F k (fun b0 b1 => gLN (fun ag v => w_X8_digest_B168 I F k (fun b0 b1 => ag (b0, b1)) v.1 v.2) n (b0, b1)) x1 x3 := h
      refine lv_iload_n hx hb dX8_digest_168 rfl (lv_at hl 2 rfl) ?_
      refine lv_bipush (v := (7 : Int32)) hx hb dX8_digest_169 (by decide) ?_
      refine lv_icmp_ge (tgt := 193) hx hb dX8_digest_171 (by decide) (fun c1 => ?_) (fun c1 => ?_)
      · have h := h.1 c1
        exact K x1 x3 _ _ _  hP hS (lv_sub hl [1] rfl) h
      · have h := h.2 c1
        refine lv_ldc2 (v := (31 : Int64)) hx hb hown (hts _ (List.mem_of_getElem? (l := wsX8_digest) (i := 3) rfl)) dX8_digest_174 ?_
        refine lv_lload_n hx hb dX8_digest_177 rfl (lv_at hl 1 rfl) ?_
        refine lv_lmul hx hb dX8_digest_178 ?_
        refine lv_aload_n hx hb dX8_digest_179 rfl (lv_at hl 0 rfl) ?_
        refine lv_iload_n hx hb dX8_digest_180 rfl (lv_at hl 2 rfl) ?_
        refine gCallI (D := D) (va_runV (As := [.int x3]) (rest := [.long ((31 : Int64) * x1)]) ⟨hx, hb, hml, hown, hts⟩ (c_X8_count l D q cI cO hq x3  I F _ h) (cwV 1 hts gX8_digest_X8_count rfl rfl rfl (by decide +kernel) ⟨Nat.le_trans (Nat.le_of_ble_eq_true rfl) hRf, Nat.le_trans (Nat.le_of_ble_eq_true rfl) hRl⟩) (gPreV (ci := 8) (q0 := 0) cEok hE hK hP hS rfl cAt0) rfl rfl hl.1 rfl (lv_room (Nat.le_of_ble_eq_true rfl)) dX8_digest_181 ⟨Nat.zero_le _, Nat.zero_le _⟩) hS (fun r2 _ H locs hP hS h => ?_)
        have hP : va_P D vwCl (cW q cI cO I F) H := hP
        refine lv_i2l (v := (r2).toInt64) hx hb dX8_digest_184 rfl ?_
        refine lv_ladd hx hb dX8_digest_185 ?_
        refine lv_topl (fun v3 ev3 => ?_)
        have h := h v3 ev3
        refine lv_lstore_n (lv' := [(1, .long v3), (0, .ref (q 0)), (3, .int x3)]) hx hb dX8_digest_186 rfl hl (by decide) rfl (fun ls hl => ?_)
        refine lv_iinc (v := (x3 + (1 : Int32))) (lv' := [(3, .int (x3 + (1 : Int32))), (1, .long v3), (0, .ref (q 0))]) hx hb dX8_digest_187 hl (k := 2) rfl rfl (by decide) rfl (fun ls hl => ?_)
        refine lv_goto (tgt := 168) hx hb dX8_digest_190 (by decide) ?_
        exact ih I F _ v3 (x3 + (1 : Int32)) _ _ _  hP hS (lv_sub hl [2, 1, 0] rfl) h K
  have L132 : ∀ (n : Nat) (I : Nat → Int32) (F : Nat → Nat → Int32) (k : Int64 → Int32 → Prop) (x1 : Int64) (x3 : Int32) (H : Heap) (locs : List Loc) (ls : Array Slot), va_P D vwCl (cW q cI cO I F) H → va_S (cA q) s.heap H locs → lv_has ls 5 [(0, .ref (q 0)), (1, .long x1), (3, .int x3)] → gLN (fun ag v => w_X8_digest_B132 I F k (fun b0 b1 => ag (b0, b1)) v.1 v.2) n (x1, x3) → (∀ (x1 : Int64) (x3 : Int32) (H : Heap) (locs : List Loc) (ls : Array Slot), va_P D vwCl (cW q cI cO I F) H → va_S (cA q) s.heap H locs → lv_has ls 5 [(0, .ref (q 0)), (1, .long x1)] → k x1 x3 → W p l e R s m args below meth c H locs 0 0 Q (F0 m 166 ls [])) → W p l e R s m args below meth c H locs 0 0 Q (F0 m 132 ls []) := by
    intro n
    induction n with
    | zero =>
      intro I F k x1 x3 H locs ls  hP hS hl h K
      exact False.elim h
    | succ n ih =>
      intro I F k x1 x3 H locs ls  hP hS hl h K
      have h : w_X8_digest_B132 I F k (fun b0 b1 => gLN (fun ag v => w_X8_digest_B132 I F k (fun b0 b1 => ag (b0, b1)) v.1 v.2) n (b0, b1)) x1 x3 := h
      refine lv_iload_n hx hb dX8_digest_132 rfl (lv_at hl 2 rfl) ?_
      refine lv_aload_n hx hb dX8_digest_133 rfl (lv_at hl 0 rfl) ?_
      refine va_get (D := D) (ci := 8) (v := .ref (q 1)) (C := RX8) (T := TX8) (N := 11) hx hb hts (fun _ h9 => List.mem_cons_of_mem _ (List.mem_append_left _ (List.mem_append_left _ (List.mem_append_left _ (List.mem_append_left _ (List.mem_append_left _ (List.mem_append_left _ (List.mem_append_right _ h9)))))))) hown hK hP 0 cAt0 rfl 0 (by decide) (hts _ (List.mem_of_getElem? (l := wsX8_digest) (i := 5) rfl)) (fun _ h9 => h9) rfl dX8_digest_134 ?_
      refine va_getN (D := D) (ci := 1) (v := .int (I 2)) (C := RX1) (T := TX1) (N := 2) hx hb hts (fun _ h9 => List.mem_cons_of_mem _ (List.mem_append_left _ (List.mem_append_left _ (List.mem_append_left _ (List.mem_append_left _ (List.mem_append_right _ h9)))))) hown hK hP 1 cAt1 rfl 1 (by decide) (va_Nw.use rfl (hE.1.1 _ (List.mem_of_getElem? (l := cNF) (i := 1) rfl))) (fun _ h9 => h9) rfl dX8_digest_137 ?_
      refine lv_icmp_ge (tgt := 166) hx hb dX8_digest_140 (by decide) (fun c4 => ?_) (fun c4 => ?_)
      · have h := h.1 c4
        exact K x1 x3 _ _ _  hP hS (lv_sub hl [0, 1] rfl) h
      · have h := h.2 c4
        refine lv_ldc2 (v := (31 : Int64)) hx hb hown (hts _ (List.mem_of_getElem? (l := wsX8_digest) (i := 3) rfl)) dX8_digest_143 ?_
        refine lv_lload_n hx hb dX8_digest_146 rfl (lv_at hl 1 rfl) ?_
        refine lv_lmul hx hb dX8_digest_147 ?_
        refine lv_aload_n hx hb dX8_digest_148 rfl (lv_at hl 0 rfl) ?_
        refine va_get (D := D) (ci := 8) (v := .ref (q 1)) (C := RX8) (T := TX8) (N := 11) hx hb hts (fun _ h9 => List.mem_cons_of_mem _ (List.mem_append_left _ (List.mem_append_left _ (List.mem_append_left _ (List.mem_append_left _ (List.mem_append_left _ (List.mem_append_left _ (List.mem_append_right _ h9)))))))) hown hK hP 0 cAt0 rfl 0 (by decide) (hts _ (List.mem_of_getElem? (l := wsX8_digest) (i := 5) rfl)) (fun _ h9 => h9) rfl dX8_digest_149 ?_
        refine va_getN (D := D) (ci := 1) (v := .ref (q 14)) (C := RX1) (T := TX1) (N := 2) hx hb hts (fun _ h9 => List.mem_cons_of_mem _ (List.mem_append_left _ (List.mem_append_left _ (List.mem_append_left _ (List.mem_append_left _ (List.mem_append_right _ h9)))))) hown hK hP 1 cAt1 rfl 0 (by decide) (va_Nw.use rfl (hE.1.1 _ (List.mem_of_getElem? (l := cNF) (i := 0) rfl))) (fun _ h9 => h9) rfl dX8_digest_152 ?_
        refine lv_iload_n hx hb dX8_digest_155 rfl (lv_at hl 2 rfl) ?_
        refine va_iald (D := D) hx hb hK hP 14 0 cAr14 rfl h.1 dX8_digest_156 ?_
        have h := h.2
        refine lv_i2l (v := ((F 14 (x3).toNatClampNeg)).toInt64) hx hb dX8_digest_157 rfl ?_
        refine lv_ladd hx hb dX8_digest_158 ?_
        refine lv_topl (fun v5 ev5 => ?_)
        have h := h v5 ev5
        refine lv_lstore_n (lv' := [(1, .long v5), (0, .ref (q 0)), (3, .int x3)]) hx hb dX8_digest_159 rfl hl (by decide) rfl (fun ls hl => ?_)
        refine lv_iinc (v := (x3 + (1 : Int32))) (lv' := [(3, .int (x3 + (1 : Int32))), (1, .long v5), (0, .ref (q 0))]) hx hb dX8_digest_160 hl (k := 2) rfl rfl (by decide) rfl (fun ls hl => ?_)
        refine lv_goto (tgt := 132) hx hb dX8_digest_163 (by decide) ?_
        exact ih I F _ v5 (x3 + (1 : Int32)) _ _ _  hP hS (lv_sub hl [2, 1, 0] rfl) h K
  have J130 : ∀ (x1 : Int64) (I : Nat → Int32) (F : Nat → Nat → Int32) (H : Heap) (locs : List Loc) (ls : Array Slot), va_P D vwCl (cW q cI cO I F) H → va_S (cA q) s.heap H locs → lv_has ls 5 [(0, .ref (q 0)), (1, .long x1)] → w_X8_digest_J130 x1 I F post → W p l e R s m args below meth c H locs 0 0 Q (F0 m 130 ls []) := by
    intro x1 I F H locs ls  hP hS hl h
    refine lv_iconst (v := (0 : Int32)) hx hb dX8_digest_130 (by decide) ?_
    refine lv_istore_n (lv' := [(3, .int (0 : Int32)), (0, .ref (q 0)), (1, .long x1)]) hx hb dX8_digest_131 rfl hl (by decide) rfl (fun ls hl => ?_)
    obtain ⟨n, h⟩ := h
    refine L132 n I F _ x1 (0 : Int32) _ _ _  hP hS (lv_sub hl [1, 2, 0] rfl) h (fun y6 y7 H locs ls  hP hS hl h => ?_)
    refine lv_iconst (v := (0 : Int32)) hx hb dX8_digest_166 (by decide) ?_
    refine lv_istore_n (lv' := [(3, .int (0 : Int32)), (0, .ref (q 0)), (1, .long y6)]) hx hb dX8_digest_167 rfl hl (by decide) rfl (fun ls hl => ?_)
    obtain ⟨n, h⟩ := h
    refine L168 n I F _ y6 (0 : Int32) _ _ _  hP hS (lv_sub hl [1, 2, 0] rfl) h (fun y8 y9 H locs ls  hP hS hl h => ?_)
    refine lv_lload_n hx hb dX8_digest_193 rfl (lv_at hl 0 rfl) ?_
    exact hret y8 (I, F) _ _ _ _ dX8_digest_194 hP hS h
  have L106 : ∀ (n : Nat)  (k : Int64 → Int32 → (Nat → Int32) → (Nat → Nat → Int32) → Prop) (x1 : Int64) (x3 : Int32) (I : Nat → Int32) (F : Nat → Nat → Int32) (H : Heap) (locs : List Loc) (ls : Array Slot), va_P D vwCl (cW q cI cO I F) H → va_S (cA q) s.heap H locs → lv_has ls 5 [(0, .ref (q 0)), (1, .long x1), (3, .int x3)] → gLN (fun ag v => w_X8_digest_B106  k (fun b0 b1 b2 b3 => ag (b0, b1, b2, b3)) v.1 v.2.1 v.2.2.1 v.2.2.2) n (x1, x3, I, F) → (∀ (x1 : Int64) (x3 : Int32) (I : Nat → Int32) (F : Nat → Nat → Int32) (H : Heap) (locs : List Loc) (ls : Array Slot), va_P D vwCl (cW q cI cO I F) H → va_S (cA q) s.heap H locs → lv_has ls 5 [(0, .ref (q 0)), (1, .long x1)] → k x1 x3 I F → W p l e R s m args below meth c H locs 0 0 Q (F0 m 130 ls [])) → W p l e R s m args below meth c H locs 0 0 Q (F0 m 106 ls []) := by
    intro n
    induction n with
    | zero =>
      intro  k x1 x3 I F H locs ls  hP hS hl h K
      exact False.elim h
    | succ n ih =>
      intro  k x1 x3 I F H locs ls  hP hS hl h K
      have h : w_X8_digest_B106  k (fun b0 b1 b2 b3 => gLN (fun ag v => w_X8_digest_B106  k (fun b0 b1 b2 b3 => ag (b0, b1, b2, b3)) v.1 v.2.1 v.2.2.1 v.2.2.2) n (b0, b1, b2, b3)) x1 x3 I F := h
      refine lv_iload_n hx hb dX8_digest_106 rfl (lv_at hl 2 rfl) ?_
      refine lv_iconst (v := (3 : Int32)) hx hb dX8_digest_107 (by decide) ?_
      refine lv_icmp_ge (tgt := 130) hx hb dX8_digest_108 (by decide) (fun c10 => ?_) (fun c10 => ?_)
      · have h := h.1 c10
        exact K x1 x3 I F _ _ _  hP hS (lv_sub hl [0, 1] rfl) h
      · have h := h.2 c10
        refine lv_ldc2 (v := (31 : Int64)) hx hb hown (hts _ (List.mem_of_getElem? (l := wsX8_digest) (i := 3) rfl)) dX8_digest_111 ?_
        refine lv_lload_n hx hb dX8_digest_114 rfl (lv_at hl 1 rfl) ?_
        refine lv_lmul hx hb dX8_digest_115 ?_
        refine lv_aload_n hx hb dX8_digest_116 rfl (lv_at hl 0 rfl) ?_
        refine lv_iload_n hx hb dX8_digest_117 rfl (lv_at hl 2 rfl) ?_
        refine gCallI (D := D) (va_runV (As := [.int x3]) (rest := [.long ((31 : Int64) * x1)]) ⟨hx, hb, hml, hown, hts⟩ (c_X8_plan l D q cI cO hq x3  I F _ h) (cwV 1 hts gX8_digest_X8_plan rfl rfl rfl (by decide +kernel) ⟨Nat.le_trans (Nat.le_of_ble_eq_true rfl) hRf, Nat.le_trans (Nat.le_of_ble_eq_true rfl) hRl⟩) (gPreV (ci := 8) (q0 := 0) cEok hE hK hP hS rfl cAt0) rfl rfl hl.1 rfl (lv_room (Nat.le_of_ble_eq_true rfl)) dX8_digest_118 ⟨Nat.zero_le _, Nat.zero_le _⟩) hS (fun r11 u H locs hP hS h => ?_)
        obtain ⟨I12, F13⟩ := u
        have hP : va_P D vwCl (cW q cI cO I12 F13) H := hP
        refine lv_i2l (v := (r11).toInt64) hx hb dX8_digest_121 rfl ?_
        refine lv_ladd hx hb dX8_digest_122 ?_
        refine lv_topl (fun v14 ev14 => ?_)
        have h := h v14 ev14
        refine lv_lstore_n (lv' := [(1, .long v14), (0, .ref (q 0)), (3, .int x3)]) hx hb dX8_digest_123 rfl hl (by decide) rfl (fun ls hl => ?_)
        refine lv_iinc (v := (x3 + (1 : Int32))) (lv' := [(3, .int (x3 + (1 : Int32))), (1, .long v14), (0, .ref (q 0))]) hx hb dX8_digest_124 hl (k := 2) rfl rfl (by decide) rfl (fun ls hl => ?_)
        refine lv_goto (tgt := 106) hx hb dX8_digest_127 (by decide) ?_
        exact ih  _ v14 (x3 + (1 : Int32)) I12 F13 _ _ _  hP hS (lv_sub hl [2, 1, 0] rfl) h K
  have L20 : ∀ (n : Nat) (x3 : Int32) (I : Nat → Int32) (F : Nat → Nat → Int32) (k : Int64 → Int32 → Prop) (x1 : Int64) (x4 : Int32) (H : Heap) (locs : List Loc) (ls : Array Slot), va_P D vwCl (cW q cI cO I F) H → va_S (cA q) s.heap H locs → lv_has ls 5 [(0, .ref (q 0)), (1, .long x1), (3, .int x3), (4, .int x4)] → gLN (fun ag v => w_X8_digest_B20 x3 I F k (fun b0 b1 => ag (b0, b1)) v.1 v.2) n (x1, x4) → (∀ (x1 : Int64) (x4 : Int32) (H : Heap) (locs : List Loc) (ls : Array Slot), va_P D vwCl (cW q cI cO I F) H → va_S (cA q) s.heap H locs → lv_has ls 5 [(0, .ref (q 0)), (1, .long x1), (3, .int x3)] → k x1 x4 → W p l e R s m args below meth c H locs 0 0 Q (F0 m 48 ls [])) → W p l e R s m args below meth c H locs 0 0 Q (F0 m 20 ls []) := by
    intro n
    induction n with
    | zero =>
      intro x3 I F k x1 x4 H locs ls  hP hS hl h K
      exact False.elim h
    | succ n ih =>
      intro x3 I F k x1 x4 H locs ls  hP hS hl h K
      have h : w_X8_digest_B20 x3 I F k (fun b0 b1 => gLN (fun ag v => w_X8_digest_B20 x3 I F k (fun b0 b1 => ag (b0, b1)) v.1 v.2) n (b0, b1)) x1 x4 := h
      refine lv_iload hx hb dX8_digest_20 (lv_at hl 3 rfl) ?_
      refine lv_bipush (v := (6 : Int32)) hx hb dX8_digest_22 (by decide) ?_
      refine lv_icmp_ge (tgt := 48) hx hb dX8_digest_24 (by decide) (fun c15 => ?_) (fun c15 => ?_)
      · have h := h.1 c15
        exact K x1 x4 _ _ _  hP hS (lv_sub hl [0, 1, 2] rfl) h
      · have h := h.2 c15
        refine lv_ldc2 (v := (31 : Int64)) hx hb hown (hts _ (List.mem_of_getElem? (l := wsX8_digest) (i := 3) rfl)) dX8_digest_27 ?_
        refine lv_lload_n hx hb dX8_digest_30 rfl (lv_at hl 1 rfl) ?_
        refine lv_lmul hx hb dX8_digest_31 ?_
        refine lv_aload_n hx hb dX8_digest_32 rfl (lv_at hl 0 rfl) ?_
        refine lv_iload_n hx hb dX8_digest_33 rfl (lv_at hl 2 rfl) ?_
        refine lv_iload hx hb dX8_digest_34 (lv_at hl 3 rfl) ?_
        refine gCallI (D := D) (va_runV (As := [.int x3, .int x4]) (rest := [.long ((31 : Int64) * x1)]) ⟨hx, hb, hml, hown, hts⟩ (c_X8_chord l D q cI cO hq x3 x4  I F _ h) (cwV 2 hts gX8_digest_X8_chord rfl rfl rfl (by decide +kernel) ⟨Nat.le_trans (Nat.le_of_ble_eq_true rfl) hRf, Nat.le_trans (Nat.le_of_ble_eq_true rfl) hRl⟩) (gPreV (ci := 8) (q0 := 0) cEok hE hK hP hS rfl cAt0) rfl rfl hl.1 rfl (lv_room (Nat.le_of_ble_eq_true rfl)) dX8_digest_36 ⟨Nat.zero_le _, Nat.zero_le _⟩) hS (fun r16 _ H locs hP hS h => ?_)
        have hP : va_P D vwCl (cW q cI cO I F) H := hP
        refine lv_i2l (v := (r16).toInt64) hx hb dX8_digest_39 rfl ?_
        refine lv_ladd hx hb dX8_digest_40 ?_
        refine lv_topl (fun v17 ev17 => ?_)
        have h := h v17 ev17
        refine lv_lstore_n (lv' := [(1, .long v17), (0, .ref (q 0)), (3, .int x3), (4, .int x4)]) hx hb dX8_digest_41 rfl hl (by decide) rfl (fun ls hl => ?_)
        refine lv_iinc (v := (x4 + (1 : Int32))) (lv' := [(4, .int (x4 + (1 : Int32))), (1, .long v17), (0, .ref (q 0)), (3, .int x3)]) hx hb dX8_digest_42 hl (k := 3) rfl rfl (by decide) rfl (fun ls hl => ?_)
        refine lv_goto (tgt := 20) hx hb dX8_digest_45 (by decide) ?_
        exact ih x3 I F _ v17 (x4 + (1 : Int32)) _ _ _  hP hS (lv_sub hl [2, 1, 3, 0] rfl) h K
  have L6 : ∀ (n : Nat)  (k : Int64 → Int32 → (Nat → Int32) → (Nat → Nat → Int32) → Prop) (x1 : Int64) (x3 : Int32) (I : Nat → Int32) (F : Nat → Nat → Int32) (H : Heap) (locs : List Loc) (ls : Array Slot), va_P D vwCl (cW q cI cO I F) H → va_S (cA q) s.heap H locs → lv_has ls 5 [(0, .ref (q 0)), (1, .long x1), (3, .int x3)] → gLN (fun ag v => w_X8_digest_B6  k (fun b0 b1 b2 b3 => ag (b0, b1, b2, b3)) v.1 v.2.1 v.2.2.1 v.2.2.2) n (x1, x3, I, F) → (∀ (x1 : Int64) (x3 : Int32) (I : Nat → Int32) (F : Nat → Nat → Int32) (H : Heap) (locs : List Loc) (ls : Array Slot), va_P D vwCl (cW q cI cO I F) H → va_S (cA q) s.heap H locs → lv_has ls 5 [(0, .ref (q 0)), (1, .long x1)] → k x1 x3 I F → W p l e R s m args below meth c H locs 0 0 Q (F0 m 94 ls [])) → W p l e R s m args below meth c H locs 0 0 Q (F0 m 6 ls []) := by
    intro n
    induction n with
    | zero =>
      intro  k x1 x3 I F H locs ls  hP hS hl h K
      exact False.elim h
    | succ n ih =>
      intro  k x1 x3 I F H locs ls  hP hS hl h K
      have h : w_X8_digest_B6  k (fun b0 b1 b2 b3 => gLN (fun ag v => w_X8_digest_B6  k (fun b0 b1 b2 b3 => ag (b0, b1, b2, b3)) v.1 v.2.1 v.2.2.1 v.2.2.2) n (b0, b1, b2, b3)) x1 x3 I F := h
      refine lv_iload_n hx hb dX8_digest_6 rfl (lv_at hl 2 rfl) ?_
      refine lv_aload_n hx hb dX8_digest_7 rfl (lv_at hl 0 rfl) ?_
      refine va_get (D := D) (ci := 8) (v := .ref (q 4)) (C := RX8) (T := TX8) (N := 11) hx hb hts (fun _ h9 => List.mem_cons_of_mem _ (List.mem_append_left _ (List.mem_append_left _ (List.mem_append_left _ (List.mem_append_left _ (List.mem_append_left _ (List.mem_append_left _ (List.mem_append_right _ h9)))))))) hown hK hP 0 cAt0 rfl 2 (by decide) (hts _ (List.mem_of_getElem? (l := wsX8_digest) (i := 2) rfl)) (fun _ h9 => h9) rfl dX8_digest_8 ?_
      refine va_getN (D := D) (ci := 2) (v := .int (I 8)) (C := RX2) (T := TX2) (N := 4) hx hb hts (fun _ h9 => List.mem_cons_of_mem _ (List.mem_append_left _ (List.mem_append_left _ (List.mem_append_left _ (List.mem_append_left _ (List.mem_append_left _ (List.mem_append_right _ h9))))))) hown hK hP 4 cAt4 rfl 1 (by decide) (va_Nw.use rfl (hE.1.1 _ (List.mem_of_getElem? (l := cNF) (i := 6) rfl))) (fun _ h9 => h9) rfl dX8_digest_11 ?_
      refine lv_icmp_ge (tgt := 94) hx hb dX8_digest_14 (by decide) (fun c18 => ?_) (fun c18 => ?_)
      · have h := h.1 c18
        exact K x1 x3 I F _ _ _  hP hS (lv_sub hl [0, 1] rfl) h
      · have h := h.2 c18
        refine lv_iconst (v := (0 : Int32)) hx hb dX8_digest_17 (by decide) ?_
        refine lv_istore (lv' := [(4, .int (0 : Int32)), (0, .ref (q 0)), (1, .long x1), (3, .int x3)]) hx hb dX8_digest_18 hl (by decide) rfl (fun ls hl => ?_)
        obtain ⟨n, h⟩ := h
        refine L20 n x3 I F _ x1 (0 : Int32) _ _ _  hP hS (lv_sub hl [1, 2, 3, 0] rfl) h (fun y19 y20 H locs ls  hP hS hl h => ?_)
        refine lv_ldc2 (v := (31 : Int64)) hx hb hown (hts _ (List.mem_of_getElem? (l := wsX8_digest) (i := 3) rfl)) dX8_digest_48 ?_
        refine lv_lload_n hx hb dX8_digest_51 rfl (lv_at hl 1 rfl) ?_
        refine lv_lmul hx hb dX8_digest_52 ?_
        refine lv_aload_n hx hb dX8_digest_53 rfl (lv_at hl 0 rfl) ?_
        refine va_get (D := D) (ci := 8) (v := .ref (q 9)) (C := RX8) (T := TX8) (N := 11) hx hb hts (fun _ h9 => List.mem_cons_of_mem _ (List.mem_append_left _ (List.mem_append_left _ (List.mem_append_left _ (List.mem_append_left _ (List.mem_append_left _ (List.mem_append_left _ (List.mem_append_right _ h9)))))))) hown hK hP 0 cAt0 rfl 7 (by decide) (hts _ (List.mem_of_getElem? (l := wsX8_digest) (i := 4) rfl)) (fun _ h9 => h9) rfl dX8_digest_54 ?_
        refine lv_aload_n hx hb dX8_digest_57 rfl (lv_at hl 0 rfl) ?_
        refine va_get (D := D) (ci := 8) (v := .ref (q 4)) (C := RX8) (T := TX8) (N := 11) hx hb hts (fun _ h9 => List.mem_cons_of_mem _ (List.mem_append_left _ (List.mem_append_left _ (List.mem_append_left _ (List.mem_append_left _ (List.mem_append_left _ (List.mem_append_left _ (List.mem_append_right _ h9)))))))) hown hK hP 0 cAt0 rfl 2 (by decide) (hts _ (List.mem_of_getElem? (l := wsX8_digest) (i := 2) rfl)) (fun _ h9 => h9) rfl dX8_digest_58 ?_
        refine lv_iload_n hx hb dX8_digest_61 rfl (lv_at hl 2 rfl) ?_
        refine gCallI (D := D) (va_runV (As := [.ref (q 4), .int x3]) (rest := [.long ((31 : Int64) * y19)]) ⟨hx, hb, hml, hown, hts⟩ (c_X3_bestSetting_9_4 l D q cI cO hq x3  I F _ h) (cwV 2 hts gX8_digest_X3_bestSetting rfl rfl rfl (by decide +kernel) ⟨Nat.le_trans (Nat.le_of_ble_eq_true rfl) hRf, Nat.le_trans (Nat.le_of_ble_eq_true rfl) hRl⟩) (gPreV (ci := 3) (q0 := 9) cEok hE hK hP hS rfl cAt9) rfl rfl hl.1 rfl (lv_room (Nat.le_of_ble_eq_true rfl)) dX8_digest_62 ⟨Nat.zero_le _, Nat.zero_le _⟩) hS (fun r21 u H locs hP hS h => ?_)
        obtain ⟨I22, F23⟩ := u
        have hP : va_P D vwCl (cW q cI cO I22 F23) H := hP
        refine lv_i2l (v := (r21).toInt64) hx hb dX8_digest_65 rfl ?_
        refine lv_ladd hx hb dX8_digest_66 ?_
        refine lv_topl (fun v24 ev24 => ?_)
        have h := h v24 ev24
        refine lv_lstore_n (lv' := [(1, .long v24), (0, .ref (q 0)), (3, .int x3)]) hx hb dX8_digest_67 rfl hl (by decide) rfl (fun ls hl => ?_)
        refine lv_ldc2 (v := (31 : Int64)) hx hb hown (hts _ (List.mem_of_getElem? (l := wsX8_digest) (i := 3) rfl)) dX8_digest_68 ?_
        refine lv_lload_n hx hb dX8_digest_71 rfl (lv_at hl 0 rfl) ?_
        refine lv_lmul hx hb dX8_digest_72 ?_
        refine lv_aload_n hx hb dX8_digest_73 rfl (lv_at hl 1 rfl) ?_
        refine va_get (D := D) (ci := 8) (v := .ref (q 9)) (C := RX8) (T := TX8) (N := 11) hx hb hts (fun _ h9 => List.mem_cons_of_mem _ (List.mem_append_left _ (List.mem_append_left _ (List.mem_append_left _ (List.mem_append_left _ (List.mem_append_left _ (List.mem_append_left _ (List.mem_append_right _ h9)))))))) hown hK hP 0 cAt0 rfl 7 (by decide) (hts _ (List.mem_of_getElem? (l := wsX8_digest) (i := 4) rfl)) (fun _ h9 => h9) rfl dX8_digest_74 ?_
        refine lv_aload_n hx hb dX8_digest_77 rfl (lv_at hl 1 rfl) ?_
        refine va_get (D := D) (ci := 8) (v := .ref (q 4)) (C := RX8) (T := TX8) (N := 11) hx hb hts (fun _ h9 => List.mem_cons_of_mem _ (List.mem_append_left _ (List.mem_append_left _ (List.mem_append_left _ (List.mem_append_left _ (List.mem_append_left _ (List.mem_append_left _ (List.mem_append_right _ h9)))))))) hown hK hP 0 cAt0 rfl 2 (by decide) (hts _ (List.mem_of_getElem? (l := wsX8_digest) (i := 2) rfl)) (fun _ h9 => h9) rfl dX8_digest_78 ?_
        refine lv_iload_n hx hb dX8_digest_81 rfl (lv_at hl 2 rfl) ?_
        refine gCallI (D := D) (va_runV (As := [.ref (q 4), .int x3]) (rest := [.long ((31 : Int64) * v24)]) ⟨hx, hb, hml, hown, hts⟩ (c_X3_howManyReached_9_4 l D q cI cO hq x3  I22 F23 _ h) (cwV 2 hts gX8_digest_X3_howManyReached rfl rfl rfl (by decide +kernel) ⟨Nat.le_trans (Nat.le_of_ble_eq_true rfl) hRf, Nat.le_trans (Nat.le_of_ble_eq_true rfl) hRl⟩) (gPreV (ci := 3) (q0 := 9) cEok hE hK hP hS rfl cAt9) rfl rfl hl.1 rfl (lv_room (Nat.le_of_ble_eq_true rfl)) dX8_digest_82 ⟨Nat.zero_le _, Nat.zero_le _⟩) hS (fun r25 u H locs hP hS h => ?_)
        obtain ⟨I26, F27⟩ := u
        have hP : va_P D vwCl (cW q cI cO I26 F27) H := hP
        refine lv_i2l (v := (r25).toInt64) hx hb dX8_digest_85 rfl ?_
        refine lv_ladd hx hb dX8_digest_86 ?_
        refine lv_topl (fun v28 ev28 => ?_)
        have h := h v28 ev28
        refine lv_lstore_n (lv' := [(1, .long v28), (0, .ref (q 0)), (3, .int x3)]) hx hb dX8_digest_87 rfl hl (by decide) rfl (fun ls hl => ?_)
        refine lv_iinc (v := (x3 + (1 : Int32))) (lv' := [(3, .int (x3 + (1 : Int32))), (1, .long v28), (0, .ref (q 0))]) hx hb dX8_digest_88 hl (k := 2) rfl rfl (by decide) rfl (fun ls hl => ?_)
        refine lv_goto (tgt := 6) hx hb dX8_digest_91 (by decide) ?_
        exact ih  _ v28 (x3 + (1 : Int32)) I26 F27 _ _ _  hP hS (lv_sub hl [2, 1, 0] rfl) h K
  refine lv_ldc2 (v := (1423 : Int64)) hx hb hown (hts _ (List.mem_of_getElem? (l := wsX8_digest) (i := 1) rfl)) dX8_digest_0 ?_
  refine lv_lstore_n (lv' := [(1, .long (1423 : Int64)), (0, .ref (q 0))]) hx hb dX8_digest_3 rfl hl (by decide) rfl (fun ls hl => ?_)
  refine lv_iconst (v := (0 : Int32)) hx hb dX8_digest_4 (by decide) ?_
  refine lv_istore_n (lv' := [(3, .int (0 : Int32)), (1, .long (1423 : Int64)), (0, .ref (q 0))]) hx hb dX8_digest_5 rfl hl (by decide) rfl (fun ls hl => ?_)
  obtain ⟨n, h⟩ := h
  refine L6 n  _ (1423 : Int64) (0 : Int32) I F _ _ _  hP hS (lv_sub hl [2, 1, 0] rfl) h (fun y29 y30 I31 F32 H locs ls  hP hS hl h => ?_)
  refine lv_aload_n hx hb dX8_digest_94 rfl (lv_at hl 0 rfl) ?_
  refine va_get (D := D) (ci := 8) (v := .ref (q 4)) (C := RX8) (T := TX8) (N := 11) hx hb hts (fun _ h9 => List.mem_cons_of_mem _ (List.mem_append_left _ (List.mem_append_left _ (List.mem_append_left _ (List.mem_append_left _ (List.mem_append_left _ (List.mem_append_left _ (List.mem_append_right _ h9)))))))) hown hK hP 0 cAt0 rfl 2 (by decide) (hts _ (List.mem_of_getElem? (l := wsX8_digest) (i := 2) rfl)) (fun _ h9 => h9) rfl dX8_digest_95 ?_
  refine va_getN (D := D) (ci := 2) (v := .int (I31 8)) (C := RX2) (T := TX2) (N := 4) hx hb hts (fun _ h9 => List.mem_cons_of_mem _ (List.mem_append_left _ (List.mem_append_left _ (List.mem_append_left _ (List.mem_append_left _ (List.mem_append_left _ (List.mem_append_right _ h9))))))) hown hK hP 4 cAt4 rfl 1 (by decide) (va_Nw.use rfl (hE.1.1 _ (List.mem_of_getElem? (l := cNF) (i := 6) rfl))) (fun _ h9 => h9) rfl dX8_digest_98 ?_
  refine lv_if_le (tgt := 130) hx hb dX8_digest_101 (by decide) (fun c33 => ?_) (fun c33 => ?_)
  · have h := h.1 c33
    exact J130 y29 I31 F32 _ _ _  hP hS (lv_sub hl [0, 1] rfl) h
  · have h := h.2 c33
    refine lv_iconst (v := (0 : Int32)) hx hb dX8_digest_104 (by decide) ?_
    refine lv_istore_n (lv' := [(3, .int (0 : Int32)), (0, .ref (q 0)), (1, .long y29)]) hx hb dX8_digest_105 rfl hl (by decide) rfl (fun ls hl => ?_)
    obtain ⟨n, h⟩ := h
    refine L106 n  _ y29 (0 : Int32) I31 F32 _ _ _  hP hS (lv_sub hl [1, 2, 0] rfl) h (fun y34 y35 I36 F37 H locs ls  hP hS hl h => ?_)
    exact J130 y34 I36 F37 _ _ _  hP hS (lv_sub hl [0, 1] rfl) h
