def w_X1_append_1 (a1 : Int32) (I : Nat → Int32) (F : Nat → Nat → Int32) (post : Int32 → (Nat → Int32) → (Nat → Nat → Int32) → Prop) : Prop :=
  (((I 2) < (56 : Int32) → vp_in (I 2) 56 ∧ ∀ F2 : Nat → Nat → Int32, F2 = upF F 14 (upd (F 14) ((I 2)).toNatClampNeg a1) → ∀ I3 : Nat → Int32, I3 = upd I 2 ((I 2) + (1 : Int32)) → post (1 : Int32) I3 F2) ∧ (¬ (I 2) < (56 : Int32) → post (0 : Int32) I F))
set_option maxHeartbeats 4000000 in
set_option maxRecDepth 100000 in
theorem c_X1_append_1 (l : Launch) (D : va_G) (q : Nat → Nat) (cI cO : ClassId) (hq : cOk q) (a1 : Int32)  (I : Nat → Int32) (F : Nat → Nat → Int32) (post : Int32 → (Nat → Int32) → (Nat → Nat → Int32) → Prop) (h : w_X1_append_1 a1 I F post) : Met l yX1_append wsX1_append ({ frames := 0, cells := 0, slots := 0, locals := 0 } : Room) (gPre D (cTys cI cO) (cW q cI cO I F) (cEnv q) [.ref (q 1), .int a1]) (va_Qi (fun r (u : cS) => post r u.1 u.2) (gB D (fun u : cS => cW q cI cO u.1 u.2)) (cA q)) 0 0 (cA q) := by
  refine gMetZ (by decide) rfl (Nat.le_of_ble_eq_true rfl) ?_
  intro p e R s m args below meth c Q ls hR hx hb hml hown hts hK hE hP hl hret
  have hRf : 0 ≤ R.frames := by subst hR; exact Nat.le_refl _
  have hRl : 0 ≤ R.locals := by subst hR; exact Nat.le_refl _
  have hown : s.vm.findClass RX1 = some m.cls := hown
  have hl : lv_has ls 2 [(0, .ref (q 1)), (1, .int a1)] := hl
  have hS : va_S (cA q) s.heap s.heap [] := va_S.rf
  have hP : va_P D vwCl (cW q cI cO I F) s.heap := hP
  refine lv_aload_n hx hb dX1_append_0 rfl (lv_at hl 0 rfl) ?_
  refine va_get (D := D) (ci := 1) (v := .int (I 2)) (C := RX1) (T := TX1) (N := 2) hx hb hts (fun _ h9 => List.mem_cons_of_mem _ (List.mem_append_right _ h9)) hown hK hP 1 cAt1 rfl 1 (by decide) (hts _ (List.mem_of_getElem? (l := wsX1_append) (i := 1) rfl)) (fun _ h9 => h9) rfl dX1_append_1 ?_
  refine lv_bipush (v := (56 : Int32)) hx hb dX1_append_4 (by decide) ?_
  refine lv_icmp_lt (tgt := 11) hx hb dX1_append_6 (by decide) (fun c1 => ?_) (fun c1 => ?_)
  · have h := h.1 c1
    refine lv_aload_n hx hb dX1_append_11 rfl (lv_at hl 0 rfl) ?_
    refine va_get (D := D) (ci := 1) (v := .ref (q 14)) (C := RX1) (T := TX1) (N := 2) hx hb hts (fun _ h9 => List.mem_cons_of_mem _ (List.mem_append_right _ h9)) hown hK hP 1 cAt1 rfl 0 (by decide) (hts _ (List.mem_of_getElem? (l := wsX1_append) (i := 2) rfl)) (fun _ h9 => h9) rfl dX1_append_12 ?_
    refine lv_aload_n hx hb dX1_append_15 rfl (lv_at hl 0 rfl) ?_
    refine va_get (D := D) (ci := 1) (v := .int (I 2)) (C := RX1) (T := TX1) (N := 2) hx hb hts (fun _ h9 => List.mem_cons_of_mem _ (List.mem_append_right _ h9)) hown hK hP 1 cAt1 rfl 1 (by decide) (hts _ (List.mem_of_getElem? (l := wsX1_append) (i := 1) rfl)) (fun _ h9 => h9) rfl dX1_append_16 ?_
    refine lv_iload_n hx hb dX1_append_19 rfl (lv_at hl 1 rfl) ?_
    refine gAst (D := D) hx hb hK hP (cD hq) hS 14 0 cAr14 rfl h.1 dX1_append_20 (cSA14 _) (fun H locs hP hS => ?_)
    obtain ⟨F2, eF2⟩ : ∃ z : Nat → Nat → Int32, z = upF F 14 (upd (F 14) ((I 2)).toNatClampNeg a1) := ⟨_, rfl⟩
    rw [← eF2] at hP
    have h := h.2 F2 eF2
    refine lv_aload_n hx hb dX1_append_21 rfl (lv_at hl 0 rfl) ?_
    refine lv_dup hx hb dX1_append_22 rfl ?_
    refine va_get (D := D) (ci := 1) (v := .int (I 2)) (C := RX1) (T := TX1) (N := 2) hx hb hts (fun _ h9 => List.mem_cons_of_mem _ (List.mem_append_right _ h9)) hown hK hP 1 cAt1 rfl 1 (by decide) (hts _ (List.mem_of_getElem? (l := wsX1_append) (i := 1) rfl)) (fun _ h9 => h9) rfl dX1_append_23 ?_
    refine lv_iconst (v := (1 : Int32)) hx hb dX1_append_26 (by decide) ?_
    refine lv_iadd hx hb dX1_append_27 ?_
    refine gPut (D := D) (ci := 1) (ty := .int) (C := RX1) (T := TX1) (N := 2) hx hb hts (fun _ h9 => List.mem_cons_of_mem _ (List.mem_append_right _ h9)) tyX1 tyX1_ok nmX1 hown hK hP (cD hq) hS 1 cAt1 rfl 1 (by decide) (hts _ (List.mem_of_getElem? (l := wsX1_append) (i := 1) rfl)) (fun _ h9 => h9) rfl (by decide +kernel) rfl rfl (Nat.le_of_ble_eq_true rfl) dX1_append_28 (cSet2 ((I 2) + (1 : Int32))) (fun H locs hP hS => ?_)
    obtain ⟨I3, eI3⟩ : ∃ z : Nat → Int32, z = upd I 2 ((I 2) + (1 : Int32)) := ⟨_, rfl⟩
    rw [← eI3] at hP
    have h := h I3 eI3
    refine lv_iconst (v := (1 : Int32)) hx hb dX1_append_31 (by decide) ?_
    exact hret (1 : Int32) (I3, F2) _ _ _ _ dX1_append_32 hP hS (by decide) h
  · have h := h.2 c1
    refine lv_iconst (v := (0 : Int32)) hx hb dX1_append_9 (by decide) ?_
    exact hret (0 : Int32) (I, F) _ _ _ _ dX1_append_10 hP hS (by decide) h
def w_X8_letter (a1 : Int32) (I : Nat → Int32) (F : Nat → Nat → Int32) (post : Int32 → (Nat → Int32) → (Nat → Nat → Int32) → Prop) : Prop :=
  ((a1 < (1 : Int32) → post (-102 : Int32) I F) ∧ (¬ a1 < (1 : Int32) → ((a1 ≤ (126 : Int32) → w_X1_append_1 a1 I F (fun (r3 : Int32) (I4 : Nat → Int32) (F5 : Nat → Nat → Int32) => ((r3 = 0 → post (-104 : Int32) I4 F5) ∧ (¬ r3 = 0 → post (I4 2) I4 F5)))) ∧ (¬ a1 ≤ (126 : Int32) → post (-102 : Int32) I F))))
set_option maxHeartbeats 4000000 in
set_option maxRecDepth 100000 in
theorem c_X8_letter (l : Launch) (D : va_G) (q : Nat → Nat) (cI cO : ClassId) (hq : cOk q) (a1 : Int32)  (I : Nat → Int32) (F : Nat → Nat → Int32) (post : Int32 → (Nat → Int32) → (Nat → Nat → Int32) → Prop) (h : w_X8_letter a1 I F post) : Met l yX8_letter wsX8_letter ({ frames := 1, cells := 0, slots := 0, locals := 21 } : Room) (gPre D (cTys cI cO) (cW q cI cO I F) (cEnv q) [.ref (q 0), .int a1]) (va_Qi (fun r (u : cS) => post r u.1 u.2) (gB D (fun u : cS => cW q cI cO u.1 u.2)) (cA q)) 0 0 (cA q) := by
  refine gMetI (by decide) rfl (Nat.le_of_ble_eq_true rfl) ?_
  intro p e R s m args below meth c Q ls hR hx hb hml hown hts hK hE hP hl hret
  have hRf : 1 ≤ R.frames := by subst hR; exact Nat.le_refl _
  have hRl : 21 ≤ R.locals := by subst hR; exact Nat.le_refl _
  have hown : s.vm.findClass RX8 = some m.cls := hown
  have hl : lv_has ls 2 [(0, .ref (q 0)), (1, .int a1)] := hl
  have hS : va_S (cA q) s.heap s.heap [] := va_S.rf
  have hP : va_P D vwCl (cW q cI cO I F) s.heap := hP
  refine lv_iload_n hx hb dX8_letter_0 rfl (lv_at hl 1 rfl) ?_
  refine lv_iconst (v := (1 : Int32)) hx hb dX8_letter_1 (by decide) ?_
  refine lv_icmp_lt (tgt := 11) hx hb dX8_letter_2 (by decide) (fun c1 => ?_) (fun c1 => ?_)
  · have h := h.1 c1
    refine lv_bipush (v := (-102 : Int32)) hx hb dX8_letter_11 (by decide) ?_
    exact hret (-102 : Int32) (I, F) _ _ _ _ dX8_letter_13 hP hS h
  · have h := h.2 c1
    refine lv_iload_n hx hb dX8_letter_5 rfl (lv_at hl 1 rfl) ?_
    refine lv_bipush (v := (126 : Int32)) hx hb dX8_letter_6 (by decide) ?_
    refine lv_icmp_le (tgt := 14) hx hb dX8_letter_8 (by decide) (fun c2 => ?_) (fun c2 => ?_)
    · have h := h.1 c2
      refine lv_aload_n hx hb dX8_letter_14 rfl (lv_at hl 0 rfl) ?_
      refine va_get (D := D) (ci := 8) (v := .ref (q 1)) (C := RX8) (T := TX8) (N := 11) hx hb hts (fun _ h9 => List.mem_cons_of_mem _ (List.mem_append_left _ (List.mem_append_right _ h9))) hown hK hP 0 cAt0 rfl 0 (by decide) (hts _ (List.mem_of_getElem? (l := wsX8_letter) (i := 1) rfl)) (fun _ h9 => h9) rfl dX8_letter_15 ?_
      refine lv_iload_n hx hb dX8_letter_18 rfl (lv_at hl 1 rfl) ?_
      refine gCallI (D := D) (va_runV (As := [.int a1]) (rest := []) ⟨hx, hb, hml, hown, hts⟩ (c_X1_append_1 l D q cI cO hq a1  I F _ h) (cwV 1 hts gX8_letter_X1_append rfl rfl rfl (by decide +kernel) ⟨Nat.le_trans (Nat.le_of_ble_eq_true rfl) hRf, Nat.le_trans (Nat.le_of_ble_eq_true rfl) hRl⟩) (gPreV (ci := 1) (q0 := 1) cEok hE hK hP hS rfl cAt1) rfl rfl hl.1 rfl (lv_room (Nat.le_of_ble_eq_true rfl)) dX8_letter_19 ⟨Nat.zero_le _, Nat.zero_le _⟩) hS (fun r3 u H locs hP hS h => ?_)
      obtain ⟨I4, F5⟩ := u
      have hP : va_P D vwCl (cW q cI cO I4 F5) H := hP
      refine lv_if_eq (tgt := 35) hx hb dX8_letter_22 (by decide) (fun c6 => ?_) (fun c6 => ?_)
      · have h := h.1 c6
        refine lv_bipush (v := (-104 : Int32)) hx hb dX8_letter_35 (by decide) ?_
        exact hret (-104 : Int32) (I4, F5) _ _ _ _ dX8_letter_37 hP hS h
      · have h := h.2 c6
        refine lv_aload_n hx hb dX8_letter_25 rfl (lv_at hl 0 rfl) ?_
        refine va_get (D := D) (ci := 8) (v := .ref (q 1)) (C := RX8) (T := TX8) (N := 11) hx hb hts (fun _ h9 => List.mem_cons_of_mem _ (List.mem_append_left _ (List.mem_append_right _ h9))) hown hK hP 0 cAt0 rfl 0 (by decide) (hts _ (List.mem_of_getElem? (l := wsX8_letter) (i := 1) rfl)) (fun _ h9 => h9) rfl dX8_letter_26 ?_
        refine va_getN (D := D) (ci := 1) (v := .int (I4 2)) (C := RX1) (T := TX1) (N := 2) hx hb hts (fun _ h9 => List.mem_cons_of_mem _ (List.mem_append_right _ h9)) hown hK hP 1 cAt1 rfl 1 (by decide) (va_Nw.use rfl (hE.1.1 _ (List.mem_of_getElem? (l := cNF) (i := 1) rfl))) (fun _ h9 => h9) rfl dX8_letter_29 ?_
        refine lv_goto (tgt := 37) hx hb dX8_letter_32 (by decide) ?_
        exact hret (I4 2) (I4, F5) _ _ _ _ dX8_letter_37 hP hS h
    · have h := h.2 c2
      refine lv_bipush (v := (-102 : Int32)) hx hb dX8_letter_11 (by decide) ?_
      exact hret (-102 : Int32) (I, F) _ _ _ _ dX8_letter_13 hP hS h
def w_X1_clear_1  (I : Nat → Int32) (F : Nat → Nat → Int32) (post : Int32 → (Nat → Int32) → (Nat → Nat → Int32) → Prop) : Prop :=
  ∀ v1 : Int32, v1 = (I 2) → ∀ I2 : Nat → Int32, I2 = upd I 2 (0 : Int32) → post v1 I2 F
set_option maxHeartbeats 4000000 in
set_option maxRecDepth 100000 in
theorem c_X1_clear_1 (l : Launch) (D : va_G) (q : Nat → Nat) (cI cO : ClassId) (hq : cOk q)   (I : Nat → Int32) (F : Nat → Nat → Int32) (post : Int32 → (Nat → Int32) → (Nat → Nat → Int32) → Prop) (h : w_X1_clear_1  I F post) : Met l yX1_clear wsX1_clear ({ frames := 0, cells := 0, slots := 0, locals := 0 } : Room) (gPre D (cTys cI cO) (cW q cI cO I F) (cEnv q) [.ref (q 1)]) (va_Qi (fun r (u : cS) => post r u.1 u.2) (gB D (fun u : cS => cW q cI cO u.1 u.2)) (cA q)) 0 0 (cA q) := by
  refine gMetI (by decide) rfl (Nat.le_of_ble_eq_true rfl) ?_
  intro p e R s m args below meth c Q ls hR hx hb hml hown hts hK hE hP hl hret
  have hRf : 0 ≤ R.frames := by subst hR; exact Nat.le_refl _
  have hRl : 0 ≤ R.locals := by subst hR; exact Nat.le_refl _
  have hown : s.vm.findClass RX1 = some m.cls := hown
  have hl : lv_has ls 2 [(0, .ref (q 1))] := hl
  have hS : va_S (cA q) s.heap s.heap [] := va_S.rf
  have hP : va_P D vwCl (cW q cI cO I F) s.heap := hP
  refine lv_aload_n hx hb dX1_clear_0 rfl (lv_at hl 0 rfl) ?_
  refine va_get (D := D) (ci := 1) (v := .int (I 2)) (C := RX1) (T := TX1) (N := 2) hx hb hts (fun _ h9 => List.mem_cons_of_mem _ (List.mem_append_right _ h9)) hown hK hP 1 cAt1 rfl 1 (by decide) (hts _ (List.mem_of_getElem? (l := wsX1_clear) (i := 1) rfl)) (fun _ h9 => h9) rfl dX1_clear_1 ?_
  refine lv_topi (fun v1 ev1 => ?_)
  have h := h v1 ev1
  refine lv_istore_n (lv' := [(1, .int v1), (0, .ref (q 1))]) hx hb dX1_clear_4 rfl hl (by decide) rfl (fun ls hl => ?_)
  refine lv_aload_n hx hb dX1_clear_5 rfl (lv_at hl 1 rfl) ?_
  refine lv_iconst (v := (0 : Int32)) hx hb dX1_clear_6 (by decide) ?_
  refine gPut (D := D) (ci := 1) (ty := .int) (C := RX1) (T := TX1) (N := 2) hx hb hts (fun _ h9 => List.mem_cons_of_mem _ (List.mem_append_right _ h9)) tyX1 tyX1_ok nmX1 hown hK hP (cD hq) hS 1 cAt1 rfl 1 (by decide) (hts _ (List.mem_of_getElem? (l := wsX1_clear) (i := 1) rfl)) (fun _ h9 => h9) rfl (by decide +kernel) rfl rfl (Nat.le_of_ble_eq_true rfl) dX1_clear_7 (cSet2 (0 : Int32)) (fun H locs hP hS => ?_)
  obtain ⟨I2, eI2⟩ : ∃ z : Nat → Int32, z = upd I 2 (0 : Int32) := ⟨_, rfl⟩
  rw [← eI2] at hP
  have h := h I2 eI2
  refine lv_iload_n hx hb dX1_clear_10 rfl (lv_at hl 0 rfl) ?_
  exact hret v1 (I2, F) _ _ _ _ dX1_clear_11 hP hS h
def w_X8_blank  (I : Nat → Int32) (F : Nat → Nat → Int32) (post : Int32 → (Nat → Int32) → (Nat → Nat → Int32) → Prop) : Prop :=
  w_X1_clear_1 I F (fun (r1 : Int32) (I2 : Nat → Int32) (F3 : Nat → Nat → Int32) => post r1 I2 F3)
set_option maxHeartbeats 4000000 in
set_option maxRecDepth 100000 in
theorem c_X8_blank (l : Launch) (D : va_G) (q : Nat → Nat) (cI cO : ClassId) (hq : cOk q)   (I : Nat → Int32) (F : Nat → Nat → Int32) (post : Int32 → (Nat → Int32) → (Nat → Nat → Int32) → Prop) (h : w_X8_blank  I F post) : Met l yX8_blank wsX8_blank ({ frames := 1, cells := 0, slots := 0, locals := 21 } : Room) (gPre D (cTys cI cO) (cW q cI cO I F) (cEnv q) [.ref (q 0)]) (va_Qi (fun r (u : cS) => post r u.1 u.2) (gB D (fun u : cS => cW q cI cO u.1 u.2)) (cA q)) 0 0 (cA q) := by
  refine gMetI (by decide) rfl (Nat.le_of_ble_eq_true rfl) ?_
  intro p e R s m args below meth c Q ls hR hx hb hml hown hts hK hE hP hl hret
  have hRf : 1 ≤ R.frames := by subst hR; exact Nat.le_refl _
  have hRl : 21 ≤ R.locals := by subst hR; exact Nat.le_refl _
  have hown : s.vm.findClass RX8 = some m.cls := hown
  have hl : lv_has ls 1 [(0, .ref (q 0))] := hl
  have hS : va_S (cA q) s.heap s.heap [] := va_S.rf
  have hP : va_P D vwCl (cW q cI cO I F) s.heap := hP
  refine lv_aload_n hx hb dX8_blank_0 rfl (lv_at hl 0 rfl) ?_
  refine va_get (D := D) (ci := 8) (v := .ref (q 1)) (C := RX8) (T := TX8) (N := 11) hx hb hts (fun _ h9 => List.mem_cons_of_mem _ (List.mem_append_left _ (List.mem_append_right _ h9))) hown hK hP 0 cAt0 rfl 0 (by decide) (hts _ (List.mem_of_getElem? (l := wsX8_blank) (i := 1) rfl)) (fun _ h9 => h9) rfl dX8_blank_1 ?_
  refine gCallI (D := D) (va_runV (As := []) (rest := []) ⟨hx, hb, hml, hown, hts⟩ (c_X1_clear_1 l D q cI cO hq   I F _ h) (cwV 0 hts gX8_blank_X1_clear rfl rfl rfl (by decide +kernel) ⟨Nat.le_trans (Nat.le_of_ble_eq_true rfl) hRf, Nat.le_trans (Nat.le_of_ble_eq_true rfl) hRl⟩) (gPreV (ci := 1) (q0 := 1) cEok hE hK hP hS rfl cAt1) rfl rfl hl.1 rfl (lv_room (Nat.le_of_ble_eq_true rfl)) dX8_blank_4 ⟨Nat.zero_le _, Nat.zero_le _⟩) hS (fun r1 u H locs hP hS h => ?_)
  obtain ⟨I2, F3⟩ := u
  have hP : va_P D vwCl (cW q cI cO I2 F3) H := hP
  exact hret r1 (I2, F3) _ _ _ _ dX8_blank_7 hP hS h
def w_X2_tonesOfLast_3  (I : Nat → Int32) (F : Nat → Nat → Int32) (post : Int32 → Prop) : Prop :=
  ((¬ (I 6) = 0 → vp_in ((I 6) - (1 : Int32)) 8 ∧ post (F 16 (((I 6) - (1 : Int32))).toNatClampNeg)) ∧ ((I 6) = 0 → post (0 : Int32)))
set_option maxHeartbeats 4000000 in
set_option maxRecDepth 100000 in
theorem c_X2_tonesOfLast_3 (l : Launch) (D : va_G) (q : Nat → Nat) (cI cO : ClassId) (hq : cOk q)   (I : Nat → Int32) (F : Nat → Nat → Int32) (post : Int32 → Prop) (h : w_X2_tonesOfLast_3  I F post) : Met l yX2_tonesOfLast wsX2_tonesOfLast ({ frames := 0, cells := 0, slots := 0, locals := 0 } : Room) (gPre D (cTys cI cO) (cW q cI cO I F) (cEnv q) [.ref (q 3)]) (va_Qi (fun r (_ : Unit) => post r) (gB D (fun _ : Unit => cW q cI cO I F)) (cA q)) 0 0 (cA q) := by
  refine gMetI (by decide) rfl (Nat.le_of_ble_eq_true rfl) ?_
  intro p e R s m args below meth c Q ls hR hx hb hml hown hts hK hE hP hl hret
  have hRf : 0 ≤ R.frames := by subst hR; exact Nat.le_refl _
  have hRl : 0 ≤ R.locals := by subst hR; exact Nat.le_refl _
  have hown : s.vm.findClass RX2 = some m.cls := hown
  have hl : lv_has ls 1 [(0, .ref (q 3))] := hl
  have hS : va_S (cA q) s.heap s.heap [] := va_S.rf
  have hP : va_P D vwCl (cW q cI cO I F) s.heap := hP
  refine lv_aload_n hx hb dX2_tonesOfLast_0 rfl (lv_at hl 0 rfl) ?_
  refine va_get (D := D) (ci := 2) (v := .int (I 6)) (C := RX2) (T := TX2) (N := 4) hx hb hts (fun _ h9 => List.mem_cons_of_mem _ (List.mem_append_right _ h9)) hown hK hP 3 cAt3 rfl 1 (by decide) (hts _ (List.mem_of_getElem? (l := wsX2_tonesOfLast) (i := 1) rfl)) (fun _ h9 => h9) rfl dX2_tonesOfLast_1 ?_
  refine lv_if_ne (tgt := 11) hx hb dX2_tonesOfLast_4 (by decide) (fun c1 => ?_) (fun c1 => ?_)
  · have h := h.1 c1
    refine lv_aload_n hx hb dX2_tonesOfLast_11 rfl (lv_at hl 0 rfl) ?_
    refine va_get (D := D) (ci := 2) (v := .ref (q 16)) (C := RX2) (T := TX2) (N := 4) hx hb hts (fun _ h9 => List.mem_cons_of_mem _ (List.mem_append_right _ h9)) hown hK hP 3 cAt3 rfl 3 (by decide) (hts _ (List.mem_of_getElem? (l := wsX2_tonesOfLast) (i := 2) rfl)) (fun _ h9 => h9) rfl dX2_tonesOfLast_12 ?_
    refine lv_aload_n hx hb dX2_tonesOfLast_15 rfl (lv_at hl 0 rfl) ?_
    refine va_get (D := D) (ci := 2) (v := .int (I 6)) (C := RX2) (T := TX2) (N := 4) hx hb hts (fun _ h9 => List.mem_cons_of_mem _ (List.mem_append_right _ h9)) hown hK hP 3 cAt3 rfl 1 (by decide) (hts _ (List.mem_of_getElem? (l := wsX2_tonesOfLast) (i := 1) rfl)) (fun _ h9 => h9) rfl dX2_tonesOfLast_16 ?_
    refine lv_iconst (v := (1 : Int32)) hx hb dX2_tonesOfLast_19 (by decide) ?_
    refine lv_isub hx hb dX2_tonesOfLast_20 ?_
    refine va_iald (D := D) hx hb hK hP 16 0 cAr16 rfl h.1 dX2_tonesOfLast_21 ?_
    have h := h.2
    exact hret (F 16 (((I 6) - (1 : Int32))).toNatClampNeg) () _ _ _ _ dX2_tonesOfLast_22 hP hS h
  · have h := h.2 c1
    refine lv_iconst (v := (0 : Int32)) hx hb dX2_tonesOfLast_7 (by decide) ?_
    refine lv_goto (tgt := 22) hx hb dX2_tonesOfLast_8 (by decide) ?_
    exact hret (0 : Int32) () _ _ _ _ dX2_tonesOfLast_22 hP hS h
def w_J6_bitCount_0f7a4 (a0 : Int32) (I : Nat → Int32) (F : Nat → Nat → Int32) (post : Int32 → Prop) : Prop :=
  ∀ v1 : Int32, v1 = (a0 - ((((a0).toUInt32 >>> (((1 : Int32)).toUInt32 &&& Int32.toUInt32 31)).toInt32) &&& (1431655765 : Int32))) → ∀ v2 : Int32, v2 = ((v1 &&& (858993459 : Int32)) + ((((v1).toUInt32 >>> (((2 : Int32)).toUInt32 &&& Int32.toUInt32 31)).toInt32) &&& (858993459 : Int32))) → ∀ v3 : Int32, v3 = ((v2 + (((v2).toUInt32 >>> (((4 : Int32)).toUInt32 &&& Int32.toUInt32 31)).toInt32)) &&& (252645135 : Int32)) → ∀ v4 : Int32, v4 = (v3 + (((v3).toUInt32 >>> (((8 : Int32)).toUInt32 &&& Int32.toUInt32 31)).toInt32)) → ∀ v5 : Int32, v5 = (v4 + (((v4).toUInt32 >>> (((16 : Int32)).toUInt32 &&& Int32.toUInt32 31)).toInt32)) → post (v5 &&& (63 : Int32))
set_option maxHeartbeats 4000000 in
set_option maxRecDepth 100000 in
theorem c_J6_bitCount_0f7a4 (l : Launch) (D : va_G) (q : Nat → Nat) (cI cO : ClassId) (hq : cOk q) (a0 : Int32)  (I : Nat → Int32) (F : Nat → Nat → Int32) (post : Int32 → Prop) (h : w_J6_bitCount_0f7a4 a0 I F post) : Met l yJ6_bitCount_0f7a4 wsJ6_bitCount_0f7a4 ({ frames := 0, cells := 0, slots := 0, locals := 0 } : Room) (gPre D (cTys cI cO) (cW q cI cO I F) (cEnv q) [.int a0]) (va_Qi (fun r (_ : Unit) => post r) (gB D (fun _ : Unit => cW q cI cO I F)) (cA q)) 0 0 (cA q) := by
  refine gMetI (by decide) rfl (Nat.le_of_ble_eq_true rfl) ?_
  intro p e R s m args below meth c Q ls hR hx hb hml hown hts hK hE hP hl hret
  have hRf : 0 ≤ R.frames := by subst hR; exact Nat.le_refl _
  have hRl : 0 ≤ R.locals := by subst hR; exact Nat.le_refl _
  have hown : s.vm.findClass RJ6 = some m.cls := hown
  have hl : lv_has ls 1 [(0, .int a0)] := hl
  have hS : va_S (cA q) s.heap s.heap [] := va_S.rf
  have hP : va_P D vwCl (cW q cI cO I F) s.heap := hP
  refine lv_iload_n hx hb dJ6_bitCount_0f7a4_0 rfl (lv_at hl 0 rfl) ?_
  refine lv_iload_n hx hb dJ6_bitCount_0f7a4_1 rfl (lv_at hl 0 rfl) ?_
  refine lv_iconst (v := (1 : Int32)) hx hb dJ6_bitCount_0f7a4_2 (by decide) ?_
  refine lv_iushr (v := ((a0).toUInt32 >>> (((1 : Int32)).toUInt32 &&& Int32.toUInt32 31)).toInt32) hx hb dJ6_bitCount_0f7a4_3 rfl ?_
  refine lv_ldcw (v := (1431655765 : Int32)) hx hb hown (hts _ (List.mem_of_getElem? (l := wsJ6_bitCount_0f7a4) (i := 1) rfl)) dJ6_bitCount_0f7a4_4 ?_
  refine lv_iand hx hb dJ6_bitCount_0f7a4_7 ?_
  refine lv_isub hx hb dJ6_bitCount_0f7a4_8 ?_
  refine lv_topi (fun v1 ev1 => ?_)
  have h := h v1 ev1
  refine lv_istore_n (lv' := [(0, .int v1)]) hx hb dJ6_bitCount_0f7a4_9 rfl hl (by decide) rfl (fun ls hl => ?_)
  refine lv_iload_n hx hb dJ6_bitCount_0f7a4_10 rfl (lv_at hl 0 rfl) ?_
  refine lv_ldcw (v := (858993459 : Int32)) hx hb hown (hts _ (List.mem_of_getElem? (l := wsJ6_bitCount_0f7a4) (i := 2) rfl)) dJ6_bitCount_0f7a4_11 ?_
  refine lv_iand hx hb dJ6_bitCount_0f7a4_14 ?_
  refine lv_iload_n hx hb dJ6_bitCount_0f7a4_15 rfl (lv_at hl 0 rfl) ?_
  refine lv_iconst (v := (2 : Int32)) hx hb dJ6_bitCount_0f7a4_16 (by decide) ?_
  refine lv_iushr (v := ((v1).toUInt32 >>> (((2 : Int32)).toUInt32 &&& Int32.toUInt32 31)).toInt32) hx hb dJ6_bitCount_0f7a4_17 rfl ?_
  refine lv_ldcw (v := (858993459 : Int32)) hx hb hown (hts _ (List.mem_of_getElem? (l := wsJ6_bitCount_0f7a4) (i := 2) rfl)) dJ6_bitCount_0f7a4_18 ?_
  refine lv_iand hx hb dJ6_bitCount_0f7a4_21 ?_
  refine lv_iadd hx hb dJ6_bitCount_0f7a4_22 ?_
  refine lv_topi (fun v2 ev2 => ?_)
  have h := h v2 ev2
  refine lv_istore_n (lv' := [(0, .int v2)]) hx hb dJ6_bitCount_0f7a4_23 rfl hl (by decide) rfl (fun ls hl => ?_)
  refine lv_iload_n hx hb dJ6_bitCount_0f7a4_24 rfl (lv_at hl 0 rfl) ?_
  refine lv_iload_n hx hb dJ6_bitCount_0f7a4_25 rfl (lv_at hl 0 rfl) ?_
  refine lv_iconst (v := (4 : Int32)) hx hb dJ6_bitCount_0f7a4_26 (by decide) ?_
  refine lv_iushr (v := ((v2).toUInt32 >>> (((4 : Int32)).toUInt32 &&& Int32.toUInt32 31)).toInt32) hx hb dJ6_bitCount_0f7a4_27 rfl ?_
  refine lv_iadd hx hb dJ6_bitCount_0f7a4_28 ?_
  refine lv_ldcw (v := (252645135 : Int32)) hx hb hown (hts _ (List.mem_of_getElem? (l := wsJ6_bitCount_0f7a4) (i := 3) rfl)) dJ6_bitCount_0f7a4_29 ?_
  refine lv_iand hx hb dJ6_bitCount_0f7a4_32 ?_
  refine lv_topi (fun v3 ev3 => ?_)
  have h := h v3 ev3
  refine lv_istore_n (lv' := [(0, .int v3)]) hx hb dJ6_bitCount_0f7a4_33 rfl hl (by decide) rfl (fun ls hl => ?_)
  refine lv_iload_n hx hb dJ6_bitCount_0f7a4_34 rfl (lv_at hl 0 rfl) ?_
  refine lv_iload_n hx hb dJ6_bitCount_0f7a4_35 rfl (lv_at hl 0 rfl) ?_
  refine lv_bipush (v := (8 : Int32)) hx hb dJ6_bitCount_0f7a4_36 (by decide) ?_
  refine lv_iushr (v := ((v3).toUInt32 >>> (((8 : Int32)).toUInt32 &&& Int32.toUInt32 31)).toInt32) hx hb dJ6_bitCount_0f7a4_38 rfl ?_
  refine lv_iadd hx hb dJ6_bitCount_0f7a4_39 ?_
  refine lv_topi (fun v4 ev4 => ?_)
  have h := h v4 ev4
  refine lv_istore_n (lv' := [(0, .int v4)]) hx hb dJ6_bitCount_0f7a4_40 rfl hl (by decide) rfl (fun ls hl => ?_)
  refine lv_iload_n hx hb dJ6_bitCount_0f7a4_41 rfl (lv_at hl 0 rfl) ?_
  refine lv_iload_n hx hb dJ6_bitCount_0f7a4_42 rfl (lv_at hl 0 rfl) ?_
  refine lv_bipush (v := (16 : Int32)) hx hb dJ6_bitCount_0f7a4_43 (by decide) ?_
  refine lv_iushr (v := ((v4).toUInt32 >>> (((16 : Int32)).toUInt32 &&& Int32.toUInt32 31)).toInt32) hx hb dJ6_bitCount_0f7a4_45 rfl ?_
  refine lv_iadd hx hb dJ6_bitCount_0f7a4_46 ?_
  refine lv_topi (fun v5 ev5 => ?_)
  have h := h v5 ev5
  refine lv_istore_n (lv' := [(0, .int v5)]) hx hb dJ6_bitCount_0f7a4_47 rfl hl (by decide) rfl (fun ls hl => ?_)
  refine lv_iload_n hx hb dJ6_bitCount_0f7a4_48 rfl (lv_at hl 0 rfl) ?_
  refine lv_bipush (v := (63 : Int32)) hx hb dJ6_bitCount_0f7a4_49 (by decide) ?_
  refine lv_iand hx hb dJ6_bitCount_0f7a4_51 ?_
  exact hret (v5 &&& (63 : Int32)) () _ _ _ _ dJ6_bitCount_0f7a4_52 hP hS h
def w_X2_addToLast_3 (a1 : Int32) (I : Nat → Int32) (F : Nat → Nat → Int32) (post : (Nat → Int32) → (Nat → Nat → Int32) → Prop) : Prop :=
  (((I 6) ≤ 0 → post I F) ∧ (¬ (I 6) ≤ 0 → vp_in ((I 6) - (1 : Int32)) 8 ∧ vp_in ((I 6) - (1 : Int32)) 8 ∧ ∀ F2 : Nat → Nat → Int32, F2 = upF F 16 (upd (F 16) (((I 6) - (1 : Int32))).toNatClampNeg ((F 16 (((I 6) - (1 : Int32))).toNatClampNeg) ||| a1)) → post I F2))
set_option maxHeartbeats 4000000 in
set_option maxRecDepth 100000 in
theorem c_X2_addToLast_3 (l : Launch) (D : va_G) (q : Nat → Nat) (cI cO : ClassId) (hq : cOk q) (a1 : Int32)  (I : Nat → Int32) (F : Nat → Nat → Int32) (post : (Nat → Int32) → (Nat → Nat → Int32) → Prop) (h : w_X2_addToLast_3 a1 I F post) : Met l yX2_addToLast wsX2_addToLast ({ frames := 0, cells := 0, slots := 0, locals := 0 } : Room) (gPre D (cTys cI cO) (cW q cI cO I F) (cEnv q) [.ref (q 3), .int a1]) (va_Qv (fun (u : cS) => post u.1 u.2) (gB D (fun u : cS => cW q cI cO u.1 u.2)) (cA q)) 0 0 (cA q) := by
  refine gMetV (by decide) rfl (Nat.le_of_ble_eq_true rfl) ?_
  intro p e R s m args below meth c Q ls hR hx hb hml hown hts hK hE hP hl hret
  have hRf : 0 ≤ R.frames := by subst hR; exact Nat.le_refl _
  have hRl : 0 ≤ R.locals := by subst hR; exact Nat.le_refl _
  have hown : s.vm.findClass RX2 = some m.cls := hown
  have hl : lv_has ls 2 [(0, .ref (q 3)), (1, .int a1)] := hl
  have hS : va_S (cA q) s.heap s.heap [] := va_S.rf
  have hP : va_P D vwCl (cW q cI cO I F) s.heap := hP
  refine lv_aload_n hx hb dX2_addToLast_0 rfl (lv_at hl 0 rfl) ?_
  refine va_get (D := D) (ci := 2) (v := .int (I 6)) (C := RX2) (T := TX2) (N := 4) hx hb hts (fun _ h9 => List.mem_cons_of_mem _ (List.mem_append_right _ h9)) hown hK hP 3 cAt3 rfl 1 (by decide) (hts _ (List.mem_of_getElem? (l := wsX2_addToLast) (i := 1) rfl)) (fun _ h9 => h9) rfl dX2_addToLast_1 ?_
  refine lv_if_le (tgt := 22) hx hb dX2_addToLast_4 (by decide) (fun c1 => ?_) (fun c1 => ?_)
  · have h := h.1 c1
    exact hret (I, F) _ _ _ _ dX2_addToLast_22 hP hS h
  · have h := h.2 c1
    refine lv_aload_n hx hb dX2_addToLast_7 rfl (lv_at hl 0 rfl) ?_
    refine va_get (D := D) (ci := 2) (v := .ref (q 16)) (C := RX2) (T := TX2) (N := 4) hx hb hts (fun _ h9 => List.mem_cons_of_mem _ (List.mem_append_right _ h9)) hown hK hP 3 cAt3 rfl 3 (by decide) (hts _ (List.mem_of_getElem? (l := wsX2_addToLast) (i := 2) rfl)) (fun _ h9 => h9) rfl dX2_addToLast_8 ?_
    refine lv_aload_n hx hb dX2_addToLast_11 rfl (lv_at hl 0 rfl) ?_
    refine va_get (D := D) (ci := 2) (v := .int (I 6)) (C := RX2) (T := TX2) (N := 4) hx hb hts (fun _ h9 => List.mem_cons_of_mem _ (List.mem_append_right _ h9)) hown hK hP 3 cAt3 rfl 1 (by decide) (hts _ (List.mem_of_getElem? (l := wsX2_addToLast) (i := 1) rfl)) (fun _ h9 => h9) rfl dX2_addToLast_12 ?_
    refine lv_iconst (v := (1 : Int32)) hx hb dX2_addToLast_15 (by decide) ?_
    refine lv_isub hx hb dX2_addToLast_16 ?_
    refine lv_dup2_11 hx hb dX2_addToLast_17 rfl rfl ?_
    refine va_iald (D := D) hx hb hK hP 16 0 cAr16 rfl h.1 dX2_addToLast_18 ?_
    have h := h.2
    refine lv_iload_n hx hb dX2_addToLast_19 rfl (lv_at hl 1 rfl) ?_
    refine lv_ior hx hb dX2_addToLast_20 ?_
    refine gAst (D := D) hx hb hK hP (cD hq) hS 16 0 cAr16 rfl h.1 dX2_addToLast_21 (cSA16 _) (fun H locs hP hS => ?_)
    obtain ⟨F2, eF2⟩ : ∃ z : Nat → Nat → Int32, z = upF F 16 (upd (F 16) (((I 6) - (1 : Int32))).toNatClampNeg ((F 16 (((I 6) - (1 : Int32))).toNatClampNeg) ||| a1)) := ⟨_, rfl⟩
    rw [← eF2] at hP
    have h := h.2 F2 eF2
    exact hret (I, F2) _ _ _ _ dX2_addToLast_22 hP hS h
def w_X5_acceptTone_2 (a1 : Int32) (I : Nat → Int32) (F : Nat → Nat → Int32) (post : Int32 → (Nat → Int32) → (Nat → Nat → Int32) → Prop) : Prop :=
  ∀ v1 : Int32, v1 = (a1 - (97 : Int32)) → w_X2_tonesOfLast_3 I F (fun (r2 : Int32) => ((v1 < 0 → post (0 : Int32) I F) ∧ (¬ v1 < 0 → (((12 : Int32) ≤ v1 → post (0 : Int32) I F) ∧ (¬ (12 : Int32) ≤ v1 → w_J6_bitCount_0f7a4 r2 I F (fun (r5 : Int32) => ((r5 < (4 : Int32) → (((r2 >>> (v1 &&& 31)) = 0 → w_X2_addToLast_3 ((1 : Int32) <<< (v1 &&& 31)) I F (fun (I8 : Nat → Int32) (F9 : Nat → Nat → Int32) => post (1 : Int32) I8 F9)) ∧ (¬ (r2 >>> (v1 &&& 31)) = 0 → post (0 : Int32) I F))) ∧ (¬ r5 < (4 : Int32) → post (0 : Int32) I F))))))))
set_option maxHeartbeats 4000000 in
set_option maxRecDepth 100000 in
theorem c_X5_acceptTone_2 (l : Launch) (D : va_G) (q : Nat → Nat) (cI cO : ClassId) (hq : cOk q) (a1 : Int32)  (I : Nat → Int32) (F : Nat → Nat → Int32) (post : Int32 → (Nat → Int32) → (Nat → Nat → Int32) → Prop) (h : w_X5_acceptTone_2 a1 I F post) : Met l yX5_acceptTone wsX5_acceptTone ({ frames := 1, cells := 0, slots := 0, locals := 21 } : Room) (gPre D (cTys cI cO) (cW q cI cO I F) (cEnv q) [.ref (q 2), .int a1]) (va_Qi (fun r (u : cS) => post r u.1 u.2) (gB D (fun u : cS => cW q cI cO u.1 u.2)) (cA q)) 0 0 (cA q) := by
  refine gMetZ (by decide) rfl (Nat.le_of_ble_eq_true rfl) ?_
  intro p e R s m args below meth c Q ls hR hx hb hml hown hts hK hE hP hl hret
  have hRf : 1 ≤ R.frames := by subst hR; exact Nat.le_refl _
  have hRl : 21 ≤ R.locals := by subst hR; exact Nat.le_refl _
  have hown : s.vm.findClass RX5 = some m.cls := hown
  have hl : lv_has ls 4 [(0, .ref (q 2)), (1, .int a1)] := hl
  have hS : va_S (cA q) s.heap s.heap [] := va_S.rf
  have hP : va_P D vwCl (cW q cI cO I F) s.heap := hP
  refine lv_iload_n hx hb dX5_acceptTone_0 rfl (lv_at hl 1 rfl) ?_
  refine lv_bipush (v := (97 : Int32)) hx hb dX5_acceptTone_1 (by decide) ?_
  refine lv_isub hx hb dX5_acceptTone_3 ?_
  refine lv_topi (fun v1 ev1 => ?_)
  have h := h v1 ev1
  refine lv_istore_n (lv' := [(2, .int v1), (0, .ref (q 2)), (1, .int a1)]) hx hb dX5_acceptTone_4 rfl hl (by decide) rfl (fun ls hl => ?_)
  refine lv_aload_n hx hb dX5_acceptTone_5 rfl (lv_at hl 1 rfl) ?_
  refine va_get (D := D) (ci := 5) (v := .ref (q 3)) (C := RX5) (T := TX5) (N := 3) hx hb hts (fun _ h9 => List.mem_cons_of_mem _ (List.mem_append_left _ (List.mem_append_right _ h9))) hown hK hP 2 cAt2 rfl 0 (by decide) (hts _ (List.mem_of_getElem? (l := wsX5_acceptTone) (i := 1) rfl)) (fun _ h9 => h9) rfl dX5_acceptTone_6 ?_
  refine gCallI (D := D) (va_runV (As := []) (rest := []) ⟨hx, hb, hml, hown, hts⟩ (c_X2_tonesOfLast_3 l D q cI cO hq   I F _ h) (cwV 0 hts gX5_acceptTone_X2_tonesOfLast rfl rfl rfl (by decide +kernel) ⟨Nat.le_trans (Nat.le_of_ble_eq_true rfl) hRf, Nat.le_trans (Nat.le_of_ble_eq_true rfl) hRl⟩) (gPreV (ci := 2) (q0 := 3) cEok hE hK hP hS rfl cAt3) rfl rfl hl.1 rfl (lv_room (Nat.le_of_ble_eq_true rfl)) dX5_acceptTone_9 ⟨Nat.zero_le _, Nat.zero_le _⟩) hS (fun r2 _ H locs hP hS h => ?_)
  have hP : va_P D vwCl (cW q cI cO I F) H := hP
  refine lv_istore_n (lv' := [(3, .int r2), (2, .int v1), (0, .ref (q 2)), (1, .int a1)]) hx hb dX5_acceptTone_12 rfl hl (by decide) rfl (fun ls hl => ?_)
  refine lv_iload_n hx hb dX5_acceptTone_13 rfl (lv_at hl 1 rfl) ?_
  refine lv_if_lt (tgt := 31) hx hb dX5_acceptTone_14 (by decide) (fun c3 => ?_) (fun c3 => ?_)
  · have h := h.1 c3
    refine lv_iconst (v := (0 : Int32)) hx hb dX5_acceptTone_31 (by decide) ?_
    exact hret (0 : Int32) (I, F) _ _ _ _ dX5_acceptTone_32 hP hS (by decide) h
  · have h := h.2 c3
    refine lv_iload_n hx hb dX5_acceptTone_17 rfl (lv_at hl 1 rfl) ?_
    refine lv_bipush (v := (12 : Int32)) hx hb dX5_acceptTone_18 (by decide) ?_
    refine lv_icmp_ge (tgt := 31) hx hb dX5_acceptTone_20 (by decide) (fun c4 => ?_) (fun c4 => ?_)
    · have h := h.1 c4
      refine lv_iconst (v := (0 : Int32)) hx hb dX5_acceptTone_31 (by decide) ?_
      exact hret (0 : Int32) (I, F) _ _ _ _ dX5_acceptTone_32 hP hS (by decide) h
    · have h := h.2 c4
      refine lv_iload_n hx hb dX5_acceptTone_23 rfl (lv_at hl 0 rfl) ?_
      refine gCallI (D := D) (va_runS (As := [.int r2]) (rest := []) ⟨hx, hb, hml, hown, hts⟩ (c_J6_bitCount_0f7a4 l D q cI cO hq r2  I F _ h) (va_cwS 1 hts gX5_acceptTone_J6_bitCount_0f7a4 rfl rfl rfl (by decide +kernel) ⟨Nat.le_trans (Nat.le_of_ble_eq_true rfl) hRf, Nat.le_trans (Nat.le_of_ble_eq_true rfl) hRl⟩) (gPreS cEok hE hK hP hS) rfl rfl hl.1 rfl (lv_room (Nat.le_of_ble_eq_true rfl)) dX5_acceptTone_24 ⟨Nat.zero_le _, Nat.zero_le _⟩) hS (fun r5 _ H locs hP hS h => ?_)
      have hP : va_P D vwCl (cW q cI cO I F) H := hP
      refine lv_iconst (v := (4 : Int32)) hx hb dX5_acceptTone_27 (by decide) ?_
      refine lv_icmp_lt (tgt := 33) hx hb dX5_acceptTone_28 (by decide) (fun c6 => ?_) (fun c6 => ?_)
      · have h := h.1 c6
        refine lv_iload_n hx hb dX5_acceptTone_33 rfl (lv_at hl 0 rfl) ?_
        refine lv_iload_n hx hb dX5_acceptTone_34 rfl (lv_at hl 1 rfl) ?_
        refine lv_ishr hx hb dX5_acceptTone_35 ?_
        refine lv_if_eq (tgt := 41) hx hb dX5_acceptTone_36 (by decide) (fun c7 => ?_) (fun c7 => ?_)
        · have h := h.1 c7
          refine lv_aload_n hx hb dX5_acceptTone_41 rfl (lv_at hl 2 rfl) ?_
          refine va_get (D := D) (ci := 5) (v := .ref (q 3)) (C := RX5) (T := TX5) (N := 3) hx hb hts (fun _ h9 => List.mem_cons_of_mem _ (List.mem_append_left _ (List.mem_append_right _ h9))) hown hK hP 2 cAt2 rfl 0 (by decide) (hts _ (List.mem_of_getElem? (l := wsX5_acceptTone) (i := 1) rfl)) (fun _ h9 => h9) rfl dX5_acceptTone_42 ?_
          refine lv_iconst (v := (1 : Int32)) hx hb dX5_acceptTone_45 (by decide) ?_
          refine lv_iload_n hx hb dX5_acceptTone_46 rfl (lv_at hl 1 rfl) ?_
          refine lv_ishl hx hb dX5_acceptTone_47 ?_
          refine gCallV (D := D) (va_runV (As := [.int ((1 : Int32) <<< (v1 &&& 31))]) (rest := []) ⟨hx, hb, hml, hown, hts⟩ (c_X2_addToLast_3 l D q cI cO hq ((1 : Int32) <<< (v1 &&& 31))  I F _ h) (cwV 1 hts gX5_acceptTone_X2_addToLast rfl rfl rfl (by decide +kernel) ⟨Nat.le_trans (Nat.le_of_ble_eq_true rfl) hRf, Nat.le_trans (Nat.le_of_ble_eq_true rfl) hRl⟩) (gPreV (ci := 2) (q0 := 3) cEok hE hK hP hS rfl cAt3) rfl rfl hl.1 rfl (lv_room (Nat.le_of_ble_eq_true rfl)) dX5_acceptTone_48 ⟨Nat.zero_le _, Nat.zero_le _⟩) hS (fun u H locs hP hS h => ?_)
          obtain ⟨I8, F9⟩ := u
          have hP : va_P D vwCl (cW q cI cO I8 F9) H := hP
          refine lv_iconst (v := (1 : Int32)) hx hb dX5_acceptTone_51 (by decide) ?_
          exact hret (1 : Int32) (I8, F9) _ _ _ _ dX5_acceptTone_52 hP hS (by decide) h
        · have h := h.2 c7
          refine lv_iconst (v := (0 : Int32)) hx hb dX5_acceptTone_39 (by decide) ?_
          exact hret (0 : Int32) (I, F) _ _ _ _ dX5_acceptTone_40 hP hS (by decide) h
      · have h := h.2 c6
        refine lv_iconst (v := (0 : Int32)) hx hb dX5_acceptTone_31 (by decide) ?_
        exact hret (0 : Int32) (I, F) _ _ _ _ dX5_acceptTone_32 hP hS (by decide) h
def w_X5_acceptComma_2 (a1 : Int32) (I : Nat → Int32) (F : Nat → Nat → Int32) (post : Int32 → (Nat → Int32) → (Nat → Nat → Int32) → Prop) : Prop :=
  ((¬ a1 = (44 : Int32) → post (0 : Int32) I F) ∧ (a1 = (44 : Int32) → w_X2_tonesOfLast_3 I F (fun (r2 : Int32) => ((r2 = 0 → post (0 : Int32) I F) ∧ (¬ r2 = 0 → (((I 6) < (8 : Int32) → ∀ I5 : Nat → Int32, I5 = upd I 4 (1 : Int32) → post (1 : Int32) I5 F) ∧ (¬ (I 6) < (8 : Int32) → post (0 : Int32) I F)))))))
set_option maxHeartbeats 4000000 in
set_option maxRecDepth 100000 in
theorem c_X5_acceptComma_2 (l : Launch) (D : va_G) (q : Nat → Nat) (cI cO : ClassId) (hq : cOk q) (a1 : Int32)  (I : Nat → Int32) (F : Nat → Nat → Int32) (post : Int32 → (Nat → Int32) → (Nat → Nat → Int32) → Prop) (h : w_X5_acceptComma_2 a1 I F post) : Met l yX5_acceptComma wsX5_acceptComma ({ frames := 1, cells := 0, slots := 0, locals := 20 } : Room) (gPre D (cTys cI cO) (cW q cI cO I F) (cEnv q) [.ref (q 2), .int a1]) (va_Qi (fun r (u : cS) => post r u.1 u.2) (gB D (fun u : cS => cW q cI cO u.1 u.2)) (cA q)) 0 0 (cA q) := by
  refine gMetZ (by decide) rfl (Nat.le_of_ble_eq_true rfl) ?_
  intro p e R s m args below meth c Q ls hR hx hb hml hown hts hK hE hP hl hret
  have hRf : 1 ≤ R.frames := by subst hR; exact Nat.le_refl _
  have hRl : 20 ≤ R.locals := by subst hR; exact Nat.le_refl _
  have hown : s.vm.findClass RX5 = some m.cls := hown
  have hl : lv_has ls 2 [(0, .ref (q 2)), (1, .int a1)] := hl
  have hS : va_S (cA q) s.heap s.heap [] := va_S.rf
  have hP : va_P D vwCl (cW q cI cO I F) s.heap := hP
  refine lv_iload_n hx hb dX5_acceptComma_0 rfl (lv_at hl 1 rfl) ?_
  refine lv_bipush (v := (44 : Int32)) hx hb dX5_acceptComma_1 (by decide) ?_
  refine lv_icmp_ne (tgt := 28) hx hb dX5_acceptComma_3 (by decide) (fun c1 => ?_) (fun c1 => ?_)
  · have h := h.1 c1
    refine lv_iconst (v := (0 : Int32)) hx hb dX5_acceptComma_28 (by decide) ?_
    exact hret (0 : Int32) (I, F) _ _ _ _ dX5_acceptComma_29 hP hS (by decide) h
  · have h := h.2 c1
    refine lv_aload_n hx hb dX5_acceptComma_6 rfl (lv_at hl 0 rfl) ?_
    refine va_get (D := D) (ci := 5) (v := .ref (q 3)) (C := RX5) (T := TX5) (N := 3) hx hb hts (fun _ h9 => List.mem_cons_of_mem _ (List.mem_append_left _ (List.mem_append_right _ h9))) hown hK hP 2 cAt2 rfl 0 (by decide) (hts _ (List.mem_of_getElem? (l := wsX5_acceptComma) (i := 1) rfl)) (fun _ h9 => h9) rfl dX5_acceptComma_7 ?_
    refine gCallI (D := D) (va_runV (As := []) (rest := []) ⟨hx, hb, hml, hown, hts⟩ (c_X2_tonesOfLast_3 l D q cI cO hq   I F _ h) (cwV 0 hts gX5_acceptComma_X2_tonesOfLast rfl rfl rfl (by decide +kernel) ⟨Nat.le_trans (Nat.le_of_ble_eq_true rfl) hRf, Nat.le_trans (Nat.le_of_ble_eq_true rfl) hRl⟩) (gPreV (ci := 2) (q0 := 3) cEok hE hK hP hS rfl cAt3) rfl rfl hl.1 rfl (lv_room (Nat.le_of_ble_eq_true rfl)) dX5_acceptComma_10 ⟨Nat.zero_le _, Nat.zero_le _⟩) hS (fun r2 _ H locs hP hS h => ?_)
    have hP : va_P D vwCl (cW q cI cO I F) H := hP
    refine lv_if_eq (tgt := 28) hx hb dX5_acceptComma_13 (by decide) (fun c3 => ?_) (fun c3 => ?_)
    · have h := h.1 c3
      refine lv_iconst (v := (0 : Int32)) hx hb dX5_acceptComma_28 (by decide) ?_
      exact hret (0 : Int32) (I, F) _ _ _ _ dX5_acceptComma_29 hP hS (by decide) h
    · have h := h.2 c3
      refine lv_aload_n hx hb dX5_acceptComma_16 rfl (lv_at hl 0 rfl) ?_
      refine va_get (D := D) (ci := 5) (v := .ref (q 3)) (C := RX5) (T := TX5) (N := 3) hx hb hts (fun _ h9 => List.mem_cons_of_mem _ (List.mem_append_left _ (List.mem_append_right _ h9))) hown hK hP 2 cAt2 rfl 0 (by decide) (hts _ (List.mem_of_getElem? (l := wsX5_acceptComma) (i := 1) rfl)) (fun _ h9 => h9) rfl dX5_acceptComma_17 ?_
      refine va_getN (D := D) (ci := 2) (v := .int (I 6)) (C := RX2) (T := TX2) (N := 4) hx hb hts (fun _ h9 => List.mem_cons_of_mem _ (List.mem_append_right _ h9)) hown hK hP 3 cAt3 rfl 1 (by decide) (va_Nw.use rfl (hE.1.1 _ (List.mem_of_getElem? (l := cNF) (i := 7) rfl))) (fun _ h9 => h9) rfl dX5_acceptComma_20 ?_
      refine lv_bipush (v := (8 : Int32)) hx hb dX5_acceptComma_23 (by decide) ?_
      refine lv_icmp_lt (tgt := 30) hx hb dX5_acceptComma_25 (by decide) (fun c4 => ?_) (fun c4 => ?_)
      · have h := h.1 c4
        refine lv_aload_n hx hb dX5_acceptComma_30 rfl (lv_at hl 0 rfl) ?_
        refine lv_iconst (v := (1 : Int32)) hx hb dX5_acceptComma_31 (by decide) ?_
        refine gPut (D := D) (ci := 5) (ty := .boolean) (C := RX5) (T := TX5) (N := 3) hx hb hts (fun _ h9 => List.mem_cons_of_mem _ (List.mem_append_left _ (List.mem_append_right _ h9))) tyX5 tyX5_ok nmX5 hown hK hP (cD hq) hS 2 cAt2 rfl 2 (by decide) (hts _ (List.mem_of_getElem? (l := wsX5_acceptComma) (i := 2) rfl)) (fun _ h9 => h9) rfl (by decide +kernel) (by decide) (by decide) (Nat.le_of_ble_eq_true rfl) dX5_acceptComma_32 (cSet4 (1 : Int32)) (fun H locs hP hS => ?_)
        obtain ⟨I5, eI5⟩ : ∃ z : Nat → Int32, z = upd I 4 (1 : Int32) := ⟨_, rfl⟩
        rw [← eI5] at hP
        have h := h I5 eI5
        refine lv_iconst (v := (1 : Int32)) hx hb dX5_acceptComma_35 (by decide) ?_
        exact hret (1 : Int32) (I5, F) _ _ _ _ dX5_acceptComma_36 hP hS (by decide) h
      · have h := h.2 c4
        refine lv_iconst (v := (0 : Int32)) hx hb dX5_acceptComma_28 (by decide) ?_
        exact hret (0 : Int32) (I, F) _ _ _ _ dX5_acceptComma_29 hP hS (by decide) h
def w_X5_kindOf (a0 : Int32) (I : Nat → Int32) (F : Nat → Nat → Int32) (post : Int32 → Prop) : Prop :=
  ((a0 = (98 : Int32) → post (4 : Int32)) ∧ (a0 = (99 : Int32) → post (0 : Int32)) ∧ (a0 = (103 : Int32) → post (1 : Int32)) ∧ (a0 = (104 : Int32) → post (2 : Int32)) ∧ (a0 = (113 : Int32) → post (3 : Int32)) ∧ (¬ a0 = (98 : Int32) → ¬ a0 = (99 : Int32) → ¬ a0 = (103 : Int32) → ¬ a0 = (104 : Int32) → ¬ a0 = (113 : Int32) → post (-1 : Int32)))
set_option maxHeartbeats 4000000 in
set_option maxRecDepth 100000 in
theorem c_X5_kindOf (l : Launch) (D : va_G) (q : Nat → Nat) (cI cO : ClassId) (hq : cOk q) (a0 : Int32)  (I : Nat → Int32) (F : Nat → Nat → Int32) (post : Int32 → Prop) (h : w_X5_kindOf a0 I F post) : Met l yX5_kindOf wsX5_kindOf ({ frames := 0, cells := 0, slots := 0, locals := 0 } : Room) (gPre D (cTys cI cO) (cW q cI cO I F) (cEnv q) [.int a0]) (va_Qi (fun r (_ : Unit) => post r) (gB D (fun _ : Unit => cW q cI cO I F)) (cA q)) 0 0 (cA q) := by
  refine gMetI (by decide) rfl (Nat.le_of_ble_eq_true rfl) ?_
  intro p e R s m args below meth c Q ls hR hx hb hml hown hts hK hE hP hl hret
  have hRf : 0 ≤ R.frames := by subst hR; exact Nat.le_refl _
  have hRl : 0 ≤ R.locals := by subst hR; exact Nat.le_refl _
  have hown : s.vm.findClass RX5 = some m.cls := hown
  have hl : lv_has ls 1 [(0, .int a0)] := hl
  have hS : va_S (cA q) s.heap s.heap [] := va_S.rf
  have hP : va_P D vwCl (cW q cI cO I F) s.heap := hP
  refine lv_iload_n hx hb dX5_kindOf_0 rfl (lv_at hl 0 rfl) ?_
  by_cases c1_0 : a0 = (98 : Int32)
  · have h := h.1 c1_0
    refine lv_lookup (tgt := 60) (off := 59) hx hb dX5_kindOf_1 (by decide) (by rw [c1_0]; rfl) (by decide) ?_
    refine lv_iconst (v := (4 : Int32)) hx hb dX5_kindOf_60 (by decide) ?_
    exact hret (4 : Int32) () _ _ _ _ dX5_kindOf_61 hP hS h
  by_cases c1_1 : a0 = (99 : Int32)
  · have h := h.2.1 c1_1
    refine lv_lookup (tgt := 52) (off := 51) hx hb dX5_kindOf_1 (by decide) (by rw [c1_1]; rfl) (by decide) ?_
    refine lv_iconst (v := (0 : Int32)) hx hb dX5_kindOf_52 (by decide) ?_
    exact hret (0 : Int32) () _ _ _ _ dX5_kindOf_53 hP hS h
  by_cases c1_2 : a0 = (103 : Int32)
  · have h := h.2.2.1 c1_2
    refine lv_lookup (tgt := 54) (off := 53) hx hb dX5_kindOf_1 (by decide) (by rw [c1_2]; rfl) (by decide) ?_
    refine lv_iconst (v := (1 : Int32)) hx hb dX5_kindOf_54 (by decide) ?_
    exact hret (1 : Int32) () _ _ _ _ dX5_kindOf_55 hP hS h
  by_cases c1_3 : a0 = (104 : Int32)
  · have h := h.2.2.2.1 c1_3
    refine lv_lookup (tgt := 56) (off := 55) hx hb dX5_kindOf_1 (by decide) (by rw [c1_3]; rfl) (by decide) ?_
    refine lv_iconst (v := (2 : Int32)) hx hb dX5_kindOf_56 (by decide) ?_
    exact hret (2 : Int32) () _ _ _ _ dX5_kindOf_57 hP hS h
  by_cases c1_4 : a0 = (113 : Int32)
  · have h := h.2.2.2.2.1 c1_4
    refine lv_lookup (tgt := 58) (off := 57) hx hb dX5_kindOf_1 (by decide) (by rw [c1_4]; rfl) (by decide) ?_
    refine lv_iconst (v := (3 : Int32)) hx hb dX5_kindOf_58 (by decide) ?_
    exact hret (3 : Int32) () _ _ _ _ dX5_kindOf_59 hP hS h
  have h := h.2.2.2.2.2 c1_0 c1_1 c1_2 c1_3 c1_4
  refine lv_lookup (tgt := 62) (off := 61) hx hb dX5_kindOf_1 (by decide) ((lv_osw c1_0 rfl).trans ((lv_osw c1_1 rfl).trans ((lv_osw c1_2 rfl).trans ((lv_osw c1_3 rfl).trans ((lv_osw c1_4 rfl).trans rfl))))) (by decide) ?_
  refine lv_iconst (v := (-1 : Int32)) hx hb dX5_kindOf_62 (by decide) ?_
  exact hret (-1 : Int32) () _ _ _ _ dX5_kindOf_63 hP hS h
def w_X2_insert_3_B29 (x1 : Int32) (x2 : Int32) (x3 : Int32) (k again : Int32 → (Nat → Int32) → (Nat → Nat → Int32) → Prop) (x4 : Int32) (I : Nat → Int32) (F : Nat → Nat → Int32) : Prop :=
  ((x4 ≤ x1 → k x4 I F) ∧ (¬ x4 ≤ x1 → vp_in (x4 - (1 : Int32)) 8 ∧ vp_in x4 8 ∧ ∀ F2 : Nat → Nat → Int32, F2 = upF F 15 (upd (F 15) (x4).toNatClampNeg (F 15 ((x4 - (1 : Int32))).toNatClampNeg)) → vp_in (x4 - (1 : Int32)) 8 ∧ vp_in x4 8 ∧ ∀ F3 : Nat → Nat → Int32, F3 = upF F2 16 (upd (F2 16) (x4).toNatClampNeg (F2 16 ((x4 - (1 : Int32))).toNatClampNeg)) → again (x4 + (-1 : Int32)) I F3))
def w_X2_insert_3 (a1 : Int32) (a2 : Int32) (a3 : Int32) (I : Nat → Int32) (F : Nat → Nat → Int32) (post : Int32 → (Nat → Int32) → (Nat → Nat → Int32) → Prop) : Prop :=
  (((8 : Int32) ≤ (I 6) → post (0 : Int32) I F) ∧ (¬ (8 : Int32) ≤ (I 6) → ((a1 < 0 → post (0 : Int32) I F) ∧ (¬ a1 < 0 → ((a1 ≤ (I 6) → ∀ v7 : Int32, v7 = (I 6) → gL (fun ag v => w_X2_insert_3_B29 a1 a2 a3 (fun (y8 : Int32) (I9 : Nat → Int32) (F10 : Nat → Nat → Int32) => vp_in a1 8 ∧ ∀ F11 : Nat → Nat → Int32, F11 = upF F10 15 (upd (F10 15) (a1).toNatClampNeg a2) → vp_in a1 8 ∧ ∀ F12 : Nat → Nat → Int32, F12 = upF F11 16 (upd (F11 16) (a1).toNatClampNeg a3) → ∀ I13 : Nat → Int32, I13 = upd I9 6 ((I9 6) + (1 : Int32)) → post (1 : Int32) I13 F12) (fun b0 b1 b2 => ag (b0, b1, b2)) v.1 v.2.1 v.2.2) (v7, I, F)) ∧ (¬ a1 ≤ (I 6) → post (0 : Int32) I F))))))
set_option maxHeartbeats 4000000 in
set_option maxRecDepth 100000 in
theorem c_X2_insert_3 (l : Launch) (D : va_G) (q : Nat → Nat) (cI cO : ClassId) (hq : cOk q) (a1 : Int32) (a2 : Int32) (a3 : Int32)  (I : Nat → Int32) (F : Nat → Nat → Int32) (post : Int32 → (Nat → Int32) → (Nat → Nat → Int32) → Prop) (h : w_X2_insert_3 a1 a2 a3 I F post) : Met l yX2_insert wsX2_insert ({ frames := 0, cells := 0, slots := 0, locals := 0 } : Room) (gPre D (cTys cI cO) (cW q cI cO I F) (cEnv q) [.ref (q 3), .int a1, .int a2, .int a3]) (va_Qi (fun r (u : cS) => post r u.1 u.2) (gB D (fun u : cS => cW q cI cO u.1 u.2)) (cA q)) 0 0 (cA q) := by
  refine gMetZ (by decide) rfl (Nat.le_of_ble_eq_true rfl) ?_
  intro p e R s m args below meth c Q ls hR hx hb hml hown hts hK hE hP hl hret
  have hRf : 0 ≤ R.frames := by subst hR; exact Nat.le_refl _
  have hRl : 0 ≤ R.locals := by subst hR; exact Nat.le_refl _
  have hown : s.vm.findClass RX2 = some m.cls := hown
  have hl : lv_has ls 5 [(0, .ref (q 3)), (1, .int a1), (2, .int a2), (3, .int a3)] := hl
  have hS : va_S (cA q) s.heap s.heap [] := va_S.rf
  have hP : va_P D vwCl (cW q cI cO I F) s.heap := hP
  have L29 : ∀ (n : Nat) (x1 : Int32) (x2 : Int32) (x3 : Int32) (k : Int32 → (Nat → Int32) → (Nat → Nat → Int32) → Prop) (x4 : Int32) (I : Nat → Int32) (F : Nat → Nat → Int32) (H : Heap) (locs : List Loc) (ls : Array Slot), va_P D vwCl (cW q cI cO I F) H → va_S (cA q) s.heap H locs → lv_has ls 5 [(0, .ref (q 3)), (1, .int x1), (2, .int x2), (3, .int x3), (4, .int x4)] → gLN (fun ag v => w_X2_insert_3_B29 x1 x2 x3 k (fun b0 b1 b2 => ag (b0, b1, b2)) v.1 v.2.1 v.2.2) n (x4, I, F) → (∀ (x4 : Int32) (I : Nat → Int32) (F : Nat → Nat → Int32) (H : Heap) (locs : List Loc) (ls : Array Slot), va_P D vwCl (cW q cI cO I F) H → va_S (cA q) s.heap H locs → lv_has ls 5 [(0, .ref (q 3)), (1, .int x1), (2, .int x2), (3, .int x3)] → k x4 I F → W p l e R s m args below meth c H locs 0 0 Q (F0 m 73 ls [])) → W p l e R s m args below meth c H locs 0 0 Q (F0 m 29 ls []) := by
    intro n
    induction n with
    | zero =>
      intro x1 x2 x3 k x4 I F H locs ls  hP hS hl h K
      exact False.elim h
    | succ n ih =>
      intro x1 x2 x3 k x4 I F H locs ls  hP hS hl h K
      have h : w_X2_insert_3_B29 x1 x2 x3 k (fun b0 b1 b2 => gLN (fun ag v => w_X2_insert_3_B29 x1 x2 x3 k (fun b0 b1 b2 => ag (b0, b1, b2)) v.1 v.2.1 v.2.2) n (b0, b1, b2)) x4 I F := h
      refine lv_iload hx hb dX2_insert_29 (lv_at hl 4 rfl) ?_
      refine lv_iload_n hx hb dX2_insert_31 rfl (lv_at hl 1 rfl) ?_
      refine lv_icmp_le (tgt := 73) hx hb dX2_insert_32 (by decide) (fun c1 => ?_) (fun c1 => ?_)
      · have h := h.1 c1
        exact K x4 I F _ _ _  hP hS (lv_sub hl [0, 1, 2, 3] rfl) h
      · have h := h.2 c1
        refine lv_aload_n hx hb dX2_insert_35 rfl (lv_at hl 0 rfl) ?_
        refine va_get (D := D) (ci := 2) (v := .ref (q 15)) (C := RX2) (T := TX2) (N := 4) hx hb hts (fun _ h9 => List.mem_cons_of_mem _ (List.mem_append_right _ h9)) hown hK hP 3 cAt3 rfl 2 (by decide) (hts _ (List.mem_of_getElem? (l := wsX2_insert) (i := 2) rfl)) (fun _ h9 => h9) rfl dX2_insert_36 ?_
        refine lv_iload hx hb dX2_insert_39 (lv_at hl 4 rfl) ?_
        refine lv_aload_n hx hb dX2_insert_41 rfl (lv_at hl 0 rfl) ?_
        refine va_get (D := D) (ci := 2) (v := .ref (q 15)) (C := RX2) (T := TX2) (N := 4) hx hb hts (fun _ h9 => List.mem_cons_of_mem _ (List.mem_append_right _ h9)) hown hK hP 3 cAt3 rfl 2 (by decide) (hts _ (List.mem_of_getElem? (l := wsX2_insert) (i := 2) rfl)) (fun _ h9 => h9) rfl dX2_insert_42 ?_
        refine lv_iload hx hb dX2_insert_45 (lv_at hl 4 rfl) ?_
        refine lv_iconst (v := (1 : Int32)) hx hb dX2_insert_47 (by decide) ?_
        refine lv_isub hx hb dX2_insert_48 ?_
        refine va_iald (D := D) hx hb hK hP 15 0 cAr15 rfl h.1 dX2_insert_49 ?_
        have h := h.2
        refine gAst (D := D) hx hb hK hP (cD hq) hS 15 0 cAr15 rfl h.1 dX2_insert_50 (cSA15 _) (fun H locs hP hS => ?_)
        obtain ⟨F2, eF2⟩ : ∃ z : Nat → Nat → Int32, z = upF F 15 (upd (F 15) (x4).toNatClampNeg (F 15 ((x4 - (1 : Int32))).toNatClampNeg)) := ⟨_, rfl⟩
        rw [← eF2] at hP
        have h := h.2 F2 eF2
        refine lv_aload_n hx hb dX2_insert_51 rfl (lv_at hl 0 rfl) ?_
        refine va_get (D := D) (ci := 2) (v := .ref (q 16)) (C := RX2) (T := TX2) (N := 4) hx hb hts (fun _ h9 => List.mem_cons_of_mem _ (List.mem_append_right _ h9)) hown hK hP 3 cAt3 rfl 3 (by decide) (hts _ (List.mem_of_getElem? (l := wsX2_insert) (i := 3) rfl)) (fun _ h9 => h9) rfl dX2_insert_52 ?_
        refine lv_iload hx hb dX2_insert_55 (lv_at hl 4 rfl) ?_
        refine lv_aload_n hx hb dX2_insert_57 rfl (lv_at hl 0 rfl) ?_
        refine va_get (D := D) (ci := 2) (v := .ref (q 16)) (C := RX2) (T := TX2) (N := 4) hx hb hts (fun _ h9 => List.mem_cons_of_mem _ (List.mem_append_right _ h9)) hown hK hP 3 cAt3 rfl 3 (by decide) (hts _ (List.mem_of_getElem? (l := wsX2_insert) (i := 3) rfl)) (fun _ h9 => h9) rfl dX2_insert_58 ?_
        refine lv_iload hx hb dX2_insert_61 (lv_at hl 4 rfl) ?_
        refine lv_iconst (v := (1 : Int32)) hx hb dX2_insert_63 (by decide) ?_
        refine lv_isub hx hb dX2_insert_64 ?_
        refine va_iald (D := D) hx hb hK hP 16 0 cAr16 rfl h.1 dX2_insert_65 ?_
        have h := h.2
        refine gAst (D := D) hx hb hK hP (cD hq) hS 16 0 cAr16 rfl h.1 dX2_insert_66 (cSA16 _) (fun H locs hP hS => ?_)
        obtain ⟨F3, eF3⟩ : ∃ z : Nat → Nat → Int32, z = upF F2 16 (upd (F2 16) (x4).toNatClampNeg (F2 16 ((x4 - (1 : Int32))).toNatClampNeg)) := ⟨_, rfl⟩
        rw [← eF3] at hP
        have h := h.2 F3 eF3
        refine lv_iinc (v := (x4 + (-1 : Int32))) (lv' := [(4, .int (x4 + (-1 : Int32))), (0, .ref (q 3)), (1, .int x1), (2, .int x2), (3, .int x3)]) hx hb dX2_insert_67 hl (k := 4) rfl rfl (by decide) rfl (fun ls hl => ?_)
        refine lv_goto (tgt := 29) hx hb dX2_insert_70 (by decide) ?_
        exact ih x1 x2 x3 _ (x4 + (-1 : Int32)) I F3 _ _ _  hP hS (lv_sub hl [1, 2, 3, 4, 0] rfl) h K
  refine lv_aload_n hx hb dX2_insert_0 rfl (lv_at hl 0 rfl) ?_
  refine va_get (D := D) (ci := 2) (v := .int (I 6)) (C := RX2) (T := TX2) (N := 4) hx hb hts (fun _ h9 => List.mem_cons_of_mem _ (List.mem_append_right _ h9)) hown hK hP 3 cAt3 rfl 1 (by decide) (hts _ (List.mem_of_getElem? (l := wsX2_insert) (i := 1) rfl)) (fun _ h9 => h9) rfl dX2_insert_1 ?_
  refine lv_bipush (v := (8 : Int32)) hx hb dX2_insert_4 (by decide) ?_
  refine lv_icmp_ge (tgt := 21) hx hb dX2_insert_6 (by decide) (fun c4 => ?_) (fun c4 => ?_)
  · have h := h.1 c4
    refine lv_iconst (v := (0 : Int32)) hx hb dX2_insert_21 (by decide) ?_
    exact hret (0 : Int32) (I, F) _ _ _ _ dX2_insert_22 hP hS (by decide) h
  · have h := h.2 c4
    refine lv_iload_n hx hb dX2_insert_9 rfl (lv_at hl 1 rfl) ?_
    refine lv_if_lt (tgt := 21) hx hb dX2_insert_10 (by decide) (fun c5 => ?_) (fun c5 => ?_)
    · have h := h.1 c5
      refine lv_iconst (v := (0 : Int32)) hx hb dX2_insert_21 (by decide) ?_
      exact hret (0 : Int32) (I, F) _ _ _ _ dX2_insert_22 hP hS (by decide) h
    · have h := h.2 c5
      refine lv_iload_n hx hb dX2_insert_13 rfl (lv_at hl 1 rfl) ?_
      refine lv_aload_n hx hb dX2_insert_14 rfl (lv_at hl 0 rfl) ?_
      refine va_get (D := D) (ci := 2) (v := .int (I 6)) (C := RX2) (T := TX2) (N := 4) hx hb hts (fun _ h9 => List.mem_cons_of_mem _ (List.mem_append_right _ h9)) hown hK hP 3 cAt3 rfl 1 (by decide) (hts _ (List.mem_of_getElem? (l := wsX2_insert) (i := 1) rfl)) (fun _ h9 => h9) rfl dX2_insert_15 ?_
      refine lv_icmp_le (tgt := 23) hx hb dX2_insert_18 (by decide) (fun c6 => ?_) (fun c6 => ?_)
      · have h := h.1 c6
        refine lv_aload_n hx hb dX2_insert_23 rfl (lv_at hl 0 rfl) ?_
        refine va_get (D := D) (ci := 2) (v := .int (I 6)) (C := RX2) (T := TX2) (N := 4) hx hb hts (fun _ h9 => List.mem_cons_of_mem _ (List.mem_append_right _ h9)) hown hK hP 3 cAt3 rfl 1 (by decide) (hts _ (List.mem_of_getElem? (l := wsX2_insert) (i := 1) rfl)) (fun _ h9 => h9) rfl dX2_insert_24 ?_
        refine lv_topi (fun v7 ev7 => ?_)
        have h := h v7 ev7
        refine lv_istore (lv' := [(4, .int v7), (0, .ref (q 3)), (1, .int a1), (2, .int a2), (3, .int a3)]) hx hb dX2_insert_27 hl (by decide) rfl (fun ls hl => ?_)
        obtain ⟨n, h⟩ := h
        refine L29 n a1 a2 a3 _ v7 I F _ _ _  hP hS (lv_sub hl [1, 2, 3, 4, 0] rfl) h (fun y8 I9 F10 H locs ls  hP hS hl h => ?_)
        refine lv_aload_n hx hb dX2_insert_73 rfl (lv_at hl 0 rfl) ?_
        refine va_get (D := D) (ci := 2) (v := .ref (q 15)) (C := RX2) (T := TX2) (N := 4) hx hb hts (fun _ h9 => List.mem_cons_of_mem _ (List.mem_append_right _ h9)) hown hK hP 3 cAt3 rfl 2 (by decide) (hts _ (List.mem_of_getElem? (l := wsX2_insert) (i := 2) rfl)) (fun _ h9 => h9) rfl dX2_insert_74 ?_
        refine lv_iload_n hx hb dX2_insert_77 rfl (lv_at hl 1 rfl) ?_
        refine lv_iload_n hx hb dX2_insert_78 rfl (lv_at hl 2 rfl) ?_
        refine gAst (D := D) hx hb hK hP (cD hq) hS 15 0 cAr15 rfl h.1 dX2_insert_79 (cSA15 _) (fun H locs hP hS => ?_)
        obtain ⟨F11, eF11⟩ : ∃ z : Nat → Nat → Int32, z = upF F10 15 (upd (F10 15) (a1).toNatClampNeg a2) := ⟨_, rfl⟩
        rw [← eF11] at hP
        have h := h.2 F11 eF11
        refine lv_aload_n hx hb dX2_insert_80 rfl (lv_at hl 0 rfl) ?_
        refine va_get (D := D) (ci := 2) (v := .ref (q 16)) (C := RX2) (T := TX2) (N := 4) hx hb hts (fun _ h9 => List.mem_cons_of_mem _ (List.mem_append_right _ h9)) hown hK hP 3 cAt3 rfl 3 (by decide) (hts _ (List.mem_of_getElem? (l := wsX2_insert) (i := 3) rfl)) (fun _ h9 => h9) rfl dX2_insert_81 ?_
        refine lv_iload_n hx hb dX2_insert_84 rfl (lv_at hl 1 rfl) ?_
        refine lv_iload_n hx hb dX2_insert_85 rfl (lv_at hl 3 rfl) ?_
        refine gAst (D := D) hx hb hK hP (cD hq) hS 16 0 cAr16 rfl h.1 dX2_insert_86 (cSA16 _) (fun H locs hP hS => ?_)
        obtain ⟨F12, eF12⟩ : ∃ z : Nat → Nat → Int32, z = upF F11 16 (upd (F11 16) (a1).toNatClampNeg a3) := ⟨_, rfl⟩
        rw [← eF12] at hP
        have h := h.2 F12 eF12
        refine lv_aload_n hx hb dX2_insert_87 rfl (lv_at hl 0 rfl) ?_
        refine lv_dup hx hb dX2_insert_88 rfl ?_
        refine va_get (D := D) (ci := 2) (v := .int (I9 6)) (C := RX2) (T := TX2) (N := 4) hx hb hts (fun _ h9 => List.mem_cons_of_mem _ (List.mem_append_right _ h9)) hown hK hP 3 cAt3 rfl 1 (by decide) (hts _ (List.mem_of_getElem? (l := wsX2_insert) (i := 1) rfl)) (fun _ h9 => h9) rfl dX2_insert_89 ?_
        refine lv_iconst (v := (1 : Int32)) hx hb dX2_insert_92 (by decide) ?_
        refine lv_iadd hx hb dX2_insert_93 ?_
        refine gPut (D := D) (ci := 2) (ty := .int) (C := RX2) (T := TX2) (N := 4) hx hb hts (fun _ h9 => List.mem_cons_of_mem _ (List.mem_append_right _ h9)) tyX2 tyX2_ok nmX2 hown hK hP (cD hq) hS 3 cAt3 rfl 1 (by decide) (hts _ (List.mem_of_getElem? (l := wsX2_insert) (i := 1) rfl)) (fun _ h9 => h9) rfl (by decide +kernel) rfl rfl (Nat.le_of_ble_eq_true rfl) dX2_insert_94 (cSet6 ((I9 6) + (1 : Int32))) (fun H locs hP hS => ?_)
        obtain ⟨I13, eI13⟩ : ∃ z : Nat → Int32, z = upd I9 6 ((I9 6) + (1 : Int32)) := ⟨_, rfl⟩
        rw [← eI13] at hP
        have h := h I13 eI13
        refine lv_iconst (v := (1 : Int32)) hx hb dX2_insert_97 (by decide) ?_
        exact hret (1 : Int32) (I13, F12) _ _ _ _ dX2_insert_98 hP hS (by decide) h
      · have h := h.2 c6
        refine lv_iconst (v := (0 : Int32)) hx hb dX2_insert_21 (by decide) ?_
        exact hret (0 : Int32) (I, F) _ _ _ _ dX2_insert_22 hP hS (by decide) h
def w_X5_acceptKind_2 (a1 : Int32) (I : Nat → Int32) (F : Nat → Nat → Int32) (post : Int32 → (Nat → Int32) → (Nat → Nat → Int32) → Prop) : Prop :=
  w_X5_kindOf a1 I F (fun (r1 : Int32) => ((¬ r1 = (-1 : Int32) → ∀ I3 : Nat → Int32, I3 = upd I 4 (0 : Int32) → w_X2_insert_3 (I3 6) r1 (0 : Int32) I3 F (fun (r4 : Int32) (I5 : Nat → Int32) (F6 : Nat → Nat → Int32) => ((r4 = 0 ∨ r4 = 1) ∧ post r4 I5 F6))) ∧ (r1 = (-1 : Int32) → post (0 : Int32) I F)))
set_option maxHeartbeats 4000000 in
set_option maxRecDepth 100000 in
theorem c_X5_acceptKind_2 (l : Launch) (D : va_G) (q : Nat → Nat) (cI cO : ClassId) (hq : cOk q) (a1 : Int32)  (I : Nat → Int32) (F : Nat → Nat → Int32) (post : Int32 → (Nat → Int32) → (Nat → Nat → Int32) → Prop) (h : w_X5_acceptKind_2 a1 I F post) : Met l yX5_acceptKind wsX5_acceptKind ({ frames := 1, cells := 0, slots := 0, locals := 24 } : Room) (gPre D (cTys cI cO) (cW q cI cO I F) (cEnv q) [.ref (q 2), .int a1]) (va_Qi (fun r (u : cS) => post r u.1 u.2) (gB D (fun u : cS => cW q cI cO u.1 u.2)) (cA q)) 0 0 (cA q) := by
  refine gMetZ (by decide) rfl (Nat.le_of_ble_eq_true rfl) ?_
  intro p e R s m args below meth c Q ls hR hx hb hml hown hts hK hE hP hl hret
  have hRf : 1 ≤ R.frames := by subst hR; exact Nat.le_refl _
  have hRl : 24 ≤ R.locals := by subst hR; exact Nat.le_refl _
  have hown : s.vm.findClass RX5 = some m.cls := hown
  have hl : lv_has ls 3 [(0, .ref (q 2)), (1, .int a1)] := hl
  have hS : va_S (cA q) s.heap s.heap [] := va_S.rf
  have hP : va_P D vwCl (cW q cI cO I F) s.heap := hP
  refine lv_iload_n hx hb dX5_acceptKind_0 rfl (lv_at hl 1 rfl) ?_
  refine gCallI (D := D) (va_runS (As := [.int a1]) (rest := []) ⟨hx, hb, hml, hown, hts⟩ (c_X5_kindOf l D q cI cO hq a1  I F _ h) (va_cwS 1 hts gX5_acceptKind_X5_kindOf rfl rfl rfl (by decide +kernel) ⟨Nat.le_trans (Nat.le_of_ble_eq_true rfl) hRf, Nat.le_trans (Nat.le_of_ble_eq_true rfl) hRl⟩) (gPreS cEok hE hK hP hS) rfl rfl hl.1 rfl (lv_room (Nat.le_of_ble_eq_true rfl)) dX5_acceptKind_1 ⟨Nat.zero_le _, Nat.zero_le _⟩) hS (fun r1 _ H locs hP hS h => ?_)
  have hP : va_P D vwCl (cW q cI cO I F) H := hP
  refine lv_istore_n (lv' := [(2, .int r1), (0, .ref (q 2)), (1, .int a1)]) hx hb dX5_acceptKind_4 rfl hl (by decide) rfl (fun ls hl => ?_)
  refine lv_iload_n hx hb dX5_acceptKind_5 rfl (lv_at hl 0 rfl) ?_
  refine lv_iconst (v := (-1 : Int32)) hx hb dX5_acceptKind_6 (by decide) ?_
  refine lv_icmp_ne (tgt := 12) hx hb dX5_acceptKind_7 (by decide) (fun c2 => ?_) (fun c2 => ?_)
  · have h := h.1 c2
    refine lv_aload_n hx hb dX5_acceptKind_12 rfl (lv_at hl 1 rfl) ?_
    refine lv_iconst (v := (0 : Int32)) hx hb dX5_acceptKind_13 (by decide) ?_
    refine gPut (D := D) (ci := 5) (ty := .boolean) (C := RX5) (T := TX5) (N := 3) hx hb hts (fun _ h9 => List.mem_cons_of_mem _ (List.mem_append_left _ (List.mem_append_right _ h9))) tyX5 tyX5_ok nmX5 hown hK hP (cD hq) hS 2 cAt2 rfl 2 (by decide) (hts _ (List.mem_of_getElem? (l := wsX5_acceptKind) (i := 1) rfl)) (fun _ h9 => h9) rfl (by decide +kernel) (by decide) (by decide) (Nat.le_of_ble_eq_true rfl) dX5_acceptKind_14 (cSet4 (0 : Int32)) (fun H locs hP hS => ?_)
    obtain ⟨I3, eI3⟩ : ∃ z : Nat → Int32, z = upd I 4 (0 : Int32) := ⟨_, rfl⟩
    rw [← eI3] at hP
    have h := h I3 eI3
    refine lv_aload_n hx hb dX5_acceptKind_17 rfl (lv_at hl 1 rfl) ?_
    refine va_get (D := D) (ci := 5) (v := .ref (q 3)) (C := RX5) (T := TX5) (N := 3) hx hb hts (fun _ h9 => List.mem_cons_of_mem _ (List.mem_append_left _ (List.mem_append_right _ h9))) hown hK hP 2 cAt2 rfl 0 (by decide) (hts _ (List.mem_of_getElem? (l := wsX5_acceptKind) (i := 2) rfl)) (fun _ h9 => h9) rfl dX5_acceptKind_18 ?_
    refine lv_aload_n hx hb dX5_acceptKind_21 rfl (lv_at hl 1 rfl) ?_
    refine va_get (D := D) (ci := 5) (v := .ref (q 3)) (C := RX5) (T := TX5) (N := 3) hx hb hts (fun _ h9 => List.mem_cons_of_mem _ (List.mem_append_left _ (List.mem_append_right _ h9))) hown hK hP 2 cAt2 rfl 0 (by decide) (hts _ (List.mem_of_getElem? (l := wsX5_acceptKind) (i := 2) rfl)) (fun _ h9 => h9) rfl dX5_acceptKind_22 ?_
    refine va_getN (D := D) (ci := 2) (v := .int (I3 6)) (C := RX2) (T := TX2) (N := 4) hx hb hts (fun _ h9 => List.mem_cons_of_mem _ (List.mem_append_right _ h9)) hown hK hP 3 cAt3 rfl 1 (by decide) (va_Nw.use rfl (hE.1.1 _ (List.mem_of_getElem? (l := cNF) (i := 7) rfl))) (fun _ h9 => h9) rfl dX5_acceptKind_25 ?_
    refine lv_iload_n hx hb dX5_acceptKind_28 rfl (lv_at hl 0 rfl) ?_
    refine lv_iconst (v := (0 : Int32)) hx hb dX5_acceptKind_29 (by decide) ?_
    refine gCallI (D := D) (va_runV (As := [.int (I3 6), .int r1, .int (0 : Int32)]) (rest := []) ⟨hx, hb, hml, hown, hts⟩ (c_X2_insert_3 l D q cI cO hq (I3 6) r1 (0 : Int32)  I3 F _ h) (cwV 3 hts gX5_acceptKind_X2_insert rfl rfl rfl (by decide +kernel) ⟨Nat.le_trans (Nat.le_of_ble_eq_true rfl) hRf, Nat.le_trans (Nat.le_of_ble_eq_true rfl) hRl⟩) (gPreV (ci := 2) (q0 := 3) cEok hE hK hP hS rfl cAt3) rfl rfl hl.1 rfl (lv_room (Nat.le_of_ble_eq_true rfl)) dX5_acceptKind_30 ⟨Nat.zero_le _, Nat.zero_le _⟩) hS (fun r4 u H locs hP hS h => ?_)
    obtain ⟨I5, F6⟩ := u
    have hP : va_P D vwCl (cW q cI cO I5 F6) H := hP
    exact hret r4 (I5, F6) _ _ _ _ dX5_acceptKind_33 hP hS h.1 h.2
  · have h := h.2 c2
    refine lv_iconst (v := (0 : Int32)) hx hb dX5_acceptKind_10 (by decide) ?_
    exact hret (0 : Int32) (I, F) _ _ _ _ dX5_acceptKind_11 hP hS (by decide) h
def w_X8_isPosition (a0 : Int32) (I : Nat → Int32) (F : Nat → Nat → Int32) (post : Int32 → Prop) : Prop :=
  ((a0 < 0 → post (0 : Int32)) ∧ (¬ a0 < 0 → (((3 : Int32) ≤ a0 → post (0 : Int32)) ∧ (¬ (3 : Int32) ≤ a0 → post (1 : Int32)))))
set_option maxHeartbeats 4000000 in
set_option maxRecDepth 100000 in
theorem c_X8_isPosition (l : Launch) (D : va_G) (q : Nat → Nat) (cI cO : ClassId) (hq : cOk q) (a0 : Int32)  (I : Nat → Int32) (F : Nat → Nat → Int32) (post : Int32 → Prop) (h : w_X8_isPosition a0 I F post) : Met l yX8_isPosition wsX8_isPosition ({ frames := 0, cells := 0, slots := 0, locals := 0 } : Room) (gPre D (cTys cI cO) (cW q cI cO I F) (cEnv q) [.int a0]) (va_Qi (fun r (_ : Unit) => post r) (gB D (fun _ : Unit => cW q cI cO I F)) (cA q)) 0 0 (cA q) := by
  refine gMetZ (by decide) rfl (Nat.le_of_ble_eq_true rfl) ?_
  intro p e R s m args below meth c Q ls hR hx hb hml hown hts hK hE hP hl hret
  have hRf : 0 ≤ R.frames := by subst hR; exact Nat.le_refl _
  have hRl : 0 ≤ R.locals := by subst hR; exact Nat.le_refl _
  have hown : s.vm.findClass RX8 = some m.cls := hown
  have hl : lv_has ls 1 [(0, .int a0)] := hl
  have hS : va_S (cA q) s.heap s.heap [] := va_S.rf
  have hP : va_P D vwCl (cW q cI cO I F) s.heap := hP
  refine lv_iload_n hx hb dX8_isPosition_0 rfl (lv_at hl 0 rfl) ?_
  refine lv_if_lt (tgt := 13) hx hb dX8_isPosition_1 (by decide) (fun c1 => ?_) (fun c1 => ?_)
  · have h := h.1 c1
    refine lv_iconst (v := (0 : Int32)) hx hb dX8_isPosition_13 (by decide) ?_
    exact hret (0 : Int32) () _ _ _ _ dX8_isPosition_14 hP hS (by decide) h
  · have h := h.2 c1
    refine lv_iload_n hx hb dX8_isPosition_4 rfl (lv_at hl 0 rfl) ?_
    refine lv_iconst (v := (3 : Int32)) hx hb dX8_isPosition_5 (by decide) ?_
    refine lv_icmp_ge (tgt := 13) hx hb dX8_isPosition_6 (by decide) (fun c2 => ?_) (fun c2 => ?_)
    · have h := h.1 c2
      refine lv_iconst (v := (0 : Int32)) hx hb dX8_isPosition_13 (by decide) ?_
      exact hret (0 : Int32) () _ _ _ _ dX8_isPosition_14 hP hS (by decide) h
    · have h := h.2 c2
      refine lv_iconst (v := (1 : Int32)) hx hb dX8_isPosition_9 (by decide) ?_
      refine lv_goto (tgt := 14) hx hb dX8_isPosition_10 (by decide) ?_
      exact hret (1 : Int32) () _ _ _ _ dX8_isPosition_14 hP hS (by decide) h
def w_X5_acceptPosition_2 (a1 : Int32) (I : Nat → Int32) (F : Nat → Nat → Int32) (post : Int32 → (Nat → Int32) → (Nat → Nat → Int32) → Prop) : Prop :=
  ∀ v1 : Int32, v1 = (a1 - (48 : Int32)) → w_X8_isPosition v1 I F (fun (r2 : Int32) => ((¬ r2 = 0 → ∀ I4 : Nat → Int32, I4 = upd I 5 (((I 5) * (3 : Int32)) + v1) → post (1 : Int32) I4 F) ∧ (r2 = 0 → post (0 : Int32) I F)))
set_option maxHeartbeats 4000000 in
set_option maxRecDepth 100000 in
theorem c_X5_acceptPosition_2 (l : Launch) (D : va_G) (q : Nat → Nat) (cI cO : ClassId) (hq : cOk q) (a1 : Int32)  (I : Nat → Int32) (F : Nat → Nat → Int32) (post : Int32 → (Nat → Int32) → (Nat → Nat → Int32) → Prop) (h : w_X5_acceptPosition_2 a1 I F post) : Met l yX5_acceptPosition wsX5_acceptPosition ({ frames := 1, cells := 0, slots := 0, locals := 20 } : Room) (gPre D (cTys cI cO) (cW q cI cO I F) (cEnv q) [.ref (q 2), .int a1]) (va_Qi (fun r (u : cS) => post r u.1 u.2) (gB D (fun u : cS => cW q cI cO u.1 u.2)) (cA q)) 0 0 (cA q) := by
  refine gMetZ (by decide) rfl (Nat.le_of_ble_eq_true rfl) ?_
  intro p e R s m args below meth c Q ls hR hx hb hml hown hts hK hE hP hl hret
  have hRf : 1 ≤ R.frames := by subst hR; exact Nat.le_refl _
  have hRl : 20 ≤ R.locals := by subst hR; exact Nat.le_refl _
  have hown : s.vm.findClass RX5 = some m.cls := hown
  have hl : lv_has ls 3 [(0, .ref (q 2)), (1, .int a1)] := hl
  have hS : va_S (cA q) s.heap s.heap [] := va_S.rf
  have hP : va_P D vwCl (cW q cI cO I F) s.heap := hP
  refine lv_iload_n hx hb dX5_acceptPosition_0 rfl (lv_at hl 1 rfl) ?_
  refine lv_bipush (v := (48 : Int32)) hx hb dX5_acceptPosition_1 (by decide) ?_
  refine lv_isub hx hb dX5_acceptPosition_3 ?_
  refine lv_topi (fun v1 ev1 => ?_)
  have h := h v1 ev1
  refine lv_istore_n (lv' := [(2, .int v1), (0, .ref (q 2)), (1, .int a1)]) hx hb dX5_acceptPosition_4 rfl hl (by decide) rfl (fun ls hl => ?_)
  refine lv_iload_n hx hb dX5_acceptPosition_5 rfl (lv_at hl 0 rfl) ?_
  refine gCallI (D := D) (va_runSN (As := [.int v1]) (rest := []) ⟨hx, hb, hml, hown, hts⟩ (c_X8_isPosition l D q cI cO hq v1  I F _ h) ⟨va_cnB 1 hts gX5_acceptPosition_X8_isPosition_n46 rfl rfl rfl (hE.1.2 _ (List.mem_of_getElem? (l := cNM) (i := 7) rfl)) (hts _ (List.mem_of_getElem? (l := wsX5_acceptPosition) (i := 3) rfl)) (by decide +kernel) ⟨Nat.le_trans (Nat.le_of_ble_eq_true rfl) hRf, Nat.le_trans (Nat.le_of_ble_eq_true rfl) hRl⟩, (hts _ (List.mem_of_getElem? (l := wsX5_acceptPosition) (i := 2) rfl)), trivial⟩ (gPreS cEok hE hK hP hS) rfl rfl hl.1 rfl (lv_room (Nat.le_of_ble_eq_true rfl)) dX5_acceptPosition_6 ⟨Nat.zero_le _, Nat.zero_le _⟩) hS (fun r2 _ H locs hP hS h => ?_)
  have hP : va_P D vwCl (cW q cI cO I F) H := hP
  refine lv_if_ne (tgt := 14) hx hb dX5_acceptPosition_9 (by decide) (fun c3 => ?_) (fun c3 => ?_)
  · have h := h.1 c3
    refine lv_aload_n hx hb dX5_acceptPosition_14 rfl (lv_at hl 1 rfl) ?_
    refine va_get (D := D) (ci := 5) (v := .ref (q 3)) (C := RX5) (T := TX5) (N := 3) hx hb hts (fun _ h9 => List.mem_cons_of_mem _ (List.mem_append_left _ (List.mem_append_right _ h9))) hown hK hP 2 cAt2 rfl 0 (by decide) (hts _ (List.mem_of_getElem? (l := wsX5_acceptPosition) (i := 1) rfl)) (fun _ h9 => h9) rfl dX5_acceptPosition_15 ?_
    refine lv_aload_n hx hb dX5_acceptPosition_18 rfl (lv_at hl 1 rfl) ?_
    refine va_get (D := D) (ci := 5) (v := .ref (q 3)) (C := RX5) (T := TX5) (N := 3) hx hb hts (fun _ h9 => List.mem_cons_of_mem _ (List.mem_append_left _ (List.mem_append_right _ h9))) hown hK hP 2 cAt2 rfl 0 (by decide) (hts _ (List.mem_of_getElem? (l := wsX5_acceptPosition) (i := 1) rfl)) (fun _ h9 => h9) rfl dX5_acceptPosition_19 ?_
    refine va_getN (D := D) (ci := 2) (v := .int (I 5)) (C := RX2) (T := TX2) (N := 4) hx hb hts (fun _ h9 => List.mem_cons_of_mem _ (List.mem_append_right _ h9)) hown hK hP 3 cAt3 rfl 0 (by decide) (va_Nw.use rfl (hE.1.1 _ (List.mem_of_getElem? (l := cNF) (i := 2) rfl))) (fun _ h9 => h9) rfl dX5_acceptPosition_22 ?_
    refine lv_iconst (v := (3 : Int32)) hx hb dX5_acceptPosition_25 (by decide) ?_
    refine lv_imul hx hb dX5_acceptPosition_26 ?_
    refine lv_iload_n hx hb dX5_acceptPosition_27 rfl (lv_at hl 0 rfl) ?_
    refine lv_iadd hx hb dX5_acceptPosition_28 ?_
    refine gPutN (D := D) (ci := 2) (ty := .int) (C := RX2) (T := TX2) (N := 4) hx hb hts (fun _ h9 => List.mem_cons_of_mem _ (List.mem_append_right _ h9)) tyX2 tyX2_ok nmX2 hown hK hP (cD hq) hS 3 cAt3 rfl 0 (by decide) (va_Nw.use rfl (hE.1.1 _ (List.mem_of_getElem? (l := cNF) (i := 2) rfl))) (fun _ h9 => h9) rfl (by decide +kernel) rfl rfl (Nat.le_of_ble_eq_true rfl) dX5_acceptPosition_29 (cSet5 (((I 5) * (3 : Int32)) + v1)) (fun H locs hP hS => ?_)
    obtain ⟨I4, eI4⟩ : ∃ z : Nat → Int32, z = upd I 5 (((I 5) * (3 : Int32)) + v1) := ⟨_, rfl⟩
    rw [← eI4] at hP
    have h := h I4 eI4
    refine lv_iconst (v := (1 : Int32)) hx hb dX5_acceptPosition_32 (by decide) ?_
    exact hret (1 : Int32) (I4, F) _ _ _ _ dX5_acceptPosition_33 hP hS (by decide) h
  · have h := h.2 c3
    refine lv_iconst (v := (0 : Int32)) hx hb dX5_acceptPosition_12 (by decide) ?_
    exact hret (0 : Int32) (I, F) _ _ _ _ dX5_acceptPosition_13 hP hS (by decide) h
def w_X5_accept_2_J80 (x2 : Int32) (I : Nat → Int32) (F : Nat → Nat → Int32) (post : Int32 → (Nat → Int32) → (Nat → Nat → Int32) → Prop) : Prop :=
  ((x2 = 0 → ((x2 = 0 ∨ x2 = 1) ∧ post x2 I F)) ∧ (¬ x2 = 0 → ∀ I2 : Nat → Int32, I2 = upd I 3 ((I 3) + (1 : Int32)) → ((x2 = 0 ∨ x2 = 1) ∧ post x2 I2 F)))
def w_X5_accept_2_J79 (z0 : Int32) (I : Nat → Int32) (F : Nat → Nat → Int32) (post : Int32 → (Nat → Int32) → (Nat → Nat → Int32) → Prop) : Prop :=
  w_X5_accept_2_J80 z0 I F post
def w_X5_accept_2_J74 (I : Nat → Int32) (F : Nat → Nat → Int32) (post : Int32 → (Nat → Int32) → (Nat → Nat → Int32) → Prop) : Prop :=
  w_X5_accept_2_J79 (1 : Int32) I F post
def w_X5_accept_2_J38 (z0 : Int32) (I : Nat → Int32) (F : Nat → Nat → Int32) (post : Int32 → (Nat → Int32) → (Nat → Nat → Int32) → Prop) : Prop :=
  w_X5_accept_2_J80 z0 I F post
def w_X5_accept_2 (a1 : Int32) (I : Nat → Int32) (F : Nat → Nat → Int32) (post : Int32 → (Nat → Int32) → (Nat → Nat → Int32) → Prop) : Prop :=
  (((7 : Int32) ≤ (I 3) → ((¬ (I 3) = (7 : Int32) → (((I 4) = 0 → w_X5_acceptTone_2 a1 I F (fun (r6 : Int32) (I7 : Nat → Int32) (F8 : Nat → Nat → Int32) => ((¬ r6 = 0 → w_X5_accept_2_J74 I7 F8 post) ∧ (r6 = 0 → w_X5_acceptComma_2 a1 I7 F8 (fun (r10 : Int32) (I11 : Nat → Int32) (F12 : Nat → Nat → Int32) => ((r10 = 0 → w_X5_accept_2_J79 (0 : Int32) I11 F12 post) ∧ (¬ r10 = 0 → w_X5_accept_2_J74 I11 F12 post))))))) ∧ (¬ (I 4) = 0 → w_X5_acceptKind_2 a1 I F (fun (r14 : Int32) (I15 : Nat → Int32) (F16 : Nat → Nat → Int32) => w_X5_accept_2_J80 r14 I15 F16 post)))) ∧ ((I 3) = (7 : Int32) → ((¬ a1 = (59 : Int32) → w_X5_accept_2_J38 (0 : Int32) I F post) ∧ (a1 = (59 : Int32) → w_X5_accept_2_J38 (1 : Int32) I F post))))) ∧ (¬ (7 : Int32) ≤ (I 3) → w_X5_acceptPosition_2 a1 I F (fun (r18 : Int32) (I19 : Nat → Int32) (F20 : Nat → Nat → Int32) => w_X5_accept_2_J80 r18 I19 F20 post)))
set_option maxHeartbeats 4000000 in
set_option maxRecDepth 100000 in
theorem c_X5_accept_2 (l : Launch) (D : va_G) (q : Nat → Nat) (cI cO : ClassId) (hq : cOk q) (a1 : Int32)  (I : Nat → Int32) (F : Nat → Nat → Int32) (post : Int32 → (Nat → Int32) → (Nat → Nat → Int32) → Prop) (h : w_X5_accept_2 a1 I F post) : Met l yX5_accept wsX5_accept ({ frames := 2, cells := 0, slots := 0, locals := 46 } : Room) (gPre D (cTys cI cO) (cW q cI cO I F) (cEnv q) [.ref (q 2), .int a1]) (va_Qi (fun r (u : cS) => post r u.1 u.2) (gB D (fun u : cS => cW q cI cO u.1 u.2)) (cA q)) 0 0 (cA q) := by
  refine gMetZ (by decide) rfl (Nat.le_of_ble_eq_true rfl) ?_
  intro p e R s m args below meth c Q ls hR hx hb hml hown hts hK hE hP hl hret
  have hRf : 2 ≤ R.frames := by subst hR; exact Nat.le_refl _
  have hRl : 46 ≤ R.locals := by subst hR; exact Nat.le_refl _
  have hown : s.vm.findClass RX5 = some m.cls := hown
  have hl : lv_has ls 3 [(0, .ref (q 2)), (1, .int a1)] := hl
  have hS : va_S (cA q) s.heap s.heap [] := va_S.rf
  have hP : va_P D vwCl (cW q cI cO I F) s.heap := hP
  have J80 : ∀ (x2 : Int32) (I : Nat → Int32) (F : Nat → Nat → Int32) (H : Heap) (locs : List Loc) (ls : Array Slot), va_P D vwCl (cW q cI cO I F) H → va_S (cA q) s.heap H locs → lv_has ls 3 [(0, .ref (q 2)), (2, .int x2)] → w_X5_accept_2_J80 x2 I F post → W p l e R s m args below meth c H locs 0 0 Q (F0 m 80 ls []) := by
    intro x2 I F H locs ls  hP hS hl h
    refine lv_iload_n hx hb dX5_accept_80 rfl (lv_at hl 1 rfl) ?_
    refine lv_if_eq (tgt := 94) hx hb dX5_accept_81 (by decide) (fun c1 => ?_) (fun c1 => ?_)
    · have h := h.1 c1
      refine lv_iload_n hx hb dX5_accept_94 rfl (lv_at hl 1 rfl) ?_
      exact hret x2 (I, F) _ _ _ _ dX5_accept_95 hP hS h.1 h.2
    · have h := h.2 c1
      refine lv_aload_n hx hb dX5_accept_84 rfl (lv_at hl 0 rfl) ?_
      refine lv_dup hx hb dX5_accept_85 rfl ?_
      refine va_get (D := D) (ci := 5) (v := .int (I 3)) (C := RX5) (T := TX5) (N := 3) hx hb hts (fun _ h9 => List.mem_cons_of_mem _ (List.mem_append_left _ (List.mem_append_right _ h9))) hown hK hP 2 cAt2 rfl 1 (by decide) (hts _ (List.mem_of_getElem? (l := wsX5_accept) (i := 1) rfl)) (fun _ h9 => h9) rfl dX5_accept_86 ?_
      refine lv_iconst (v := (1 : Int32)) hx hb dX5_accept_89 (by decide) ?_
      refine lv_iadd hx hb dX5_accept_90 ?_
      refine gPut (D := D) (ci := 5) (ty := .int) (C := RX5) (T := TX5) (N := 3) hx hb hts (fun _ h9 => List.mem_cons_of_mem _ (List.mem_append_left _ (List.mem_append_right _ h9))) tyX5 tyX5_ok nmX5 hown hK hP (cD hq) hS 2 cAt2 rfl 1 (by decide) (hts _ (List.mem_of_getElem? (l := wsX5_accept) (i := 1) rfl)) (fun _ h9 => h9) rfl (by decide +kernel) rfl rfl (Nat.le_of_ble_eq_true rfl) dX5_accept_91 (cSet3 ((I 3) + (1 : Int32))) (fun H locs hP hS => ?_)
      obtain ⟨I2, eI2⟩ : ∃ z : Nat → Int32, z = upd I 3 ((I 3) + (1 : Int32)) := ⟨_, rfl⟩
      rw [← eI2] at hP
      have h := h I2 eI2
      refine lv_iload_n hx hb dX5_accept_94 rfl (lv_at hl 1 rfl) ?_
      exact hret x2 (I2, F) _ _ _ _ dX5_accept_95 hP hS h.1 h.2
  have J79 : ∀ (z0 : Int32) (I : Nat → Int32) (F : Nat → Nat → Int32) (H : Heap) (locs : List Loc) (ls : Array Slot), va_P D vwCl (cW q cI cO I F) H → va_S (cA q) s.heap H locs → lv_has ls 3 [(0, .ref (q 2))] → w_X5_accept_2_J79 z0 I F post → W p l e R s m args below meth c H locs 0 0 Q (F0 m 79 ls [.int z0]) := by
    intro z0 I F H locs ls  hP hS hl h
    refine lv_istore_n (lv' := [(2, .int z0), (0, .ref (q 2))]) hx hb dX5_accept_79 rfl hl (by decide) rfl (fun ls hl => ?_)
    exact J80 z0 I F _ _ _  hP hS (lv_sub hl [1, 0] rfl) h
  have J74 : ∀ (I : Nat → Int32) (F : Nat → Nat → Int32) (H : Heap) (locs : List Loc) (ls : Array Slot), va_P D vwCl (cW q cI cO I F) H → va_S (cA q) s.heap H locs → lv_has ls 3 [(0, .ref (q 2))] → w_X5_accept_2_J74 I F post → W p l e R s m args below meth c H locs 0 0 Q (F0 m 74 ls []) := by
    intro I F H locs ls  hP hS hl h
    refine lv_iconst (v := (1 : Int32)) hx hb dX5_accept_74 (by decide) ?_
    refine lv_goto (tgt := 79) hx hb dX5_accept_75 (by decide) ?_
    exact J79 (1 : Int32) I F _ _ _  hP hS (lv_sub hl [0] rfl) h
  have J38 : ∀ (z0 : Int32) (I : Nat → Int32) (F : Nat → Nat → Int32) (H : Heap) (locs : List Loc) (ls : Array Slot), va_P D vwCl (cW q cI cO I F) H → va_S (cA q) s.heap H locs → lv_has ls 3 [(0, .ref (q 2))] → w_X5_accept_2_J38 z0 I F post → W p l e R s m args below meth c H locs 0 0 Q (F0 m 38 ls [.int z0]) := by
    intro z0 I F H locs ls  hP hS hl h
    refine lv_istore_n (lv' := [(2, .int z0), (0, .ref (q 2))]) hx hb dX5_accept_38 rfl hl (by decide) rfl (fun ls hl => ?_)
    refine lv_goto (tgt := 80) hx hb dX5_accept_39 (by decide) ?_
    exact J80 z0 I F _ _ _  hP hS (lv_sub hl [1, 0] rfl) h
  refine lv_aload_n hx hb dX5_accept_0 rfl (lv_at hl 0 rfl) ?_
  refine va_get (D := D) (ci := 5) (v := .int (I 3)) (C := RX5) (T := TX5) (N := 3) hx hb hts (fun _ h9 => List.mem_cons_of_mem _ (List.mem_append_left _ (List.mem_append_right _ h9))) hown hK hP 2 cAt2 rfl 1 (by decide) (hts _ (List.mem_of_getElem? (l := wsX5_accept) (i := 1) rfl)) (fun _ h9 => h9) rfl dX5_accept_1 ?_
  refine lv_bipush (v := (7 : Int32)) hx hb dX5_accept_4 (by decide) ?_
  refine lv_icmp_ge (tgt := 18) hx hb dX5_accept_6 (by decide) (fun c3 => ?_) (fun c3 => ?_)
  · have h := h.1 c3
    refine lv_aload_n hx hb dX5_accept_18 rfl (lv_at hl 0 rfl) ?_
    refine va_get (D := D) (ci := 5) (v := .int (I 3)) (C := RX5) (T := TX5) (N := 3) hx hb hts (fun _ h9 => List.mem_cons_of_mem _ (List.mem_append_left _ (List.mem_append_right _ h9))) hown hK hP 2 cAt2 rfl 1 (by decide) (hts _ (List.mem_of_getElem? (l := wsX5_accept) (i := 1) rfl)) (fun _ h9 => h9) rfl dX5_accept_19 ?_
    refine lv_bipush (v := (7 : Int32)) hx hb dX5_accept_22 (by decide) ?_
    refine lv_icmp_ne (tgt := 42) hx hb dX5_accept_24 (by decide) (fun c4 => ?_) (fun c4 => ?_)
    · have h := h.1 c4
      refine lv_aload_n hx hb dX5_accept_42 rfl (lv_at hl 0 rfl) ?_
      refine va_get (D := D) (ci := 5) (v := .int (I 4)) (C := RX5) (T := TX5) (N := 3) hx hb hts (fun _ h9 => List.mem_cons_of_mem _ (List.mem_append_left _ (List.mem_append_right _ h9))) hown hK hP 2 cAt2 rfl 2 (by decide) (hts _ (List.mem_of_getElem? (l := wsX5_accept) (i := 2) rfl)) (fun _ h9 => h9) rfl dX5_accept_43 ?_
      refine lv_if_eq (tgt := 58) hx hb dX5_accept_46 (by decide) (fun c5 => ?_) (fun c5 => ?_)
      · have h := h.1 c5
        refine lv_aload_n hx hb dX5_accept_58 rfl (lv_at hl 0 rfl) ?_
        refine lv_iload_n hx hb dX5_accept_59 rfl (lv_at hl 1 rfl) ?_
        refine gCallI (D := D) (va_runV (As := [.int a1]) (rest := []) ⟨hx, hb, hml, hown, hts⟩ (c_X5_acceptTone_2 l D q cI cO hq a1  I F _ h) (cwV 1 hts gX5_accept_X5_acceptTone rfl rfl rfl (by decide +kernel) ⟨Nat.le_trans (Nat.le_of_ble_eq_true rfl) hRf, Nat.le_trans (Nat.le_of_ble_eq_true rfl) hRl⟩) (gPreV (ci := 5) (q0 := 2) cEok hE hK hP hS rfl cAt2) rfl rfl hl.1 rfl (lv_room (Nat.le_of_ble_eq_true rfl)) dX5_accept_60 ⟨Nat.zero_le _, Nat.zero_le _⟩) hS (fun r6 u H locs hP hS h => ?_)
        obtain ⟨I7, F8⟩ := u
        have hP : va_P D vwCl (cW q cI cO I7 F8) H := hP
        refine lv_if_ne (tgt := 74) hx hb dX5_accept_63 (by decide) (fun c9 => ?_) (fun c9 => ?_)
        · have h := h.1 c9
          exact J74 I7 F8 _ _ _  hP hS (lv_sub hl [0] rfl) h
        · have h := h.2 c9
          refine lv_aload_n hx hb dX5_accept_66 rfl (lv_at hl 0 rfl) ?_
          refine lv_iload_n hx hb dX5_accept_67 rfl (lv_at hl 1 rfl) ?_
          refine gCallI (D := D) (va_runV (As := [.int a1]) (rest := []) ⟨hx, hb, hml, hown, hts⟩ (c_X5_acceptComma_2 l D q cI cO hq a1  I7 F8 _ h) (cwV 1 hts gX5_accept_X5_acceptComma rfl rfl rfl (by decide +kernel) ⟨Nat.le_trans (Nat.le_of_ble_eq_true rfl) hRf, Nat.le_trans (Nat.le_of_ble_eq_true rfl) hRl⟩) (gPreV (ci := 5) (q0 := 2) cEok hE hK hP hS rfl cAt2) rfl rfl hl.1 rfl (lv_room (Nat.le_of_ble_eq_true rfl)) dX5_accept_68 ⟨Nat.zero_le _, Nat.zero_le _⟩) hS (fun r10 u H locs hP hS h => ?_)
          obtain ⟨I11, F12⟩ := u
          have hP : va_P D vwCl (cW q cI cO I11 F12) H := hP
          refine lv_if_eq (tgt := 78) hx hb dX5_accept_71 (by decide) (fun c13 => ?_) (fun c13 => ?_)
          · have h := h.1 c13
            refine lv_iconst (v := (0 : Int32)) hx hb dX5_accept_78 (by decide) ?_
            exact J79 (0 : Int32) I11 F12 _ _ _  hP hS (lv_sub hl [0] rfl) h
          · have h := h.2 c13
            exact J74 I11 F12 _ _ _  hP hS (lv_sub hl [0] rfl) h
      · have h := h.2 c5
        refine lv_aload_n hx hb dX5_accept_49 rfl (lv_at hl 0 rfl) ?_
        refine lv_iload_n hx hb dX5_accept_50 rfl (lv_at hl 1 rfl) ?_
        refine gCallI (D := D) (va_runV (As := [.int a1]) (rest := []) ⟨hx, hb, hml, hown, hts⟩ (c_X5_acceptKind_2 l D q cI cO hq a1  I F _ h) (cwV 1 hts gX5_accept_X5_acceptKind rfl rfl rfl (by decide +kernel) ⟨Nat.le_trans (Nat.le_of_ble_eq_true rfl) hRf, Nat.le_trans (Nat.le_of_ble_eq_true rfl) hRl⟩) (gPreV (ci := 5) (q0 := 2) cEok hE hK hP hS rfl cAt2) rfl rfl hl.1 rfl (lv_room (Nat.le_of_ble_eq_true rfl)) dX5_accept_51 ⟨Nat.zero_le _, Nat.zero_le _⟩) hS (fun r14 u H locs hP hS h => ?_)
        obtain ⟨I15, F16⟩ := u
        have hP : va_P D vwCl (cW q cI cO I15 F16) H := hP
        refine lv_istore_n (lv' := [(2, .int r14), (0, .ref (q 2)), (1, .int a1)]) hx hb dX5_accept_54 rfl hl (by decide) rfl (fun ls hl => ?_)
        refine lv_goto (tgt := 80) hx hb dX5_accept_55 (by decide) ?_
        exact J80 r14 I15 F16 _ _ _  hP hS (lv_sub hl [1, 0] rfl) h
    · have h := h.2 c4
      refine lv_iload_n hx hb dX5_accept_27 rfl (lv_at hl 1 rfl) ?_
      refine lv_bipush (v := (59 : Int32)) hx hb dX5_accept_28 (by decide) ?_
      refine lv_icmp_ne (tgt := 37) hx hb dX5_accept_30 (by decide) (fun c17 => ?_) (fun c17 => ?_)
      · have h := h.1 c17
        refine lv_iconst (v := (0 : Int32)) hx hb dX5_accept_37 (by decide) ?_
        exact J38 (0 : Int32) I F _ _ _  hP hS (lv_sub hl [0] rfl) h
      · have h := h.2 c17
        refine lv_iconst (v := (1 : Int32)) hx hb dX5_accept_33 (by decide) ?_
        refine lv_goto (tgt := 38) hx hb dX5_accept_34 (by decide) ?_
        exact J38 (1 : Int32) I F _ _ _  hP hS (lv_sub hl [0] rfl) h
  · have h := h.2 c3
    refine lv_aload_n hx hb dX5_accept_9 rfl (lv_at hl 0 rfl) ?_
    refine lv_iload_n hx hb dX5_accept_10 rfl (lv_at hl 1 rfl) ?_
    refine gCallI (D := D) (va_runV (As := [.int a1]) (rest := []) ⟨hx, hb, hml, hown, hts⟩ (c_X5_acceptPosition_2 l D q cI cO hq a1  I F _ h) (cwV 1 hts gX5_accept_X5_acceptPosition rfl rfl rfl (by decide +kernel) ⟨Nat.le_trans (Nat.le_of_ble_eq_true rfl) hRf, Nat.le_trans (Nat.le_of_ble_eq_true rfl) hRl⟩) (gPreV (ci := 5) (q0 := 2) cEok hE hK hP hS rfl cAt2) rfl rfl hl.1 rfl (lv_room (Nat.le_of_ble_eq_true rfl)) dX5_accept_11 ⟨Nat.zero_le _, Nat.zero_le _⟩) hS (fun r18 u H locs hP hS h => ?_)
    obtain ⟨I19, F20⟩ := u
    have hP : va_P D vwCl (cW q cI cO I19 F20) H := hP
    refine lv_istore_n (lv' := [(2, .int r18), (0, .ref (q 2)), (1, .int a1)]) hx hb dX5_accept_14 rfl hl (by decide) rfl (fun ls hl => ?_)
    refine lv_goto (tgt := 80) hx hb dX5_accept_15 (by decide) ?_
    exact J80 r18 I19 F20 _ _ _  hP hS (lv_sub hl [1, 0] rfl) h
def w_X2_clear_3  (I : Nat → Int32) (F : Nat → Nat → Int32) (post : (Nat → Int32) → (Nat → Nat → Int32) → Prop) : Prop :=
  ∀ I1 : Nat → Int32, I1 = upd I 5 (0 : Int32) → ∀ I2 : Nat → Int32, I2 = upd I1 6 (0 : Int32) → post I2 F
set_option maxHeartbeats 4000000 in
set_option maxRecDepth 100000 in
theorem c_X2_clear_3 (l : Launch) (D : va_G) (q : Nat → Nat) (cI cO : ClassId) (hq : cOk q)   (I : Nat → Int32) (F : Nat → Nat → Int32) (post : (Nat → Int32) → (Nat → Nat → Int32) → Prop) (h : w_X2_clear_3  I F post) : Met l yX2_clear wsX2_clear ({ frames := 0, cells := 0, slots := 0, locals := 0 } : Room) (gPre D (cTys cI cO) (cW q cI cO I F) (cEnv q) [.ref (q 3)]) (va_Qv (fun (u : cS) => post u.1 u.2) (gB D (fun u : cS => cW q cI cO u.1 u.2)) (cA q)) 0 0 (cA q) := by
  refine gMetV (by decide) rfl (Nat.le_of_ble_eq_true rfl) ?_
  intro p e R s m args below meth c Q ls hR hx hb hml hown hts hK hE hP hl hret
  have hRf : 0 ≤ R.frames := by subst hR; exact Nat.le_refl _
  have hRl : 0 ≤ R.locals := by subst hR; exact Nat.le_refl _
  have hown : s.vm.findClass RX2 = some m.cls := hown
  have hl : lv_has ls 1 [(0, .ref (q 3))] := hl
  have hS : va_S (cA q) s.heap s.heap [] := va_S.rf
  have hP : va_P D vwCl (cW q cI cO I F) s.heap := hP
  refine lv_aload_n hx hb dX2_clear_0 rfl (lv_at hl 0 rfl) ?_
  refine lv_iconst (v := (0 : Int32)) hx hb dX2_clear_1 (by decide) ?_
  refine gPut (D := D) (ci := 2) (ty := .int) (C := RX2) (T := TX2) (N := 4) hx hb hts (fun _ h9 => List.mem_cons_of_mem _ (List.mem_append_right _ h9)) tyX2 tyX2_ok nmX2 hown hK hP (cD hq) hS 3 cAt3 rfl 0 (by decide) (hts _ (List.mem_of_getElem? (l := wsX2_clear) (i := 1) rfl)) (fun _ h9 => h9) rfl (by decide +kernel) rfl rfl (Nat.le_of_ble_eq_true rfl) dX2_clear_2 (cSet5 (0 : Int32)) (fun H locs hP hS => ?_)
  obtain ⟨I1, eI1⟩ : ∃ z : Nat → Int32, z = upd I 5 (0 : Int32) := ⟨_, rfl⟩
  rw [← eI1] at hP
  have h := h I1 eI1
  refine lv_aload_n hx hb dX2_clear_5 rfl (lv_at hl 0 rfl) ?_
  refine lv_iconst (v := (0 : Int32)) hx hb dX2_clear_6 (by decide) ?_
  refine gPut (D := D) (ci := 2) (ty := .int) (C := RX2) (T := TX2) (N := 4) hx hb hts (fun _ h9 => List.mem_cons_of_mem _ (List.mem_append_right _ h9)) tyX2 tyX2_ok nmX2 hown hK hP (cD hq) hS 3 cAt3 rfl 1 (by decide) (hts _ (List.mem_of_getElem? (l := wsX2_clear) (i := 2) rfl)) (fun _ h9 => h9) rfl (by decide +kernel) rfl rfl (Nat.le_of_ble_eq_true rfl) dX2_clear_7 (cSet6 (0 : Int32)) (fun H locs hP hS => ?_)
  obtain ⟨I2, eI2⟩ : ∃ z : Nat → Int32, z = upd I1 6 (0 : Int32) := ⟨_, rfl⟩
  rw [← eI2] at hP
  have h := h I2 eI2
  exact hret (I2, F) _ _ _ _ dX2_clear_10 hP hS h
def w_X5_restart_2  (I : Nat → Int32) (F : Nat → Nat → Int32) (post : (Nat → Int32) → (Nat → Nat → Int32) → Prop) : Prop :=
  w_X2_clear_3 I F (fun (I1 : Nat → Int32) (F2 : Nat → Nat → Int32) => ∀ I3 : Nat → Int32, I3 = upd I1 3 (0 : Int32) → ∀ I4 : Nat → Int32, I4 = upd I3 4 (1 : Int32) → post I4 F2)
set_option maxHeartbeats 4000000 in
set_option maxRecDepth 100000 in
theorem c_X5_restart_2 (l : Launch) (D : va_G) (q : Nat → Nat) (cI cO : ClassId) (hq : cOk q)   (I : Nat → Int32) (F : Nat → Nat → Int32) (post : (Nat → Int32) → (Nat → Nat → Int32) → Prop) (h : w_X5_restart_2  I F post) : Met l yX5_restart wsX5_restart ({ frames := 1, cells := 0, slots := 0, locals := 20 } : Room) (gPre D (cTys cI cO) (cW q cI cO I F) (cEnv q) [.ref (q 2)]) (va_Qv (fun (u : cS) => post u.1 u.2) (gB D (fun u : cS => cW q cI cO u.1 u.2)) (cA q)) 0 0 (cA q) := by
  refine gMetV (by decide) rfl (Nat.le_of_ble_eq_true rfl) ?_
  intro p e R s m args below meth c Q ls hR hx hb hml hown hts hK hE hP hl hret
  have hRf : 1 ≤ R.frames := by subst hR; exact Nat.le_refl _
  have hRl : 20 ≤ R.locals := by subst hR; exact Nat.le_refl _
  have hown : s.vm.findClass RX5 = some m.cls := hown
  have hl : lv_has ls 1 [(0, .ref (q 2))] := hl
  have hS : va_S (cA q) s.heap s.heap [] := va_S.rf
  have hP : va_P D vwCl (cW q cI cO I F) s.heap := hP
  refine lv_aload_n hx hb dX5_restart_0 rfl (lv_at hl 0 rfl) ?_
  refine va_get (D := D) (ci := 5) (v := .ref (q 3)) (C := RX5) (T := TX5) (N := 3) hx hb hts (fun _ h9 => List.mem_cons_of_mem _ (List.mem_append_left _ (List.mem_append_right _ h9))) hown hK hP 2 cAt2 rfl 0 (by decide) (hts _ (List.mem_of_getElem? (l := wsX5_restart) (i := 1) rfl)) (fun _ h9 => h9) rfl dX5_restart_1 ?_
  refine gCallV (D := D) (va_runV (As := []) (rest := []) ⟨hx, hb, hml, hown, hts⟩ (c_X2_clear_3 l D q cI cO hq   I F _ h) (cwV 0 hts gX5_restart_X2_clear rfl rfl rfl (by decide +kernel) ⟨Nat.le_trans (Nat.le_of_ble_eq_true rfl) hRf, Nat.le_trans (Nat.le_of_ble_eq_true rfl) hRl⟩) (gPreV (ci := 2) (q0 := 3) cEok hE hK hP hS rfl cAt3) rfl rfl hl.1 rfl (lv_room (Nat.le_of_ble_eq_true rfl)) dX5_restart_4 ⟨Nat.zero_le _, Nat.zero_le _⟩) hS (fun u H locs hP hS h => ?_)
  obtain ⟨I1, F2⟩ := u
  have hP : va_P D vwCl (cW q cI cO I1 F2) H := hP
  refine lv_aload_n hx hb dX5_restart_7 rfl (lv_at hl 0 rfl) ?_
  refine lv_iconst (v := (0 : Int32)) hx hb dX5_restart_8 (by decide) ?_
  refine gPut (D := D) (ci := 5) (ty := .int) (C := RX5) (T := TX5) (N := 3) hx hb hts (fun _ h9 => List.mem_cons_of_mem _ (List.mem_append_left _ (List.mem_append_right _ h9))) tyX5 tyX5_ok nmX5 hown hK hP (cD hq) hS 2 cAt2 rfl 1 (by decide) (hts _ (List.mem_of_getElem? (l := wsX5_restart) (i := 2) rfl)) (fun _ h9 => h9) rfl (by decide +kernel) rfl rfl (Nat.le_of_ble_eq_true rfl) dX5_restart_9 (cSet3 (0 : Int32)) (fun H locs hP hS => ?_)
  obtain ⟨I3, eI3⟩ : ∃ z : Nat → Int32, z = upd I1 3 (0 : Int32) := ⟨_, rfl⟩
  rw [← eI3] at hP
  have h := h I3 eI3
  refine lv_aload_n hx hb dX5_restart_12 rfl (lv_at hl 0 rfl) ?_
  refine lv_iconst (v := (1 : Int32)) hx hb dX5_restart_13 (by decide) ?_
  refine gPut (D := D) (ci := 5) (ty := .boolean) (C := RX5) (T := TX5) (N := 3) hx hb hts (fun _ h9 => List.mem_cons_of_mem _ (List.mem_append_left _ (List.mem_append_right _ h9))) tyX5 tyX5_ok nmX5 hown hK hP (cD hq) hS 2 cAt2 rfl 2 (by decide) (hts _ (List.mem_of_getElem? (l := wsX5_restart) (i := 3) rfl)) (fun _ h9 => h9) rfl (by decide +kernel) (by decide) (by decide) (Nat.le_of_ble_eq_true rfl) dX5_restart_14 (cSet4 (1 : Int32)) (fun H locs hP hS => ?_)
  obtain ⟨I4, eI4⟩ : ∃ z : Nat → Int32, z = upd I3 4 (1 : Int32) := ⟨_, rfl⟩
  rw [← eI4] at hP
  have h := h I4 eI4
  exact hret (I4, F2) _ _ _ _ dX5_restart_17 hP hS h
