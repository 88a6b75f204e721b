def w_X9_take_B34  (k again : Int32 → (Nat → Int32) → (Nat → Nat → Int32) → Int64 → Prop) (x2 : Int32) (I : Nat → Int32) (F : Nat → Nat → Int32) (hs : Int64) : Prop :=
  (((I 3) ≤ x2 → k x2 I F hs) ∧ (¬ (I 3) ≤ x2 → vp_in (x2 + (1 : Int32)) 8 ∧ vp_in x2 8 ∧ ∀ F2 : Nat → Nat → Int32, F2 = upF F 14 (upd (F 14) (x2).toNatClampNeg (F 14 ((x2 + (1 : Int32))).toNatClampNeg)) → vp_in (x2 + (1 : Int32)) 8 ∧ vp_in x2 8 ∧ ∀ F3 : Nat → Nat → Int32, F3 = upF F2 15 (upd (F2 15) (x2).toNatClampNeg (F2 15 ((x2 + (1 : Int32))).toNatClampNeg)) → again (x2 + (1 : Int32)) I F3 hs))
def w_X9_take (a1 : Int32) (I : Nat → Int32) (F : Nat → Nat → Int32) (hs : Int64) (post : Int32 → (Nat → Int32) → (Nat → Nat → Int32) → Int64 → Prop) : Prop :=
  w_X9_isChord a1 I F hs (fun (r4 : Int32) => ((¬ r4 = 0 → ((¬ (I 3) = (1 : Int32) → ∀ I7 : Nat → Int32, I7 = upd I 3 ((I 3) - (1 : Int32)) → gL (fun ag v => w_X9_take_B34  (fun (y8 : Int32) (I9 : Nat → Int32) (F10 : Nat → Nat → Int32) (hs11 : Int64) => ∀ I12 : Nat → Int32, I12 = upd I9 6 (1 : Int32) → post (I12 3) I12 F10 hs11) (fun b0 b1 b2 b3 => ag (b0, b1, b2, b3)) v.1 v.2.1 v.2.2.1 v.2.2.2) (a1, I7, F, hs)) ∧ ((I 3) = (1 : Int32) → post (-103 : Int32) I F hs))) ∧ (r4 = 0 → post (-101 : Int32) I F hs)))
set_option maxHeartbeats 4000000 in
set_option maxRecDepth 100000 in
theorem c_X9_take (l : Launch) (D : va_G) (q : Nat → Nat) (cI cO : ClassId) (hq : mOk q) (a1 : Int32)  (I : Nat → Int32) (F : Nat → Nat → Int32) (hs : Int64) (post : Int32 → (Nat → Int32) → (Nat → Nat → Int32) → Int64 → Prop) (h : w_X9_take a1 I F hs post) : Met l yX9_take wsX9_take ({ frames := 2, cells := 0, slots := 0, locals := 46 } : Room) (gPre D (mTys cI) (mW q cI cO I F hs) mEnv [.ref (q 0), .int a1]) (va_Qi (fun r (u : mS) => post r u.1 u.2.1 u.2.2) (gB D (fun u : mS => mW q cI cO u.1 u.2.1 u.2.2)) (mA q)) 0 0 (mA q) := by
  refine gMetI (by decide) rfl (Nat.le_of_ble_eq_true rfl) ?_
  intro p e R s m args below meth c Q ls hR hx hb hml hown hts hK hE hP hl hret
  have hRf : 2 ≤ R.frames := by subst hR; exact Nat.le_refl _
  have hRl : 46 ≤ R.locals := by subst hR; exact Nat.le_refl _
  have hown : s.vm.findClass RX9 = some m.cls := hown
  have hl : lv_has ls 3 [(0, .ref (q 0)), (1, .int a1)] := hl
  have hS : va_S (mA q) s.heap s.heap [] := va_S.rf
  have hP : va_P D vwCl (mW q cI cO I F hs) s.heap := hP
  have L34 : ∀ (n : Nat)  (k : Int32 → (Nat → Int32) → (Nat → Nat → Int32) → Int64 → Prop) (x2 : Int32) (I : Nat → Int32) (F : Nat → Nat → Int32) (hs : Int64) (H : Heap) (locs : List Loc) (ls : Array Slot), va_P D vwCl (mW q cI cO I F hs) H → va_S (mA q) s.heap H locs → lv_has ls 3 [(0, .ref (q 0)), (2, .int x2)] → gLN (fun ag v => w_X9_take_B34  k (fun b0 b1 b2 b3 => ag (b0, b1, b2, b3)) v.1 v.2.1 v.2.2.1 v.2.2.2) n (x2, I, F, hs) → (∀ (x2 : Int32) (I : Nat → Int32) (F : Nat → Nat → Int32) (hs : Int64) (H : Heap) (locs : List Loc) (ls : Array Slot), va_P D vwCl (mW q cI cO I F hs) H → va_S (mA q) s.heap H locs → lv_has ls 3 [(0, .ref (q 0))] → k x2 I F hs → W p l e R s m args below meth c H locs 0 0 Q (F0 m 76 ls [])) → W p l e R s m args below meth c H locs 0 0 Q (F0 m 34 ls []) := by
    intro n
    induction n with
    | zero =>
      intro  k x2 I F hs H locs ls  hP hS hl h K
      exact False.elim h
    | succ n ih =>
      intro  k x2 I F hs H locs ls  hP hS hl h K
      have h : w_X9_take_B34  k (fun b0 b1 b2 b3 => gLN (fun ag v => w_X9_take_B34  k (fun b0 b1 b2 b3 => ag (b0, b1, b2, b3)) v.1 v.2.1 v.2.2.1 v.2.2.2) n (b0, b1, b2, b3)) x2 I F hs := h
      refine lv_iload_n hx hb dX9_take_34 rfl (lv_at hl 1 rfl) ?_
      refine lv_aload_n hx hb dX9_take_35 rfl (lv_at hl 0 rfl) ?_
      refine va_get (D := D) (ci := 9) (v := .int (I 3)) (C := RX9) (T := TX9) (N := 44) hx hb hts (fun _ h9 => List.mem_cons_of_mem _ (List.mem_append_right _ h9)) hown hK hP 0 mAt0 rfl 16 (by decide) (hts _ (List.mem_of_getElem? (l := wsX9_take) (i := 1) rfl)) (fun _ h9 => h9) rfl dX9_take_36 ?_
      refine lv_icmp_ge (tgt := 76) hx hb dX9_take_39 (by decide) (fun c1 => ?_) (fun c1 => ?_)
      · have h := h.1 c1
        exact K x2 I F hs _ _ _  hP hS (lv_sub hl [0] rfl) h
      · have h := h.2 c1
        refine lv_aload_n hx hb dX9_take_42 rfl (lv_at hl 0 rfl) ?_
        refine va_get (D := D) (ci := 9) (v := .ref (q 14)) (C := RX9) (T := TX9) (N := 44) hx hb hts (fun _ h9 => List.mem_cons_of_mem _ (List.mem_append_right _ h9)) hown hK hP 0 mAt0 rfl 19 (by decide) (hts _ (List.mem_of_getElem? (l := wsX9_take) (i := 2) rfl)) (fun _ h9 => h9) rfl dX9_take_43 ?_
        refine lv_iload_n hx hb dX9_take_46 rfl (lv_at hl 1 rfl) ?_
        refine lv_aload_n hx hb dX9_take_47 rfl (lv_at hl 0 rfl) ?_
        refine va_get (D := D) (ci := 9) (v := .ref (q 14)) (C := RX9) (T := TX9) (N := 44) hx hb hts (fun _ h9 => List.mem_cons_of_mem _ (List.mem_append_right _ h9)) hown hK hP 0 mAt0 rfl 19 (by decide) (hts _ (List.mem_of_getElem? (l := wsX9_take) (i := 2) rfl)) (fun _ h9 => h9) rfl dX9_take_48 ?_
        refine lv_iload_n hx hb dX9_take_51 rfl (lv_at hl 1 rfl) ?_
        refine lv_iconst (v := (1 : Int32)) hx hb dX9_take_52 (by decide) ?_
        refine lv_iadd hx hb dX9_take_53 ?_
        refine va_iald (D := D) hx hb hK hP 14 0 mAr14 rfl h.1 dX9_take_54 ?_
        have h := h.2
        refine gAst (D := D) hx hb hK hP (mD hq) hS 14 0 mAr14 rfl h.1 dX9_take_55 (mSA14 _) (fun H locs hP hS => ?_)
        obtain ⟨F2, eF2⟩ : ∃ z : Nat → Nat → Int32, z = upF F 14 (upd (F 14) (x2).toNatClampNeg (F 14 ((x2 + (1 : Int32))).toNatClampNeg)) := ⟨_, rfl⟩
        rw [← eF2] at hP
        have h := h.2 F2 eF2
        refine lv_aload_n hx hb dX9_take_56 rfl (lv_at hl 0 rfl) ?_
        refine va_get (D := D) (ci := 9) (v := .ref (q 15)) (C := RX9) (T := TX9) (N := 44) hx hb hts (fun _ h9 => List.mem_cons_of_mem _ (List.mem_append_right _ h9)) hown hK hP 0 mAt0 rfl 20 (by decide) (hts _ (List.mem_of_getElem? (l := wsX9_take) (i := 3) rfl)) (fun _ h9 => h9) rfl dX9_take_57 ?_
        refine lv_iload_n hx hb dX9_take_60 rfl (lv_at hl 1 rfl) ?_
        refine lv_aload_n hx hb dX9_take_61 rfl (lv_at hl 0 rfl) ?_
        refine va_get (D := D) (ci := 9) (v := .ref (q 15)) (C := RX9) (T := TX9) (N := 44) hx hb hts (fun _ h9 => List.mem_cons_of_mem _ (List.mem_append_right _ h9)) hown hK hP 0 mAt0 rfl 20 (by decide) (hts _ (List.mem_of_getElem? (l := wsX9_take) (i := 3) rfl)) (fun _ h9 => h9) rfl dX9_take_62 ?_
        refine lv_iload_n hx hb dX9_take_65 rfl (lv_at hl 1 rfl) ?_
        refine lv_iconst (v := (1 : Int32)) hx hb dX9_take_66 (by decide) ?_
        refine lv_iadd hx hb dX9_take_67 ?_
        refine va_iald (D := D) hx hb hK hP 15 0 mAr15 rfl h.1 dX9_take_68 ?_
        have h := h.2
        refine gAst (D := D) hx hb hK hP (mD hq) hS 15 0 mAr15 rfl h.1 dX9_take_69 (mSA15 _) (fun H locs hP hS => ?_)
        obtain ⟨F3, eF3⟩ : ∃ z : Nat → Nat → Int32, z = upF F2 15 (upd (F2 15) (x2).toNatClampNeg (F2 15 ((x2 + (1 : Int32))).toNatClampNeg)) := ⟨_, rfl⟩
        rw [← eF3] at hP
        have h := h.2 F3 eF3
        refine lv_iinc (v := (x2 + (1 : Int32))) (lv' := [(2, .int (x2 + (1 : Int32))), (0, .ref (q 0))]) hx hb dX9_take_70 hl (k := 1) rfl rfl (by decide) rfl (fun ls hl => ?_)
        refine lv_goto (tgt := 34) hx hb dX9_take_73 (by decide) ?_
        exact ih  _ (x2 + (1 : Int32)) I F3 hs _ _ _  hP hS (lv_sub hl [1, 0] rfl) h K
  refine lv_aload_n hx hb dX9_take_0 rfl (lv_at hl 0 rfl) ?_
  refine lv_iload_n hx hb dX9_take_1 rfl (lv_at hl 1 rfl) ?_
  refine gCallI (D := D) (va_runV (As := [.int a1]) (rest := []) ⟨hx, hb, hml, hown, hts⟩ (c_X9_isChord l D q cI cO hq a1  I F hs _ h) (cwV 1 hts gX9_take_X9_isChord rfl rfl rfl (by decide +kernel) ⟨Nat.le_trans (Nat.le_of_ble_eq_true rfl) hRf, Nat.le_trans (Nat.le_of_ble_eq_true rfl) hRl⟩) (gPreV (ci := 9) (q0 := 0) mEok hE hK hP hS rfl mAt0) rfl rfl hl.1 rfl (lv_room (Nat.le_of_ble_eq_true rfl)) dX9_take_2 ⟨Nat.zero_le _, Nat.zero_le _⟩) hS (fun r4 _ H locs hP hS h => ?_)
  have hP : va_P D vwCl (mW q cI cO I F hs) H := hP
  refine lv_if_ne (tgt := 11) hx hb dX9_take_5 (by decide) (fun c5 => ?_) (fun c5 => ?_)
  · have h := h.1 c5
    refine lv_aload_n hx hb dX9_take_11 rfl (lv_at hl 0 rfl) ?_
    refine va_get (D := D) (ci := 9) (v := .int (I 3)) (C := RX9) (T := TX9) (N := 44) hx hb hts (fun _ h9 => List.mem_cons_of_mem _ (List.mem_append_right _ h9)) hown hK hP 0 mAt0 rfl 16 (by decide) (hts _ (List.mem_of_getElem? (l := wsX9_take) (i := 1) rfl)) (fun _ h9 => h9) rfl dX9_take_12 ?_
    refine lv_iconst (v := (1 : Int32)) hx hb dX9_take_15 (by decide) ?_
    refine lv_icmp_ne (tgt := 22) hx hb dX9_take_16 (by decide) (fun c6 => ?_) (fun c6 => ?_)
    · have h := h.1 c6
      refine lv_aload_n hx hb dX9_take_22 rfl (lv_at hl 0 rfl) ?_
      refine lv_dup hx hb dX9_take_23 rfl ?_
      refine va_get (D := D) (ci := 9) (v := .int (I 3)) (C := RX9) (T := TX9) (N := 44) hx hb hts (fun _ h9 => List.mem_cons_of_mem _ (List.mem_append_right _ h9)) hown hK hP 0 mAt0 rfl 16 (by decide) (hts _ (List.mem_of_getElem? (l := wsX9_take) (i := 1) rfl)) (fun _ h9 => h9) rfl dX9_take_24 ?_
      refine lv_iconst (v := (1 : Int32)) hx hb dX9_take_27 (by decide) ?_
      refine lv_isub hx hb dX9_take_28 ?_
      refine gPut (D := D) (ci := 9) (ty := .int) (C := RX9) (T := TX9) (N := 44) hx hb hts (fun _ h9 => List.mem_cons_of_mem _ (List.mem_append_right _ h9)) tyX9 tyX9_ok nmX9 hown hK hP (mD hq) hS 0 mAt0 rfl 16 (by decide) (hts _ (List.mem_of_getElem? (l := wsX9_take) (i := 1) rfl)) (fun _ h9 => h9) rfl (by decide +kernel) rfl rfl (Nat.le_of_ble_eq_true rfl) dX9_take_29 (mSet3 ((I 3) - (1 : Int32))) (fun H locs hP hS => ?_)
      obtain ⟨I7, eI7⟩ : ∃ z : Nat → Int32, z = upd I 3 ((I 3) - (1 : Int32)) := ⟨_, rfl⟩
      rw [← eI7] at hP
      have h := h I7 eI7
      refine lv_iload_n hx hb dX9_take_32 rfl (lv_at hl 1 rfl) ?_
      refine lv_istore_n (lv' := [(2, .int a1), (0, .ref (q 0)), (1, .int a1)]) hx hb dX9_take_33 rfl hl (by decide) rfl (fun ls hl => ?_)
      obtain ⟨n, h⟩ := h
      refine L34 n  _ a1 I7 F hs _ _ _  hP hS (lv_sub hl [1, 0] rfl) h (fun y8 I9 F10 hs11 H locs ls  hP hS hl h => ?_)
      refine lv_aload_n hx hb dX9_take_76 rfl (lv_at hl 0 rfl) ?_
      refine lv_iconst (v := (1 : Int32)) hx hb dX9_take_77 (by decide) ?_
      refine gPut (D := D) (ci := 9) (ty := .boolean) (C := RX9) (T := TX9) (N := 44) hx hb hts (fun _ h9 => List.mem_cons_of_mem _ (List.mem_append_right _ h9)) tyX9 tyX9_ok nmX9 hown hK hP (mD hq) hS 0 mAt0 rfl 21 (by decide) (hts _ (List.mem_of_getElem? (l := wsX9_take) (i := 4) rfl)) (fun _ h9 => h9) rfl (by decide +kernel) (by decide) (by decide) (Nat.le_of_ble_eq_true rfl) dX9_take_78 (mSet6 (1 : Int32)) (fun H locs hP hS => ?_)
      obtain ⟨I12, eI12⟩ : ∃ z : Nat → Int32, z = upd I9 6 (1 : Int32) := ⟨_, rfl⟩
      rw [← eI12] at hP
      have h := h I12 eI12
      refine lv_aload_n hx hb dX9_take_81 rfl (lv_at hl 0 rfl) ?_
      refine va_get (D := D) (ci := 9) (v := .int (I12 3)) (C := RX9) (T := TX9) (N := 44) hx hb hts (fun _ h9 => List.mem_cons_of_mem _ (List.mem_append_right _ h9)) hown hK hP 0 mAt0 rfl 16 (by decide) (hts _ (List.mem_of_getElem? (l := wsX9_take) (i := 1) rfl)) (fun _ h9 => h9) rfl dX9_take_82 ?_
      exact hret (I12 3) (I12, F10, hs11) _ _ _ _ dX9_take_85 hP hS h
    · have h := h.2 c6
      refine lv_bipush (v := (-103 : Int32)) hx hb dX9_take_19 (by decide) ?_
      exact hret (-103 : Int32) (I, F, hs) _ _ _ _ dX9_take_21 hP hS h
  · have h := h.2 c5
    refine lv_bipush (v := (-101 : Int32)) hx hb dX9_take_8 (by decide) ?_
    exact hret (-101 : Int32) (I, F, hs) _ _ _ _ dX9_take_10 hP hS h
def w_X9_planOf (a1 : Int32) (I : Nat → Int32) (F : Nat → Nat → Int32) (hs : Int64) (post : Int32 → (Nat → Int32) → (Nat → Nat → Int32) → Int64 → Prop) : Prop :=
  w_X9_freshen I F hs (fun (I1 : Nat → Int32) (F2 : Nat → Nat → Int32) (hs3 : Int64) => ((¬ a1 = 0 → ((¬ a1 = (1 : Int32) → post (I1 9) I1 F2 hs3) ∧ (a1 = (1 : Int32) → post (I1 8) I1 F2 hs3))) ∧ (a1 = 0 → (((99999 : Int32) ≤ (I1 7) → post (-1 : Int32) I1 F2 hs3) ∧ (¬ (99999 : Int32) ≤ (I1 7) → post (I1 7) I1 F2 hs3)))))
set_option maxHeartbeats 4000000 in
set_option maxRecDepth 100000 in
theorem c_X9_planOf (l : Launch) (D : va_G) (q : Nat → Nat) (cI cO : ClassId) (hq : mOk q) (a1 : Int32)  (I : Nat → Int32) (F : Nat → Nat → Int32) (hs : Int64) (post : Int32 → (Nat → Int32) → (Nat → Nat → Int32) → Int64 → Prop) (h : w_X9_planOf a1 I F hs post) : Met l yX9_planOf wsX9_planOf ({ frames := 5, cells := 0, slots := 0, locals := 122 } : Room) (gPre D (mTys cI) (mW q cI cO I F hs) mEnv [.ref (q 0), .int a1]) (va_Qi (fun r (u : mS) => post r u.1 u.2.1 u.2.2) (gB D (fun u : mS => mW q cI cO u.1 u.2.1 u.2.2)) (mA q)) 0 0 (mA q) := by
  refine gMetI (by decide) rfl (Nat.le_of_ble_eq_true rfl) ?_
  intro p e R s m args below meth c Q ls hR hx hb hml hown hts hK hE hP hl hret
  have hRf : 5 ≤ R.frames := by subst hR; exact Nat.le_refl _
  have hRl : 122 ≤ R.locals := by subst hR; exact Nat.le_refl _
  have hown : s.vm.findClass RX9 = some m.cls := hown
  have hl : lv_has ls 2 [(0, .ref (q 0)), (1, .int a1)] := hl
  have hS : va_S (mA q) s.heap s.heap [] := va_S.rf
  have hP : va_P D vwCl (mW q cI cO I F hs) s.heap := hP
  refine lv_aload_n hx hb dX9_planOf_0 rfl (lv_at hl 0 rfl) ?_
  refine gCallV (D := D) (va_runV (As := []) (rest := []) ⟨hx, hb, hml, hown, hts⟩ (c_X9_freshen l D q cI cO hq   I F hs _ h) (cwV 0 hts gX9_planOf_X9_freshen rfl rfl rfl (by decide +kernel) ⟨Nat.le_trans (Nat.le_of_ble_eq_true rfl) hRf, Nat.le_trans (Nat.le_of_ble_eq_true rfl) hRl⟩) (gPreV (ci := 9) (q0 := 0) mEok hE hK hP hS rfl mAt0) rfl rfl hl.1 rfl (lv_room (Nat.le_of_ble_eq_true rfl)) dX9_planOf_1 ⟨Nat.zero_le _, Nat.zero_le _⟩) hS (fun u H locs hP hS h => ?_)
  obtain ⟨I1, F2, hs3⟩ := u
  have hP : va_P D vwCl (mW q cI cO I1 F2 hs3) H := hP
  refine lv_iload_n hx hb dX9_planOf_4 rfl (lv_at hl 1 rfl) ?_
  refine lv_if_ne (tgt := 28) hx hb dX9_planOf_5 (by decide) (fun c4 => ?_) (fun c4 => ?_)
  · have h := h.1 c4
    refine lv_iload_n hx hb dX9_planOf_28 rfl (lv_at hl 1 rfl) ?_
    refine lv_iconst (v := (1 : Int32)) hx hb dX9_planOf_29 (by decide) ?_
    refine lv_icmp_ne (tgt := 40) hx hb dX9_planOf_30 (by decide) (fun c5 => ?_) (fun c5 => ?_)
    · have h := h.1 c5
      refine lv_aload_n hx hb dX9_planOf_40 rfl (lv_at hl 0 rfl) ?_
      refine va_get (D := D) (ci := 9) (v := .int (I1 9)) (C := RX9) (T := TX9) (N := 44) hx hb hts (fun _ h9 => List.mem_cons_of_mem _ (List.mem_append_right _ h9)) hown hK hP 0 mAt0 rfl 28 (by decide) (hts _ (List.mem_of_getElem? (l := wsX9_planOf) (i := 4) rfl)) (fun _ h9 => h9) rfl dX9_planOf_41 ?_
      exact hret (I1 9) (I1, F2, hs3) _ _ _ _ dX9_planOf_44 hP hS h
    · have h := h.2 c5
      refine lv_aload_n hx hb dX9_planOf_33 rfl (lv_at hl 0 rfl) ?_
      refine va_get (D := D) (ci := 9) (v := .int (I1 8)) (C := RX9) (T := TX9) (N := 44) hx hb hts (fun _ h9 => List.mem_cons_of_mem _ (List.mem_append_right _ h9)) hown hK hP 0 mAt0 rfl 27 (by decide) (hts _ (List.mem_of_getElem? (l := wsX9_planOf) (i := 3) rfl)) (fun _ h9 => h9) rfl dX9_planOf_34 ?_
      refine lv_goto (tgt := 44) hx hb dX9_planOf_37 (by decide) ?_
      exact hret (I1 8) (I1, F2, hs3) _ _ _ _ dX9_planOf_44 hP hS h
  · have h := h.2 c4
    refine lv_aload_n hx hb dX9_planOf_8 rfl (lv_at hl 0 rfl) ?_
    refine va_get (D := D) (ci := 9) (v := .int (I1 7)) (C := RX9) (T := TX9) (N := 44) hx hb hts (fun _ h9 => List.mem_cons_of_mem _ (List.mem_append_right _ h9)) hown hK hP 0 mAt0 rfl 26 (by decide) (hts _ (List.mem_of_getElem? (l := wsX9_planOf) (i := 1) rfl)) (fun _ h9 => h9) rfl dX9_planOf_9 ?_
    refine lv_ldc (v := (99999 : Int32)) hx hb hown (hts _ (List.mem_of_getElem? (l := wsX9_planOf) (i := 2) rfl)) dX9_planOf_12 ?_
    refine lv_icmp_ge (tgt := 24) hx hb dX9_planOf_14 (by decide) (fun c6 => ?_) (fun c6 => ?_)
    · have h := h.1 c6
      refine lv_iconst (v := (-1 : Int32)) hx hb dX9_planOf_24 (by decide) ?_
      refine lv_goto (tgt := 44) hx hb dX9_planOf_25 (by decide) ?_
      exact hret (-1 : Int32) (I1, F2, hs3) _ _ _ _ dX9_planOf_44 hP hS h
    · have h := h.2 c6
      refine lv_aload_n hx hb dX9_planOf_17 rfl (lv_at hl 0 rfl) ?_
      refine va_get (D := D) (ci := 9) (v := .int (I1 7)) (C := RX9) (T := TX9) (N := 44) hx hb hts (fun _ h9 => List.mem_cons_of_mem _ (List.mem_append_right _ h9)) hown hK hP 0 mAt0 rfl 26 (by decide) (hts _ (List.mem_of_getElem? (l := wsX9_planOf) (i := 1) rfl)) (fun _ h9 => h9) rfl dX9_planOf_18 ?_
      refine lv_goto (tgt := 44) hx hb dX9_planOf_21 (by decide) ?_
      exact hret (I1 7) (I1, F2, hs3) _ _ _ _ dX9_planOf_44 hP hS h
def w_X9_swap (a1 : Int32) (a2 : Int32) (I : Nat → Int32) (F : Nat → Nat → Int32) (hs : Int64) (post : Int32 → (Nat → Int32) → (Nat → Nat → Int32) → Int64 → Prop) : Prop :=
  w_X9_isChord a1 I F hs (fun (r1 : Int32) => ((r1 = 0 → post (-101 : Int32) I F hs) ∧ (¬ r1 = 0 → w_X9_isChord a2 I F hs (fun (r3 : Int32) => ((r3 = 0 → post (-101 : Int32) I F hs) ∧ (¬ r3 = 0 → ((¬ a1 = a2 → vp_in a1 8 ∧ ∀ v6 : Int32, v6 = (F 14 (a1).toNatClampNeg) → vp_in a1 8 ∧ ∀ v7 : Int32, v7 = (F 15 (a1).toNatClampNeg) → vp_in a2 8 ∧ vp_in a1 8 ∧ ∀ F8 : Nat → Nat → Int32, F8 = upF F 14 (upd (F 14) (a1).toNatClampNeg (F 14 (a2).toNatClampNeg)) → vp_in a2 8 ∧ vp_in a1 8 ∧ ∀ F9 : Nat → Nat → Int32, F9 = upF F8 15 (upd (F8 15) (a1).toNatClampNeg (F8 15 (a2).toNatClampNeg)) → vp_in a2 8 ∧ ∀ F10 : Nat → Nat → Int32, F10 = upF F9 14 (upd (F9 14) (a2).toNatClampNeg v6) → vp_in a2 8 ∧ ∀ F11 : Nat → Nat → Int32, F11 = upF F10 15 (upd (F10 15) (a2).toNatClampNeg v7) → ∀ I12 : Nat → Int32, I12 = upd I 6 (1 : Int32) → w_X9_planOf (0 : Int32) I12 F11 hs (fun (r13 : Int32) (I14 : Nat → Int32) (F15 : Nat → Nat → Int32) (hs16 : Int64) => post r13 I14 F15 hs16)) ∧ (a1 = a2 → post (-101 : Int32) I F hs))))))))
set_option maxHeartbeats 4000000 in
set_option maxRecDepth 100000 in
theorem c_X9_swap (l : Launch) (D : va_G) (q : Nat → Nat) (cI cO : ClassId) (hq : mOk q) (a1 : Int32) (a2 : Int32)  (I : Nat → Int32) (F : Nat → Nat → Int32) (hs : Int64) (post : Int32 → (Nat → Int32) → (Nat → Nat → Int32) → Int64 → Prop) (h : w_X9_swap a1 a2 I F hs post) : Met l yX9_swap wsX9_swap ({ frames := 6, cells := 0, slots := 0, locals := 143 } : Room) (gPre D (mTys cI) (mW q cI cO I F hs) mEnv [.ref (q 0), .int a1, .int a2]) (va_Qi (fun r (u : mS) => post r u.1 u.2.1 u.2.2) (gB D (fun u : mS => mW q cI cO u.1 u.2.1 u.2.2)) (mA q)) 0 0 (mA q) := by
  refine gMetI (by decide) rfl (Nat.le_of_ble_eq_true rfl) ?_
  intro p e R s m args below meth c Q ls hR hx hb hml hown hts hK hE hP hl hret
  have hRf : 6 ≤ R.frames := by subst hR; exact Nat.le_refl _
  have hRl : 143 ≤ R.locals := by subst hR; exact Nat.le_refl _
  have hown : s.vm.findClass RX9 = some m.cls := hown
  have hl : lv_has ls 5 [(0, .ref (q 0)), (1, .int a1), (2, .int a2)] := hl
  have hS : va_S (mA q) s.heap s.heap [] := va_S.rf
  have hP : va_P D vwCl (mW q cI cO I F hs) s.heap := hP
  refine lv_aload_n hx hb dX9_swap_0 rfl (lv_at hl 0 rfl) ?_
  refine lv_iload_n hx hb dX9_swap_1 rfl (lv_at hl 1 rfl) ?_
  refine gCallI (D := D) (va_runV (As := [.int a1]) (rest := []) ⟨hx, hb, hml, hown, hts⟩ (c_X9_isChord l D q cI cO hq a1  I F hs _ h) (cwV 1 hts gX9_swap_X9_isChord rfl rfl rfl (by decide +kernel) ⟨Nat.le_trans (Nat.le_of_ble_eq_true rfl) hRf, Nat.le_trans (Nat.le_of_ble_eq_true rfl) hRl⟩) (gPreV (ci := 9) (q0 := 0) mEok hE hK hP hS rfl mAt0) rfl rfl hl.1 rfl (lv_room (Nat.le_of_ble_eq_true rfl)) dX9_swap_2 ⟨Nat.zero_le _, Nat.zero_le _⟩) hS (fun r1 _ H locs hP hS h => ?_)
  have hP : va_P D vwCl (mW q cI cO I F hs) H := hP
  refine lv_if_eq (tgt := 21) hx hb dX9_swap_5 (by decide) (fun c2 => ?_) (fun c2 => ?_)
  · have h := h.1 c2
    refine lv_bipush (v := (-101 : Int32)) hx hb dX9_swap_21 (by decide) ?_
    exact hret (-101 : Int32) (I, F, hs) _ _ _ _ dX9_swap_23 hP hS h
  · have h := h.2 c2
    refine lv_aload_n hx hb dX9_swap_8 rfl (lv_at hl 0 rfl) ?_
    refine lv_iload_n hx hb dX9_swap_9 rfl (lv_at hl 2 rfl) ?_
    refine gCallI (D := D) (va_runV (As := [.int a2]) (rest := []) ⟨hx, hb, hml, hown, hts⟩ (c_X9_isChord l D q cI cO hq a2  I F hs _ h) (cwV 1 hts gX9_swap_X9_isChord rfl rfl rfl (by decide +kernel) ⟨Nat.le_trans (Nat.le_of_ble_eq_true rfl) hRf, Nat.le_trans (Nat.le_of_ble_eq_true rfl) hRl⟩) (gPreV (ci := 9) (q0 := 0) mEok hE hK hP hS rfl mAt0) rfl rfl hl.1 rfl (lv_room (Nat.le_of_ble_eq_true rfl)) dX9_swap_10 ⟨Nat.zero_le _, Nat.zero_le _⟩) hS (fun r3 _ H locs hP hS h => ?_)
    have hP : va_P D vwCl (mW q cI cO I F hs) H := hP
    refine lv_if_eq (tgt := 21) hx hb dX9_swap_13 (by decide) (fun c4 => ?_) (fun c4 => ?_)
    · have h := h.1 c4
      refine lv_bipush (v := (-101 : Int32)) hx hb dX9_swap_21 (by decide) ?_
      exact hret (-101 : Int32) (I, F, hs) _ _ _ _ dX9_swap_23 hP hS h
    · have h := h.2 c4
      refine lv_iload_n hx hb dX9_swap_16 rfl (lv_at hl 1 rfl) ?_
      refine lv_iload_n hx hb dX9_swap_17 rfl (lv_at hl 2 rfl) ?_
      refine lv_icmp_ne (tgt := 24) hx hb dX9_swap_18 (by decide) (fun c5 => ?_) (fun c5 => ?_)
      · have h := h.1 c5
        refine lv_aload_n hx hb dX9_swap_24 rfl (lv_at hl 0 rfl) ?_
        refine va_get (D := D) (ci := 9) (v := .ref (q 14)) (C := RX9) (T := TX9) (N := 44) hx hb hts (fun _ h9 => List.mem_cons_of_mem _ (List.mem_append_right _ h9)) hown hK hP 0 mAt0 rfl 19 (by decide) (hts _ (List.mem_of_getElem? (l := wsX9_swap) (i := 1) rfl)) (fun _ h9 => h9) rfl dX9_swap_25 ?_
        refine lv_iload_n hx hb dX9_swap_28 rfl (lv_at hl 1 rfl) ?_
        refine va_iald (D := D) hx hb hK hP 14 0 mAr14 rfl h.1 dX9_swap_29 ?_
        have h := h.2
        refine lv_topi (fun v6 ev6 => ?_)
        have h := h v6 ev6
        refine lv_istore_n (lv' := [(3, .int v6), (0, .ref (q 0)), (1, .int a1), (2, .int a2)]) hx hb dX9_swap_30 rfl hl (by decide) rfl (fun ls hl => ?_)
        refine lv_aload_n hx hb dX9_swap_31 rfl (lv_at hl 1 rfl) ?_
        refine va_get (D := D) (ci := 9) (v := .ref (q 15)) (C := RX9) (T := TX9) (N := 44) hx hb hts (fun _ h9 => List.mem_cons_of_mem _ (List.mem_append_right _ h9)) hown hK hP 0 mAt0 rfl 20 (by decide) (hts _ (List.mem_of_getElem? (l := wsX9_swap) (i := 2) rfl)) (fun _ h9 => h9) rfl dX9_swap_32 ?_
        refine lv_iload_n hx hb dX9_swap_35 rfl (lv_at hl 2 rfl) ?_
        refine va_iald (D := D) hx hb hK hP 15 0 mAr15 rfl h.1 dX9_swap_36 ?_
        have h := h.2
        refine lv_topi (fun v7 ev7 => ?_)
        have h := h v7 ev7
        refine lv_istore (lv' := [(4, .int v7), (3, .int v6), (0, .ref (q 0)), (1, .int a1), (2, .int a2)]) hx hb dX9_swap_37 hl (by decide) rfl (fun ls hl => ?_)
        refine lv_aload_n hx hb dX9_swap_39 rfl (lv_at hl 2 rfl) ?_
        refine va_get (D := D) (ci := 9) (v := .ref (q 14)) (C := RX9) (T := TX9) (N := 44) hx hb hts (fun _ h9 => List.mem_cons_of_mem _ (List.mem_append_right _ h9)) hown hK hP 0 mAt0 rfl 19 (by decide) (hts _ (List.mem_of_getElem? (l := wsX9_swap) (i := 1) rfl)) (fun _ h9 => h9) rfl dX9_swap_40 ?_
        refine lv_iload_n hx hb dX9_swap_43 rfl (lv_at hl 3 rfl) ?_
        refine lv_aload_n hx hb dX9_swap_44 rfl (lv_at hl 2 rfl) ?_
        refine va_get (D := D) (ci := 9) (v := .ref (q 14)) (C := RX9) (T := TX9) (N := 44) hx hb hts (fun _ h9 => List.mem_cons_of_mem _ (List.mem_append_right _ h9)) hown hK hP 0 mAt0 rfl 19 (by decide) (hts _ (List.mem_of_getElem? (l := wsX9_swap) (i := 1) rfl)) (fun _ h9 => h9) rfl dX9_swap_45 ?_
        refine lv_iload_n hx hb dX9_swap_48 rfl (lv_at hl 4 rfl) ?_
        refine va_iald (D := D) hx hb hK hP 14 0 mAr14 rfl h.1 dX9_swap_49 ?_
        have h := h.2
        refine gAst (D := D) hx hb hK hP (mD hq) hS 14 0 mAr14 rfl h.1 dX9_swap_50 (mSA14 _) (fun H locs hP hS => ?_)
        obtain ⟨F8, eF8⟩ : ∃ z : Nat → Nat → Int32, z = upF F 14 (upd (F 14) (a1).toNatClampNeg (F 14 (a2).toNatClampNeg)) := ⟨_, rfl⟩
        rw [← eF8] at hP
        have h := h.2 F8 eF8
        refine lv_aload_n hx hb dX9_swap_51 rfl (lv_at hl 2 rfl) ?_
        refine va_get (D := D) (ci := 9) (v := .ref (q 15)) (C := RX9) (T := TX9) (N := 44) hx hb hts (fun _ h9 => List.mem_cons_of_mem _ (List.mem_append_right _ h9)) hown hK hP 0 mAt0 rfl 20 (by decide) (hts _ (List.mem_of_getElem? (l := wsX9_swap) (i := 2) rfl)) (fun _ h9 => h9) rfl dX9_swap_52 ?_
        refine lv_iload_n hx hb dX9_swap_55 rfl (lv_at hl 3 rfl) ?_
        refine lv_aload_n hx hb dX9_swap_56 rfl (lv_at hl 2 rfl) ?_
        refine va_get (D := D) (ci := 9) (v := .ref (q 15)) (C := RX9) (T := TX9) (N := 44) hx hb hts (fun _ h9 => List.mem_cons_of_mem _ (List.mem_append_right _ h9)) hown hK hP 0 mAt0 rfl 20 (by decide) (hts _ (List.mem_of_getElem? (l := wsX9_swap) (i := 2) rfl)) (fun _ h9 => h9) rfl dX9_swap_57 ?_
        refine lv_iload_n hx hb dX9_swap_60 rfl (lv_at hl 4 rfl) ?_
        refine va_iald (D := D) hx hb hK hP 15 0 mAr15 rfl h.1 dX9_swap_61 ?_
        have h := h.2
        refine gAst (D := D) hx hb hK hP (mD hq) hS 15 0 mAr15 rfl h.1 dX9_swap_62 (mSA15 _) (fun H locs hP hS => ?_)
        obtain ⟨F9, eF9⟩ : ∃ z : Nat → Nat → Int32, z = upF F8 15 (upd (F8 15) (a1).toNatClampNeg (F8 15 (a2).toNatClampNeg)) := ⟨_, rfl⟩
        rw [← eF9] at hP
        have h := h.2 F9 eF9
        refine lv_aload_n hx hb dX9_swap_63 rfl (lv_at hl 2 rfl) ?_
        refine va_get (D := D) (ci := 9) (v := .ref (q 14)) (C := RX9) (T := TX9) (N := 44) hx hb hts (fun _ h9 => List.mem_cons_of_mem _ (List.mem_append_right _ h9)) hown hK hP 0 mAt0 rfl 19 (by decide) (hts _ (List.mem_of_getElem? (l := wsX9_swap) (i := 1) rfl)) (fun _ h9 => h9) rfl dX9_swap_64 ?_
        refine lv_iload_n hx hb dX9_swap_67 rfl (lv_at hl 4 rfl) ?_
        refine lv_iload_n hx hb dX9_swap_68 rfl (lv_at hl 1 rfl) ?_
        refine gAst (D := D) hx hb hK hP (mD hq) hS 14 0 mAr14 rfl h.1 dX9_swap_69 (mSA14 _) (fun H locs hP hS => ?_)
        obtain ⟨F10, eF10⟩ : ∃ z : Nat → Nat → Int32, z = upF F9 14 (upd (F9 14) (a2).toNatClampNeg v6) := ⟨_, rfl⟩
        rw [← eF10] at hP
        have h := h.2 F10 eF10
        refine lv_aload_n hx hb dX9_swap_70 rfl (lv_at hl 2 rfl) ?_
        refine va_get (D := D) (ci := 9) (v := .ref (q 15)) (C := RX9) (T := TX9) (N := 44) hx hb hts (fun _ h9 => List.mem_cons_of_mem _ (List.mem_append_right _ h9)) hown hK hP 0 mAt0 rfl 20 (by decide) (hts _ (List.mem_of_getElem? (l := wsX9_swap) (i := 2) rfl)) (fun _ h9 => h9) rfl dX9_swap_71 ?_
        refine lv_iload_n hx hb dX9_swap_74 rfl (lv_at hl 4 rfl) ?_
        refine lv_iload hx hb dX9_swap_75 (lv_at hl 0 rfl) ?_
        refine gAst (D := D) hx hb hK hP (mD hq) hS 15 0 mAr15 rfl h.1 dX9_swap_77 (mSA15 _) (fun H locs hP hS => ?_)
        obtain ⟨F11, eF11⟩ : ∃ z : Nat → Nat → Int32, z = upF F10 15 (upd (F10 15) (a2).toNatClampNeg v7) := ⟨_, rfl⟩
        rw [← eF11] at hP
        have h := h.2 F11 eF11
        refine lv_aload_n hx hb dX9_swap_78 rfl (lv_at hl 2 rfl) ?_
        refine lv_iconst (v := (1 : Int32)) hx hb dX9_swap_79 (by decide) ?_
        refine gPut (D := D) (ci := 9) (ty := .boolean) (C := RX9) (T := TX9) (N := 44) hx hb hts (fun _ h9 => List.mem_cons_of_mem _ (List.mem_append_right _ h9)) tyX9 tyX9_ok nmX9 hown hK hP (mD hq) hS 0 mAt0 rfl 21 (by decide) (hts _ (List.mem_of_getElem? (l := wsX9_swap) (i := 3) rfl)) (fun _ h9 => h9) rfl (by decide +kernel) (by decide) (by decide) (Nat.le_of_ble_eq_true rfl) dX9_swap_80 (mSet6 (1 : Int32)) (fun H locs hP hS => ?_)
        obtain ⟨I12, eI12⟩ : ∃ z : Nat → Int32, z = upd I 6 (1 : Int32) := ⟨_, rfl⟩
        rw [← eI12] at hP
        have h := h I12 eI12
        refine lv_aload_n hx hb dX9_swap_83 rfl (lv_at hl 2 rfl) ?_
        refine lv_iconst (v := (0 : Int32)) hx hb dX9_swap_84 (by decide) ?_
        refine gCallI (D := D) (va_runV (As := [.int (0 : Int32)]) (rest := []) ⟨hx, hb, hml, hown, hts⟩ (c_X9_planOf l D q cI cO hq (0 : Int32)  I12 F11 hs _ h) (cwV 1 hts gX9_swap_X9_planOf rfl rfl rfl (by decide +kernel) ⟨Nat.le_trans (Nat.le_of_ble_eq_true rfl) hRf, Nat.le_trans (Nat.le_of_ble_eq_true rfl) hRl⟩) (gPreV (ci := 9) (q0 := 0) mEok hE hK hP hS rfl mAt0) rfl rfl hl.1 rfl (lv_room (Nat.le_of_ble_eq_true rfl)) dX9_swap_85 ⟨Nat.zero_le _, Nat.zero_le _⟩) hS (fun r13 u H locs hP hS h => ?_)
        obtain ⟨I14, F15, hs16⟩ := u
        have hP : va_P D vwCl (mW q cI cO I14 F15 hs16) H := hP
        exact hret r13 (I14, F15, hs16) _ _ _ _ dX9_swap_88 hP hS h
      · have h := h.2 c5
        refine lv_bipush (v := (-101 : Int32)) hx hb dX9_swap_21 (by decide) ?_
        exact hret (-101 : Int32) (I, F, hs) _ _ _ _ dX9_swap_23 hP hS h
def w_X9_change (a1 : Int32) (a2 : Int32) (I : Nat → Int32) (F : Nat → Nat → Int32) (hs : Int64) (post : Int32 → (Nat → Int32) → (Nat → Nat → Int32) → Int64 → Prop) : Prop :=
  w_X9_isChord a1 I F hs (fun (r1 : Int32) => ((¬ r1 = 0 → w_X9_in ((a2).toInt64) (0 : Int64) (4 : Int64) I F hs (fun (r3 : Int32) => ((¬ r3 = 0 → vp_in a1 8 ∧ ∀ v5 : Int32, v5 = (F 14 (a1).toNatClampNeg) → vp_in a1 8 ∧ ∀ F6 : Nat → Nat → Int32, F6 = upF F 14 (upd (F 14) (a1).toNatClampNeg a2) → ∀ I7 : Nat → Int32, I7 = upd I 6 (1 : Int32) → post v5 I7 F6 hs) ∧ (r3 = 0 → post (-102 : Int32) I F hs)))) ∧ (r1 = 0 → post (-101 : Int32) I F hs)))
set_option maxHeartbeats 4000000 in
set_option maxRecDepth 100000 in
theorem c_X9_change (l : Launch) (D : va_G) (q : Nat → Nat) (cI cO : ClassId) (hq : mOk q) (a1 : Int32) (a2 : Int32)  (I : Nat → Int32) (F : Nat → Nat → Int32) (hs : Int64) (post : Int32 → (Nat → Int32) → (Nat → Nat → Int32) → Int64 → Prop) (h : w_X9_change a1 a2 I F hs post) : Met l yX9_change wsX9_change ({ frames := 2, cells := 0, slots := 0, locals := 46 } : Room) (gPre D (mTys cI) (mW q cI cO I F hs) mEnv [.ref (q 0), .int a1, .int a2]) (va_Qi (fun r (u : mS) => post r u.1 u.2.1 u.2.2) (gB D (fun u : mS => mW q cI cO u.1 u.2.1 u.2.2)) (mA q)) 0 0 (mA q) := by
  refine gMetI (by decide) rfl (Nat.le_of_ble_eq_true rfl) ?_
  intro p e R s m args below meth c Q ls hR hx hb hml hown hts hK hE hP hl hret
  have hRf : 2 ≤ R.frames := by subst hR; exact Nat.le_refl _
  have hRl : 46 ≤ R.locals := by subst hR; exact Nat.le_refl _
  have hown : s.vm.findClass RX9 = some m.cls := hown
  have hl : lv_has ls 4 [(0, .ref (q 0)), (1, .int a1), (2, .int a2)] := hl
  have hS : va_S (mA q) s.heap s.heap [] := va_S.rf
  have hP : va_P D vwCl (mW q cI cO I F hs) s.heap := hP
  refine lv_aload_n hx hb dX9_change_0 rfl (lv_at hl 0 rfl) ?_
  refine lv_iload_n hx hb dX9_change_1 rfl (lv_at hl 1 rfl) ?_
  refine gCallI (D := D) (va_runV (As := [.int a1]) (rest := []) ⟨hx, hb, hml, hown, hts⟩ (c_X9_isChord l D q cI cO hq a1  I F hs _ h) (cwV 1 hts gX9_change_X9_isChord rfl rfl rfl (by decide +kernel) ⟨Nat.le_trans (Nat.le_of_ble_eq_true rfl) hRf, Nat.le_trans (Nat.le_of_ble_eq_true rfl) hRl⟩) (gPreV (ci := 9) (q0 := 0) mEok hE hK hP hS rfl mAt0) rfl rfl hl.1 rfl (lv_room (Nat.le_of_ble_eq_true rfl)) dX9_change_2 ⟨Nat.zero_le _, Nat.zero_le _⟩) hS (fun r1 _ H locs hP hS h => ?_)
  have hP : va_P D vwCl (mW q cI cO I F hs) H := hP
  refine lv_if_ne (tgt := 11) hx hb dX9_change_5 (by decide) (fun c2 => ?_) (fun c2 => ?_)
  · have h := h.1 c2
    refine lv_iload_n hx hb dX9_change_11 rfl (lv_at hl 2 rfl) ?_
    refine lv_i2l (v := (a2).toInt64) hx hb dX9_change_12 rfl ?_
    refine lv_lconst (v := (0 : Int64)) hx hb dX9_change_13 (by decide) ?_
    refine lv_ldc2 (v := (4 : Int64)) hx hb hown (hts _ (List.mem_of_getElem? (l := wsX9_change) (i := 1) rfl)) dX9_change_14 ?_
    refine gCallI (D := D) (va_runS (As := [.long ((a2).toInt64), .long (0 : Int64), .long (4 : Int64)]) (rest := []) ⟨hx, hb, hml, hown, hts⟩ (c_X9_in l D q cI cO hq ((a2).toInt64) (0 : Int64) (4 : Int64)  I F hs _ h) (va_cwS 3 hts gX9_change_X9_in rfl rfl rfl (by decide +kernel) ⟨Nat.le_trans (Nat.le_of_ble_eq_true rfl) hRf, Nat.le_trans (Nat.le_of_ble_eq_true rfl) hRl⟩) (gPreS mEok hE hK hP hS) rfl rfl hl.1 rfl (lv_room (Nat.le_of_ble_eq_true rfl)) dX9_change_17 ⟨Nat.zero_le _, Nat.zero_le _⟩) hS (fun r3 _ H locs hP hS h => ?_)
    have hP : va_P D vwCl (mW q cI cO I F hs) H := hP
    refine lv_if_ne (tgt := 26) hx hb dX9_change_20 (by decide) (fun c4 => ?_) (fun c4 => ?_)
    · have h := h.1 c4
      refine lv_aload_n hx hb dX9_change_26 rfl (lv_at hl 0 rfl) ?_
      refine va_get (D := D) (ci := 9) (v := .ref (q 14)) (C := RX9) (T := TX9) (N := 44) hx hb hts (fun _ h9 => List.mem_cons_of_mem _ (List.mem_append_right _ h9)) hown hK hP 0 mAt0 rfl 19 (by decide) (hts _ (List.mem_of_getElem? (l := wsX9_change) (i := 2) rfl)) (fun _ h9 => h9) rfl dX9_change_27 ?_
      refine lv_iload_n hx hb dX9_change_30 rfl (lv_at hl 1 rfl) ?_
      refine va_iald (D := D) hx hb hK hP 14 0 mAr14 rfl h.1 dX9_change_31 ?_
      have h := h.2
      refine lv_topi (fun v5 ev5 => ?_)
      have h := h v5 ev5
      refine lv_istore_n (lv' := [(3, .int v5), (0, .ref (q 0)), (1, .int a1), (2, .int a2)]) hx hb dX9_change_32 rfl hl (by decide) rfl (fun ls hl => ?_)
      refine lv_aload_n hx hb dX9_change_33 rfl (lv_at hl 1 rfl) ?_
      refine va_get (D := D) (ci := 9) (v := .ref (q 14)) (C := RX9) (T := TX9) (N := 44) hx hb hts (fun _ h9 => List.mem_cons_of_mem _ (List.mem_append_right _ h9)) hown hK hP 0 mAt0 rfl 19 (by decide) (hts _ (List.mem_of_getElem? (l := wsX9_change) (i := 2) rfl)) (fun _ h9 => h9) rfl dX9_change_34 ?_
      refine lv_iload_n hx hb dX9_change_37 rfl (lv_at hl 2 rfl) ?_
      refine lv_iload_n hx hb dX9_change_38 rfl (lv_at hl 3 rfl) ?_
      refine gAst (D := D) hx hb hK hP (mD hq) hS 14 0 mAr14 rfl h.1 dX9_change_39 (mSA14 _) (fun H locs hP hS => ?_)
      obtain ⟨F6, eF6⟩ : ∃ z : Nat → Nat → Int32, z = upF F 14 (upd (F 14) (a1).toNatClampNeg a2) := ⟨_, rfl⟩
      rw [← eF6] at hP
      have h := h.2 F6 eF6
      refine lv_aload_n hx hb dX9_change_40 rfl (lv_at hl 1 rfl) ?_
      refine lv_iconst (v := (1 : Int32)) hx hb dX9_change_41 (by decide) ?_
      refine gPut (D := D) (ci := 9) (ty := .boolean) (C := RX9) (T := TX9) (N := 44) hx hb hts (fun _ h9 => List.mem_cons_of_mem _ (List.mem_append_right _ h9)) tyX9 tyX9_ok nmX9 hown hK hP (mD hq) hS 0 mAt0 rfl 21 (by decide) (hts _ (List.mem_of_getElem? (l := wsX9_change) (i := 3) rfl)) (fun _ h9 => h9) rfl (by decide +kernel) (by decide) (by decide) (Nat.le_of_ble_eq_true rfl) dX9_change_42 (mSet6 (1 : Int32)) (fun H locs hP hS => ?_)
      obtain ⟨I7, eI7⟩ : ∃ z : Nat → Int32, z = upd I 6 (1 : Int32) := ⟨_, rfl⟩
      rw [← eI7] at hP
      have h := h I7 eI7
      refine lv_iload_n hx hb dX9_change_45 rfl (lv_at hl 0 rfl) ?_
      exact hret v5 (I7, F6, hs) _ _ _ _ dX9_change_46 hP hS h
    · have h := h.2 c4
      refine lv_bipush (v := (-102 : Int32)) hx hb dX9_change_23 (by decide) ?_
      exact hret (-102 : Int32) (I, F, hs) _ _ _ _ dX9_change_25 hP hS h
  · have h := h.2 c2
    refine lv_bipush (v := (-101 : Int32)) hx hb dX9_change_8 (by decide) ?_
    exact hret (-101 : Int32) (I, F, hs) _ _ _ _ dX9_change_10 hP hS h
def w_X9_shift_B27 (x1 : Int32) (k again : Int32 → (Nat → Int32) → (Nat → Nat → Int32) → Int64 → Prop) (x2 : Int32) (I : Nat → Int32) (F : Nat → Nat → Int32) (hs : Int64) : Prop :=
  (((I 3) ≤ x2 → k x2 I F hs) ∧ (¬ (I 3) ≤ x2 → vp_in x2 8 ∧ w_X9_shiftedTones (F 15 (x2).toNatClampNeg) x1 I F hs (fun (r2 : Int32) => vp_in x2 8 ∧ ∀ F3 : Nat → Nat → Int32, F3 = upF F 15 (upd (F 15) (x2).toNatClampNeg r2) → again (x2 + (1 : Int32)) I F3 hs)))
def w_X9_shift (a1 : Int32) (I : Nat → Int32) (F : Nat → Nat → Int32) (hs : Int64) (post : Int32 → (Nat → Int32) → (Nat → Nat → Int32) → Int64 → Prop) : Prop :=
  w_X9_in ((a1).toInt64) (0 : Int64) (11 : Int64) I F hs (fun (r4 : Int32) => ((¬ r4 = 0 → w_X9_lacks I F hs (fun (r6 : Int32) => ((r6 = 0 → gL (fun ag v => w_X9_shift_B27 a1 (fun (y8 : Int32) (I9 : Nat → Int32) (F10 : Nat → Nat → Int32) (hs11 : Int64) => ∀ I12 : Nat → Int32, I12 = upd I9 6 (1 : Int32) → w_X9_planOf (0 : Int32) I12 F10 hs11 (fun (r13 : Int32) (I14 : Nat → Int32) (F15 : Nat → Nat → Int32) (hs16 : Int64) => post r13 I14 F15 hs16)) (fun b0 b1 b2 b3 => ag (b0, b1, b2, b3)) v.1 v.2.1 v.2.2.1 v.2.2.2) ((0 : Int32), I, F, hs)) ∧ (¬ r6 = 0 → post (-103 : Int32) I F hs)))) ∧ (r4 = 0 → post (-102 : Int32) I F hs)))
set_option maxHeartbeats 4000000 in
set_option maxRecDepth 100000 in
theorem c_X9_shift (l : Launch) (D : va_G) (q : Nat → Nat) (cI cO : ClassId) (hq : mOk q) (a1 : Int32)  (I : Nat → Int32) (F : Nat → Nat → Int32) (hs : Int64) (post : Int32 → (Nat → Int32) → (Nat → Nat → Int32) → Int64 → Prop) (h : w_X9_shift a1 I F hs post) : Met l yX9_shift wsX9_shift ({ frames := 6, cells := 0, slots := 0, locals := 143 } : Room) (gPre D (mTys cI) (mW q cI cO I F hs) mEnv [.ref (q 0), .int a1]) (va_Qi (fun r (u : mS) => post r u.1 u.2.1 u.2.2) (gB D (fun u : mS => mW q cI cO u.1 u.2.1 u.2.2)) (mA q)) 0 0 (mA q) := by
  refine gMetI (by decide) rfl (Nat.le_of_ble_eq_true rfl) ?_
  intro p e R s m args below meth c Q ls hR hx hb hml hown hts hK hE hP hl hret
  have hRf : 6 ≤ R.frames := by subst hR; exact Nat.le_refl _
  have hRl : 143 ≤ R.locals := by subst hR; exact Nat.le_refl _
  have hown : s.vm.findClass RX9 = some m.cls := hown
  have hl : lv_has ls 3 [(0, .ref (q 0)), (1, .int a1)] := hl
  have hS : va_S (mA q) s.heap s.heap [] := va_S.rf
  have hP : va_P D vwCl (mW q cI cO I F hs) s.heap := hP
  have L27 : ∀ (n : Nat) (x1 : Int32) (k : Int32 → (Nat → Int32) → (Nat → Nat → Int32) → Int64 → Prop) (x2 : Int32) (I : Nat → Int32) (F : Nat → Nat → Int32) (hs : Int64) (H : Heap) (locs : List Loc) (ls : Array Slot), va_P D vwCl (mW q cI cO I F hs) H → va_S (mA q) s.heap H locs → lv_has ls 3 [(0, .ref (q 0)), (1, .int x1), (2, .int x2)] → gLN (fun ag v => w_X9_shift_B27 x1 k (fun b0 b1 b2 b3 => ag (b0, b1, b2, b3)) v.1 v.2.1 v.2.2.1 v.2.2.2) n (x2, I, F, hs) → (∀ (x2 : Int32) (I : Nat → Int32) (F : Nat → Nat → Int32) (hs : Int64) (H : Heap) (locs : List Loc) (ls : Array Slot), va_P D vwCl (mW q cI cO I F hs) H → va_S (mA q) s.heap H locs → lv_has ls 3 [(0, .ref (q 0))] → k x2 I F hs → W p l e R s m args below meth c H locs 0 0 Q (F0 m 58 ls [])) → W p l e R s m args below meth c H locs 0 0 Q (F0 m 27 ls []) := by
    intro n
    induction n with
    | zero =>
      intro x1 k x2 I F hs H locs ls  hP hS hl h K
      exact False.elim h
    | succ n ih =>
      intro x1 k x2 I F hs H locs ls  hP hS hl h K
      have h : w_X9_shift_B27 x1 k (fun b0 b1 b2 b3 => gLN (fun ag v => w_X9_shift_B27 x1 k (fun b0 b1 b2 b3 => ag (b0, b1, b2, b3)) v.1 v.2.1 v.2.2.1 v.2.2.2) n (b0, b1, b2, b3)) x2 I F hs := h
      refine lv_iload_n hx hb dX9_shift_27 rfl (lv_at hl 2 rfl) ?_
      refine lv_aload_n hx hb dX9_shift_28 rfl (lv_at hl 0 rfl) ?_
      refine va_get (D := D) (ci := 9) (v := .int (I 3)) (C := RX9) (T := TX9) (N := 44) hx hb hts (fun _ h9 => List.mem_cons_of_mem _ (List.mem_append_right _ h9)) hown hK hP 0 mAt0 rfl 16 (by decide) (hts _ (List.mem_of_getElem? (l := wsX9_shift) (i := 2) rfl)) (fun _ h9 => h9) rfl dX9_shift_29 ?_
      refine lv_icmp_ge (tgt := 58) hx hb dX9_shift_32 (by decide) (fun c1 => ?_) (fun c1 => ?_)
      · have h := h.1 c1
        exact K x2 I F hs _ _ _  hP hS (lv_sub hl [0] rfl) h
      · have h := h.2 c1
        refine lv_aload_n hx hb dX9_shift_35 rfl (lv_at hl 0 rfl) ?_
        refine va_get (D := D) (ci := 9) (v := .ref (q 15)) (C := RX9) (T := TX9) (N := 44) hx hb hts (fun _ h9 => List.mem_cons_of_mem _ (List.mem_append_right _ h9)) hown hK hP 0 mAt0 rfl 20 (by decide) (hts _ (List.mem_of_getElem? (l := wsX9_shift) (i := 3) rfl)) (fun _ h9 => h9) rfl dX9_shift_36 ?_
        refine lv_iload_n hx hb dX9_shift_39 rfl (lv_at hl 2 rfl) ?_
        refine lv_aload_n hx hb dX9_shift_40 rfl (lv_at hl 0 rfl) ?_
        refine lv_aload_n hx hb dX9_shift_41 rfl (lv_at hl 0 rfl) ?_
        refine va_get (D := D) (ci := 9) (v := .ref (q 15)) (C := RX9) (T := TX9) (N := 44) hx hb hts (fun _ h9 => List.mem_cons_of_mem _ (List.mem_append_right _ h9)) hown hK hP 0 mAt0 rfl 20 (by decide) (hts _ (List.mem_of_getElem? (l := wsX9_shift) (i := 3) rfl)) (fun _ h9 => h9) rfl dX9_shift_42 ?_
        refine lv_iload_n hx hb dX9_shift_45 rfl (lv_at hl 2 rfl) ?_
        refine va_iald (D := D) hx hb hK hP 15 0 mAr15 rfl h.1 dX9_shift_46 ?_
        have h := h.2
        refine lv_iload_n hx hb dX9_shift_47 rfl (lv_at hl 1 rfl) ?_
        refine gCallI (D := D) (va_runV (As := [.int (F 15 (x2).toNatClampNeg), .int x1]) (rest := [.int x2, .ref (q 15)]) ⟨hx, hb, hml, hown, hts⟩ (c_X9_shiftedTones l D q cI cO hq (F 15 (x2).toNatClampNeg) x1  I F hs _ h) (cwV 2 hts gX9_shift_X9_shiftedTones rfl rfl rfl (by decide +kernel) ⟨Nat.le_trans (Nat.le_of_ble_eq_true rfl) hRf, Nat.le_trans (Nat.le_of_ble_eq_true rfl) hRl⟩) (gPreV (ci := 9) (q0 := 0) mEok hE hK hP hS rfl mAt0) rfl rfl hl.1 rfl (lv_room (Nat.le_of_ble_eq_true rfl)) dX9_shift_48 ⟨Nat.zero_le _, Nat.zero_le _⟩) hS (fun r2 _ H locs hP hS h => ?_)
        have hP : va_P D vwCl (mW q cI cO I F hs) H := hP
        refine gAst (D := D) hx hb hK hP (mD hq) hS 15 0 mAr15 rfl h.1 dX9_shift_51 (mSA15 _) (fun H locs hP hS => ?_)
        obtain ⟨F3, eF3⟩ : ∃ z : Nat → Nat → Int32, z = upF F 15 (upd (F 15) (x2).toNatClampNeg r2) := ⟨_, rfl⟩
        rw [← eF3] at hP
        have h := h.2 F3 eF3
        refine lv_iinc (v := (x2 + (1 : Int32))) (lv' := [(2, .int (x2 + (1 : Int32))), (0, .ref (q 0)), (1, .int x1)]) hx hb dX9_shift_52 hl (k := 2) rfl rfl (by decide) rfl (fun ls hl => ?_)
        refine lv_goto (tgt := 27) hx hb dX9_shift_55 (by decide) ?_
        exact ih x1 _ (x2 + (1 : Int32)) I F3 hs _ _ _  hP hS (lv_sub hl [1, 2, 0] rfl) h K
  refine lv_iload_n hx hb dX9_shift_0 rfl (lv_at hl 1 rfl) ?_
  refine lv_i2l (v := (a1).toInt64) hx hb dX9_shift_1 rfl ?_
  refine lv_lconst (v := (0 : Int64)) hx hb dX9_shift_2 (by decide) ?_
  refine lv_ldc2 (v := (11 : Int64)) hx hb hown (hts _ (List.mem_of_getElem? (l := wsX9_shift) (i := 1) rfl)) dX9_shift_3 ?_
  refine gCallI (D := D) (va_runS (As := [.long ((a1).toInt64), .long (0 : Int64), .long (11 : Int64)]) (rest := []) ⟨hx, hb, hml, hown, hts⟩ (c_X9_in l D q cI cO hq ((a1).toInt64) (0 : Int64) (11 : Int64)  I F hs _ h) (va_cwS 3 hts gX9_shift_X9_in rfl rfl rfl (by decide +kernel) ⟨Nat.le_trans (Nat.le_of_ble_eq_true rfl) hRf, Nat.le_trans (Nat.le_of_ble_eq_true rfl) hRl⟩) (gPreS mEok hE hK hP hS) rfl rfl hl.1 rfl (lv_room (Nat.le_of_ble_eq_true rfl)) dX9_shift_6 ⟨Nat.zero_le _, Nat.zero_le _⟩) hS (fun r4 _ H locs hP hS h => ?_)
  have hP : va_P D vwCl (mW q cI cO I F hs) H := hP
  refine lv_if_ne (tgt := 15) hx hb dX9_shift_9 (by decide) (fun c5 => ?_) (fun c5 => ?_)
  · have h := h.1 c5
    refine lv_aload_n hx hb dX9_shift_15 rfl (lv_at hl 0 rfl) ?_
    refine gCallI (D := D) (va_runV (As := []) (rest := []) ⟨hx, hb, hml, hown, hts⟩ (c_X9_lacks l D q cI cO hq   I F hs _ h) (cwV 0 hts gX9_shift_X9_lacks rfl rfl rfl (by decide +kernel) ⟨Nat.le_trans (Nat.le_of_ble_eq_true rfl) hRf, Nat.le_trans (Nat.le_of_ble_eq_true rfl) hRl⟩) (gPreV (ci := 9) (q0 := 0) mEok hE hK hP hS rfl mAt0) rfl rfl hl.1 rfl (lv_room (Nat.le_of_ble_eq_true rfl)) dX9_shift_16 ⟨Nat.zero_le _, Nat.zero_le _⟩) hS (fun r6 _ H locs hP hS h => ?_)
    have hP : va_P D vwCl (mW q cI cO I F hs) H := hP
    refine lv_if_eq (tgt := 25) hx hb dX9_shift_19 (by decide) (fun c7 => ?_) (fun c7 => ?_)
    · have h := h.1 c7
      refine lv_iconst (v := (0 : Int32)) hx hb dX9_shift_25 (by decide) ?_
      refine lv_istore_n (lv' := [(2, .int (0 : Int32)), (0, .ref (q 0)), (1, .int a1)]) hx hb dX9_shift_26 rfl hl (by decide) rfl (fun ls hl => ?_)
      obtain ⟨n, h⟩ := h
      refine L27 n a1 _ (0 : Int32) I F hs _ _ _  hP hS (lv_sub hl [1, 2, 0] rfl) h (fun y8 I9 F10 hs11 H locs ls  hP hS hl h => ?_)
      refine lv_aload_n hx hb dX9_shift_58 rfl (lv_at hl 0 rfl) ?_
      refine lv_iconst (v := (1 : Int32)) hx hb dX9_shift_59 (by decide) ?_
      refine gPut (D := D) (ci := 9) (ty := .boolean) (C := RX9) (T := TX9) (N := 44) hx hb hts (fun _ h9 => List.mem_cons_of_mem _ (List.mem_append_right _ h9)) tyX9 tyX9_ok nmX9 hown hK hP (mD hq) hS 0 mAt0 rfl 21 (by decide) (hts _ (List.mem_of_getElem? (l := wsX9_shift) (i := 4) rfl)) (fun _ h9 => h9) rfl (by decide +kernel) (by decide) (by decide) (Nat.le_of_ble_eq_true rfl) dX9_shift_60 (mSet6 (1 : Int32)) (fun H locs hP hS => ?_)
      obtain ⟨I12, eI12⟩ : ∃ z : Nat → Int32, z = upd I9 6 (1 : Int32) := ⟨_, rfl⟩
      rw [← eI12] at hP
      have h := h I12 eI12
      refine lv_aload_n hx hb dX9_shift_63 rfl (lv_at hl 0 rfl) ?_
      refine lv_iconst (v := (0 : Int32)) hx hb dX9_shift_64 (by decide) ?_
      refine gCallI (D := D) (va_runV (As := [.int (0 : Int32)]) (rest := []) ⟨hx, hb, hml, hown, hts⟩ (c_X9_planOf l D q cI cO hq (0 : Int32)  I12 F10 hs11 _ h) (cwV 1 hts gX9_shift_X9_planOf rfl rfl rfl (by decide +kernel) ⟨Nat.le_trans (Nat.le_of_ble_eq_true rfl) hRf, Nat.le_trans (Nat.le_of_ble_eq_true rfl) hRl⟩) (gPreV (ci := 9) (q0 := 0) mEok hE hK hP hS rfl mAt0) rfl rfl hl.1 rfl (lv_room (Nat.le_of_ble_eq_true rfl)) dX9_shift_65 ⟨Nat.zero_le _, Nat.zero_le _⟩) hS (fun r13 u H locs hP hS h => ?_)
      obtain ⟨I14, F15, hs16⟩ := u
      have hP : va_P D vwCl (mW q cI cO I14 F15 hs16) H := hP
      exact hret r13 (I14, F15, hs16) _ _ _ _ dX9_shift_68 hP hS h
    · have h := h.2 c7
      refine lv_bipush (v := (-103 : Int32)) hx hb dX9_shift_22 (by decide) ?_
      exact hret (-103 : Int32) (I, F, hs) _ _ _ _ dX9_shift_24 hP hS h
  · have h := h.2 c5
    refine lv_bipush (v := (-102 : Int32)) hx hb dX9_shift_12 (by decide) ?_
    exact hret (-102 : Int32) (I, F, hs) _ _ _ _ dX9_shift_14 hP hS h
def w_X9_plan (a1 : Int32) (I : Nat → Int32) (F : Nat → Nat → Int32) (hs : Int64) (post : Int32 → (Nat → Int32) → (Nat → Nat → Int32) → Int64 → Prop) : Prop :=
  w_X9_in ((a1).toInt64) (0 : Int64) (2 : Int64) I F hs (fun (r1 : Int32) => ((¬ r1 = 0 → w_X9_lacks I F hs (fun (r3 : Int32) => ((r3 = 0 → w_X9_planOf a1 I F hs (fun (r5 : Int32) (I6 : Nat → Int32) (F7 : Nat → Nat → Int32) (hs8 : Int64) => post r5 I6 F7 hs8)) ∧ (¬ r3 = 0 → post (-103 : Int32) I F hs)))) ∧ (r1 = 0 → post (-102 : Int32) I F hs)))
set_option maxHeartbeats 4000000 in
set_option maxRecDepth 100000 in
theorem c_X9_plan (l : Launch) (D : va_G) (q : Nat → Nat) (cI cO : ClassId) (hq : mOk q) (a1 : Int32)  (I : Nat → Int32) (F : Nat → Nat → Int32) (hs : Int64) (post : Int32 → (Nat → Int32) → (Nat → Nat → Int32) → Int64 → Prop) (h : w_X9_plan a1 I F hs post) : Met l yX9_plan wsX9_plan ({ frames := 6, cells := 0, slots := 0, locals := 143 } : Room) (gPre D (mTys cI) (mW q cI cO I F hs) mEnv [.ref (q 0), .int a1]) (va_Qi (fun r (u : mS) => post r u.1 u.2.1 u.2.2) (gB D (fun u : mS => mW q cI cO u.1 u.2.1 u.2.2)) (mA q)) 0 0 (mA q) := by
  refine gMetI (by decide) rfl (Nat.le_of_ble_eq_true rfl) ?_
  intro p e R s m args below meth c Q ls hR hx hb hml hown hts hK hE hP hl hret
  have hRf : 6 ≤ R.frames := by subst hR; exact Nat.le_refl _
  have hRl : 143 ≤ R.locals := by subst hR; exact Nat.le_refl _
  have hown : s.vm.findClass RX9 = some m.cls := hown
  have hl : lv_has ls 2 [(0, .ref (q 0)), (1, .int a1)] := hl
  have hS : va_S (mA q) s.heap s.heap [] := va_S.rf
  have hP : va_P D vwCl (mW q cI cO I F hs) s.heap := hP
  refine lv_iload_n hx hb dX9_plan_0 rfl (lv_at hl 1 rfl) ?_
  refine lv_i2l (v := (a1).toInt64) hx hb dX9_plan_1 rfl ?_
  refine lv_lconst (v := (0 : Int64)) hx hb dX9_plan_2 (by decide) ?_
  refine lv_ldc2 (v := (2 : Int64)) hx hb hown (hts _ (List.mem_of_getElem? (l := wsX9_plan) (i := 1) rfl)) dX9_plan_3 ?_
  refine gCallI (D := D) (va_runS (As := [.long ((a1).toInt64), .long (0 : Int64), .long (2 : Int64)]) (rest := []) ⟨hx, hb, hml, hown, hts⟩ (c_X9_in l D q cI cO hq ((a1).toInt64) (0 : Int64) (2 : Int64)  I F hs _ h) (va_cwS 3 hts gX9_plan_X9_in rfl rfl rfl (by decide +kernel) ⟨Nat.le_trans (Nat.le_of_ble_eq_true rfl) hRf, Nat.le_trans (Nat.le_of_ble_eq_true rfl) hRl⟩) (gPreS mEok hE hK hP hS) rfl rfl hl.1 rfl (lv_room (Nat.le_of_ble_eq_true rfl)) dX9_plan_6 ⟨Nat.zero_le _, Nat.zero_le _⟩) hS (fun r1 _ H locs hP hS h => ?_)
  have hP : va_P D vwCl (mW q cI cO I F hs) H := hP
  refine lv_if_ne (tgt := 15) hx hb dX9_plan_9 (by decide) (fun c2 => ?_) (fun c2 => ?_)
  · have h := h.1 c2
    refine lv_aload_n hx hb dX9_plan_15 rfl (lv_at hl 0 rfl) ?_
    refine gCallI (D := D) (va_runV (As := []) (rest := []) ⟨hx, hb, hml, hown, hts⟩ (c_X9_lacks l D q cI cO hq   I F hs _ h) (cwV 0 hts gX9_plan_X9_lacks rfl rfl rfl (by decide +kernel) ⟨Nat.le_trans (Nat.le_of_ble_eq_true rfl) hRf, Nat.le_trans (Nat.le_of_ble_eq_true rfl) hRl⟩) (gPreV (ci := 9) (q0 := 0) mEok hE hK hP hS rfl mAt0) rfl rfl hl.1 rfl (lv_room (Nat.le_of_ble_eq_true rfl)) dX9_plan_16 ⟨Nat.zero_le _, Nat.zero_le _⟩) hS (fun r3 _ H locs hP hS h => ?_)
    have hP : va_P D vwCl (mW q cI cO I F hs) H := hP
    refine lv_if_eq (tgt := 27) hx hb dX9_plan_19 (by decide) (fun c4 => ?_) (fun c4 => ?_)
    · have h := h.1 c4
      refine lv_aload_n hx hb dX9_plan_27 rfl (lv_at hl 0 rfl) ?_
      refine lv_iload_n hx hb dX9_plan_28 rfl (lv_at hl 1 rfl) ?_
      refine gCallI (D := D) (va_runV (As := [.int a1]) (rest := []) ⟨hx, hb, hml, hown, hts⟩ (c_X9_planOf l D q cI cO hq a1  I F hs _ h) (cwV 1 hts gX9_plan_X9_planOf rfl rfl rfl (by decide +kernel) ⟨Nat.le_trans (Nat.le_of_ble_eq_true rfl) hRf, Nat.le_trans (Nat.le_of_ble_eq_true rfl) hRl⟩) (gPreV (ci := 9) (q0 := 0) mEok hE hK hP hS rfl mAt0) rfl rfl hl.1 rfl (lv_room (Nat.le_of_ble_eq_true rfl)) dX9_plan_29 ⟨Nat.zero_le _, Nat.zero_le _⟩) hS (fun r5 u H locs hP hS h => ?_)
      obtain ⟨I6, F7, hs8⟩ := u
      have hP : va_P D vwCl (mW q cI cO I6 F7 hs8) H := hP
      exact hret r5 (I6, F7, hs8) _ _ _ _ dX9_plan_32 hP hS h
    · have h := h.2 c4
      refine lv_bipush (v := (-103 : Int32)) hx hb dX9_plan_22 (by decide) ?_
      refine lv_goto (tgt := 32) hx hb dX9_plan_24 (by decide) ?_
      exact hret (-103 : Int32) (I, F, hs) _ _ _ _ dX9_plan_32 hP hS h
  · have h := h.2 c2
    refine lv_bipush (v := (-102 : Int32)) hx hb dX9_plan_12 (by decide) ?_
    exact hret (-102 : Int32) (I, F, hs) _ _ _ _ dX9_plan_14 hP hS h
def w_X9_settingOf (a1 : Int32) (I : Nat → Int32) (F : Nat → Nat → Int32) (hs : Int64) (post : Int32 → (Nat → Int32) → (Nat → Nat → Int32) → Int64 → Prop) : Prop :=
  w_X9_freshen I F hs (fun (I1 : Nat → Int32) (F2 : Nat → Nat → Int32) (hs3 : Int64) => vp_in a1 8 ∧ ((¬ (F2 20 (a1).toNatClampNeg) = (-1 : Int32) → vp_in a1 8 ∧ w_X9_told (F2 20 (a1).toNatClampNeg) I1 F2 hs3 (fun (r5 : Int32) => post r5 I1 F2 hs3)) ∧ ((F2 20 (a1).toNatClampNeg) = (-1 : Int32) → post (-1 : Int32) I1 F2 hs3)))
set_option maxHeartbeats 4000000 in
set_option maxRecDepth 100000 in
theorem c_X9_settingOf (l : Launch) (D : va_G) (q : Nat → Nat) (cI cO : ClassId) (hq : mOk q) (a1 : Int32)  (I : Nat → Int32) (F : Nat → Nat → Int32) (hs : Int64) (post : Int32 → (Nat → Int32) → (Nat → Nat → Int32) → Int64 → Prop) (h : w_X9_settingOf a1 I F hs post) : Met l yX9_settingOf wsX9_settingOf ({ frames := 5, cells := 0, slots := 0, locals := 122 } : Room) (gPre D (mTys cI) (mW q cI cO I F hs) mEnv [.ref (q 0), .int a1]) (va_Qi (fun r (u : mS) => post r u.1 u.2.1 u.2.2) (gB D (fun u : mS => mW q cI cO u.1 u.2.1 u.2.2)) (mA q)) 0 0 (mA q) := by
  refine gMetI (by decide) rfl (Nat.le_of_ble_eq_true rfl) ?_
  intro p e R s m args below meth c Q ls hR hx hb hml hown hts hK hE hP hl hret
  have hRf : 5 ≤ R.frames := by subst hR; exact Nat.le_refl _
  have hRl : 122 ≤ R.locals := by subst hR; exact Nat.le_refl _
  have hown : s.vm.findClass RX9 = some m.cls := hown
  have hl : lv_has ls 2 [(0, .ref (q 0)), (1, .int a1)] := hl
  have hS : va_S (mA q) s.heap s.heap [] := va_S.rf
  have hP : va_P D vwCl (mW q cI cO I F hs) s.heap := hP
  refine lv_aload_n hx hb dX9_settingOf_0 rfl (lv_at hl 0 rfl) ?_
  refine gCallV (D := D) (va_runV (As := []) (rest := []) ⟨hx, hb, hml, hown, hts⟩ (c_X9_freshen l D q cI cO hq   I F hs _ h) (cwV 0 hts gX9_settingOf_X9_freshen rfl rfl rfl (by decide +kernel) ⟨Nat.le_trans (Nat.le_of_ble_eq_true rfl) hRf, Nat.le_trans (Nat.le_of_ble_eq_true rfl) hRl⟩) (gPreV (ci := 9) (q0 := 0) mEok hE hK hP hS rfl mAt0) rfl rfl hl.1 rfl (lv_room (Nat.le_of_ble_eq_true rfl)) dX9_settingOf_1 ⟨Nat.zero_le _, Nat.zero_le _⟩) hS (fun u H locs hP hS h => ?_)
  obtain ⟨I1, F2, hs3⟩ := u
  have hP : va_P D vwCl (mW q cI cO I1 F2 hs3) H := hP
  refine lv_aload_n hx hb dX9_settingOf_4 rfl (lv_at hl 0 rfl) ?_
  refine va_get (D := D) (ci := 9) (v := .ref (q 20)) (C := RX9) (T := TX9) (N := 44) hx hb hts (fun _ h9 => List.mem_cons_of_mem _ (List.mem_append_right _ h9)) hown hK hP 0 mAt0 rfl 29 (by decide) (hts _ (List.mem_of_getElem? (l := wsX9_settingOf) (i := 1) rfl)) (fun _ h9 => h9) rfl dX9_settingOf_5 ?_
  refine lv_iload_n hx hb dX9_settingOf_8 rfl (lv_at hl 1 rfl) ?_
  refine va_iald (D := D) hx hb hK hP 20 0 mAr20 rfl h.1 dX9_settingOf_9 ?_
  have h := h.2
  refine lv_iconst (v := (-1 : Int32)) hx hb dX9_settingOf_10 (by decide) ?_
  refine lv_icmp_ne (tgt := 18) hx hb dX9_settingOf_11 (by decide) (fun c4 => ?_) (fun c4 => ?_)
  · have h := h.1 c4
    refine lv_aload_n hx hb dX9_settingOf_18 rfl (lv_at hl 0 rfl) ?_
    refine lv_aload_n hx hb dX9_settingOf_19 rfl (lv_at hl 0 rfl) ?_
    refine va_get (D := D) (ci := 9) (v := .ref (q 20)) (C := RX9) (T := TX9) (N := 44) hx hb hts (fun _ h9 => List.mem_cons_of_mem _ (List.mem_append_right _ h9)) hown hK hP 0 mAt0 rfl 29 (by decide) (hts _ (List.mem_of_getElem? (l := wsX9_settingOf) (i := 1) rfl)) (fun _ h9 => h9) rfl dX9_settingOf_20 ?_
    refine lv_iload_n hx hb dX9_settingOf_23 rfl (lv_at hl 1 rfl) ?_
    refine va_iald (D := D) hx hb hK hP 20 0 mAr20 rfl h.1 dX9_settingOf_24 ?_
    have h := h.2
    refine gCallI (D := D) (va_runV (As := [.int (F2 20 (a1).toNatClampNeg)]) (rest := []) ⟨hx, hb, hml, hown, hts⟩ (c_X9_told l D q cI cO hq (F2 20 (a1).toNatClampNeg)  I1 F2 hs3 _ h) (cwV 1 hts gX9_settingOf_X9_told rfl rfl rfl (by decide +kernel) ⟨Nat.le_trans (Nat.le_of_ble_eq_true rfl) hRf, Nat.le_trans (Nat.le_of_ble_eq_true rfl) hRl⟩) (gPreV (ci := 9) (q0 := 0) mEok hE hK hP hS rfl mAt0) rfl rfl hl.1 rfl (lv_room (Nat.le_of_ble_eq_true rfl)) dX9_settingOf_25 ⟨Nat.zero_le _, Nat.zero_le _⟩) hS (fun r5 _ H locs hP hS h => ?_)
    have hP : va_P D vwCl (mW q cI cO I1 F2 hs3) H := hP
    exact hret r5 (I1, F2, hs3) _ _ _ _ dX9_settingOf_28 hP hS h
  · have h := h.2 c4
    refine lv_iconst (v := (-1 : Int32)) hx hb dX9_settingOf_14 (by decide) ?_
    refine lv_goto (tgt := 28) hx hb dX9_settingOf_15 (by decide) ?_
    exact hret (-1 : Int32) (I1, F2, hs3) _ _ _ _ dX9_settingOf_28 hP hS h
def w_X9_setting (a1 : Int32) (I : Nat → Int32) (F : Nat → Nat → Int32) (hs : Int64) (post : Int32 → (Nat → Int32) → (Nat → Nat → Int32) → Int64 → Prop) : Prop :=
  w_X9_isChord a1 I F hs (fun (r1 : Int32) => ((r1 = 0 → post (-101 : Int32) I F hs) ∧ (¬ r1 = 0 → w_X9_settingOf a1 I F hs (fun (r3 : Int32) (I4 : Nat → Int32) (F5 : Nat → Nat → Int32) (hs6 : Int64) => post r3 I4 F5 hs6))))
set_option maxHeartbeats 4000000 in
set_option maxRecDepth 100000 in
theorem c_X9_setting (l : Launch) (D : va_G) (q : Nat → Nat) (cI cO : ClassId) (hq : mOk q) (a1 : Int32)  (I : Nat → Int32) (F : Nat → Nat → Int32) (hs : Int64) (post : Int32 → (Nat → Int32) → (Nat → Nat → Int32) → Int64 → Prop) (h : w_X9_setting a1 I F hs post) : Met l yX9_setting wsX9_setting ({ frames := 6, cells := 0, slots := 0, locals := 143 } : Room) (gPre D (mTys cI) (mW q cI cO I F hs) mEnv [.ref (q 0), .int a1]) (va_Qi (fun r (u : mS) => post r u.1 u.2.1 u.2.2) (gB D (fun u : mS => mW q cI cO u.1 u.2.1 u.2.2)) (mA q)) 0 0 (mA q) := by
  refine gMetI (by decide) rfl (Nat.le_of_ble_eq_true rfl) ?_
  intro p e R s m args below meth c Q ls hR hx hb hml hown hts hK hE hP hl hret
  have hRf : 6 ≤ R.frames := by subst hR; exact Nat.le_refl _
  have hRl : 143 ≤ R.locals := by subst hR; exact Nat.le_refl _
  have hown : s.vm.findClass RX9 = some m.cls := hown
  have hl : lv_has ls 2 [(0, .ref (q 0)), (1, .int a1)] := hl
  have hS : va_S (mA q) s.heap s.heap [] := va_S.rf
  have hP : va_P D vwCl (mW q cI cO I F hs) s.heap := hP
  refine lv_aload_n hx hb dX9_setting_0 rfl (lv_at hl 0 rfl) ?_
  refine lv_iload_n hx hb dX9_setting_1 rfl (lv_at hl 1 rfl) ?_
  refine gCallI (D := D) (va_runV (As := [.int a1]) (rest := []) ⟨hx, hb, hml, hown, hts⟩ (c_X9_isChord l D q cI cO hq a1  I F hs _ h) (cwV 1 hts gX9_setting_X9_isChord rfl rfl rfl (by decide +kernel) ⟨Nat.le_trans (Nat.le_of_ble_eq_true rfl) hRf, Nat.le_trans (Nat.le_of_ble_eq_true rfl) hRl⟩) (gPreV (ci := 9) (q0 := 0) mEok hE hK hP hS rfl mAt0) rfl rfl hl.1 rfl (lv_room (Nat.le_of_ble_eq_true rfl)) dX9_setting_2 ⟨Nat.zero_le _, Nat.zero_le _⟩) hS (fun r1 _ H locs hP hS h => ?_)
  have hP : va_P D vwCl (mW q cI cO I F hs) H := hP
  refine lv_if_eq (tgt := 16) hx hb dX9_setting_5 (by decide) (fun c2 => ?_) (fun c2 => ?_)
  · have h := h.1 c2
    refine lv_bipush (v := (-101 : Int32)) hx hb dX9_setting_16 (by decide) ?_
    exact hret (-101 : Int32) (I, F, hs) _ _ _ _ dX9_setting_18 hP hS h
  · have h := h.2 c2
    refine lv_aload_n hx hb dX9_setting_8 rfl (lv_at hl 0 rfl) ?_
    refine lv_iload_n hx hb dX9_setting_9 rfl (lv_at hl 1 rfl) ?_
    refine gCallI (D := D) (va_runV (As := [.int a1]) (rest := []) ⟨hx, hb, hml, hown, hts⟩ (c_X9_settingOf l D q cI cO hq a1  I F hs _ h) (cwV 1 hts gX9_setting_X9_settingOf rfl rfl rfl (by decide +kernel) ⟨Nat.le_trans (Nat.le_of_ble_eq_true rfl) hRf, Nat.le_trans (Nat.le_of_ble_eq_true rfl) hRl⟩) (gPreV (ci := 9) (q0 := 0) mEok hE hK hP hS rfl mAt0) rfl rfl hl.1 rfl (lv_room (Nat.le_of_ble_eq_true rfl)) dX9_setting_10 ⟨Nat.zero_le _, Nat.zero_le _⟩) hS (fun r3 u H locs hP hS h => ?_)
    obtain ⟨I4, F5, hs6⟩ := u
    have hP : va_P D vwCl (mW q cI cO I4 F5 hs6) H := hP
    refine lv_goto (tgt := 18) hx hb dX9_setting_13 (by decide) ?_
    exact hret r3 (I4, F5, hs6) _ _ _ _ dX9_setting_18 hP hS h
def w_X9_reachOf (a1 : Int32) (I : Nat → Int32) (F : Nat → Nat → Int32) (hs : Int64) (post : Int32 → (Nat → Int32) → (Nat → Nat → Int32) → Int64 → Prop) : Prop :=
  w_X9_freshen I F hs (fun (I1 : Nat → Int32) (F2 : Nat → Nat → Int32) (hs3 : Int64) => vp_in a1 8 ∧ post (F2 21 (a1).toNatClampNeg) I1 F2 hs3)
set_option maxHeartbeats 4000000 in
set_option maxRecDepth 100000 in
theorem c_X9_reachOf (l : Launch) (D : va_G) (q : Nat → Nat) (cI cO : ClassId) (hq : mOk q) (a1 : Int32)  (I : Nat → Int32) (F : Nat → Nat → Int32) (hs : Int64) (post : Int32 → (Nat → Int32) → (Nat → Nat → Int32) → Int64 → Prop) (h : w_X9_reachOf a1 I F hs post) : Met l yX9_reachOf wsX9_reachOf ({ frames := 5, cells := 0, slots := 0, locals := 122 } : Room) (gPre D (mTys cI) (mW q cI cO I F hs) mEnv [.ref (q 0), .int a1]) (va_Qi (fun r (u : mS) => post r u.1 u.2.1 u.2.2) (gB D (fun u : mS => mW q cI cO u.1 u.2.1 u.2.2)) (mA q)) 0 0 (mA q) := by
  refine gMetI (by decide) rfl (Nat.le_of_ble_eq_true rfl) ?_
  intro p e R s m args below meth c Q ls hR hx hb hml hown hts hK hE hP hl hret
  have hRf : 5 ≤ R.frames := by subst hR; exact Nat.le_refl _
  have hRl : 122 ≤ R.locals := by subst hR; exact Nat.le_refl _
  have hown : s.vm.findClass RX9 = some m.cls := hown
  have hl : lv_has ls 2 [(0, .ref (q 0)), (1, .int a1)] := hl
  have hS : va_S (mA q) s.heap s.heap [] := va_S.rf
  have hP : va_P D vwCl (mW q cI cO I F hs) s.heap := hP
  refine lv_aload_n hx hb dX9_reachOf_0 rfl (lv_at hl 0 rfl) ?_
  refine gCallV (D := D) (va_runV (As := []) (rest := []) ⟨hx, hb, hml, hown, hts⟩ (c_X9_freshen l D q cI cO hq   I F hs _ h) (cwV 0 hts gX9_reachOf_X9_freshen rfl rfl rfl (by decide +kernel) ⟨Nat.le_trans (Nat.le_of_ble_eq_true rfl) hRf, Nat.le_trans (Nat.le_of_ble_eq_true rfl) hRl⟩) (gPreV (ci := 9) (q0 := 0) mEok hE hK hP hS rfl mAt0) rfl rfl hl.1 rfl (lv_room (Nat.le_of_ble_eq_true rfl)) dX9_reachOf_1 ⟨Nat.zero_le _, Nat.zero_le _⟩) hS (fun u H locs hP hS h => ?_)
  obtain ⟨I1, F2, hs3⟩ := u
  have hP : va_P D vwCl (mW q cI cO I1 F2 hs3) H := hP
  refine lv_aload_n hx hb dX9_reachOf_4 rfl (lv_at hl 0 rfl) ?_
  refine va_get (D := D) (ci := 9) (v := .ref (q 21)) (C := RX9) (T := TX9) (N := 44) hx hb hts (fun _ h9 => List.mem_cons_of_mem _ (List.mem_append_right _ h9)) hown hK hP 0 mAt0 rfl 30 (by decide) (hts _ (List.mem_of_getElem? (l := wsX9_reachOf) (i := 1) rfl)) (fun _ h9 => h9) rfl dX9_reachOf_5 ?_
  refine lv_iload_n hx hb dX9_reachOf_8 rfl (lv_at hl 1 rfl) ?_
  refine va_iald (D := D) hx hb hK hP 21 0 mAr21 rfl h.1 dX9_reachOf_9 ?_
  have h := h.2
  exact hret (F2 21 (a1).toNatClampNeg) (I1, F2, hs3) _ _ _ _ dX9_reachOf_10 hP hS h
def w_X9_reach (a1 : Int32) (I : Nat → Int32) (F : Nat → Nat → Int32) (hs : Int64) (post : Int32 → (Nat → Int32) → (Nat → Nat → Int32) → Int64 → Prop) : Prop :=
  w_X9_isChord a1 I F hs (fun (r1 : Int32) => ((r1 = 0 → post (-101 : Int32) I F hs) ∧ (¬ r1 = 0 → w_X9_reachOf a1 I F hs (fun (r3 : Int32) (I4 : Nat → Int32) (F5 : Nat → Nat → Int32) (hs6 : Int64) => post r3 I4 F5 hs6))))
set_option maxHeartbeats 4000000 in
set_option maxRecDepth 100000 in
theorem c_X9_reach (l : Launch) (D : va_G) (q : Nat → Nat) (cI cO : ClassId) (hq : mOk q) (a1 : Int32)  (I : Nat → Int32) (F : Nat → Nat → Int32) (hs : Int64) (post : Int32 → (Nat → Int32) → (Nat → Nat → Int32) → Int64 → Prop) (h : w_X9_reach a1 I F hs post) : Met l yX9_reach wsX9_reach ({ frames := 6, cells := 0, slots := 0, locals := 143 } : Room) (gPre D (mTys cI) (mW q cI cO I F hs) mEnv [.ref (q 0), .int a1]) (va_Qi (fun r (u : mS) => post r u.1 u.2.1 u.2.2) (gB D (fun u : mS => mW q cI cO u.1 u.2.1 u.2.2)) (mA q)) 0 0 (mA q) := by
  refine gMetI (by decide) rfl (Nat.le_of_ble_eq_true rfl) ?_
  intro p e R s m args below meth c Q ls hR hx hb hml hown hts hK hE hP hl hret
  have hRf : 6 ≤ R.frames := by subst hR; exact Nat.le_refl _
  have hRl : 143 ≤ R.locals := by subst hR; exact Nat.le_refl _
  have hown : s.vm.findClass RX9 = some m.cls := hown
  have hl : lv_has ls 2 [(0, .ref (q 0)), (1, .int a1)] := hl
  have hS : va_S (mA q) s.heap s.heap [] := va_S.rf
  have hP : va_P D vwCl (mW q cI cO I F hs) s.heap := hP
  refine lv_aload_n hx hb dX9_reach_0 rfl (lv_at hl 0 rfl) ?_
  refine lv_iload_n hx hb dX9_reach_1 rfl (lv_at hl 1 rfl) ?_
  refine gCallI (D := D) (va_runV (As := [.int a1]) (rest := []) ⟨hx, hb, hml, hown, hts⟩ (c_X9_isChord l D q cI cO hq a1  I F hs _ h) (cwV 1 hts gX9_reach_X9_isChord rfl rfl rfl (by decide +kernel) ⟨Nat.le_trans (Nat.le_of_ble_eq_true rfl) hRf, Nat.le_trans (Nat.le_of_ble_eq_true rfl) hRl⟩) (gPreV (ci := 9) (q0 := 0) mEok hE hK hP hS rfl mAt0) rfl rfl hl.1 rfl (lv_room (Nat.le_of_ble_eq_true rfl)) dX9_reach_2 ⟨Nat.zero_le _, Nat.zero_le _⟩) hS (fun r1 _ H locs hP hS h => ?_)
  have hP : va_P D vwCl (mW q cI cO I F hs) H := hP
  refine lv_if_eq (tgt := 16) hx hb dX9_reach_5 (by decide) (fun c2 => ?_) (fun c2 => ?_)
  · have h := h.1 c2
    refine lv_bipush (v := (-101 : Int32)) hx hb dX9_reach_16 (by decide) ?_
    exact hret (-101 : Int32) (I, F, hs) _ _ _ _ dX9_reach_18 hP hS h
  · have h := h.2 c2
    refine lv_aload_n hx hb dX9_reach_8 rfl (lv_at hl 0 rfl) ?_
    refine lv_iload_n hx hb dX9_reach_9 rfl (lv_at hl 1 rfl) ?_
    refine gCallI (D := D) (va_runV (As := [.int a1]) (rest := []) ⟨hx, hb, hml, hown, hts⟩ (c_X9_reachOf l D q cI cO hq a1  I F hs _ h) (cwV 1 hts gX9_reach_X9_reachOf rfl rfl rfl (by decide +kernel) ⟨Nat.le_trans (Nat.le_of_ble_eq_true rfl) hRf, Nat.le_trans (Nat.le_of_ble_eq_true rfl) hRl⟩) (gPreV (ci := 9) (q0 := 0) mEok hE hK hP hS rfl mAt0) rfl rfl hl.1 rfl (lv_room (Nat.le_of_ble_eq_true rfl)) dX9_reach_10 ⟨Nat.zero_le _, Nat.zero_le _⟩) hS (fun r3 u H locs hP hS h => ?_)
    obtain ⟨I4, F5, hs6⟩ := u
    have hP : va_P D vwCl (mW q cI cO I4 F5 hs6) H := hP
    refine lv_goto (tgt := 18) hx hb dX9_reach_13 (by decide) ?_
    exact hret r3 (I4, F5, hs6) _ _ _ _ dX9_reach_18 hP hS h
def w_X9_shiftedOf (a1 : Int32) (I : Nat → Int32) (F : Nat → Nat → Int32) (hs : Int64) (post : Int32 → (Nat → Int32) → (Nat → Nat → Int32) → Int64 → Prop) : Prop :=
  w_X9_layRest a1 I F hs (fun (I1 : Nat → Int32) (F2 : Nat → Nat → Int32) (hs3 : Int64) => w_X9_bestFrom (I1 4) (0 : Int32) a1 I1 F2 hs3 (fun (r4 : Int32) => ∀ I5 : Nat → Int32, I5 = upd I1 6 (1 : Int32) → (((99999 : Int32) ≤ r4 → post (-1 : Int32) I5 F2 hs3) ∧ (¬ (99999 : Int32) ≤ r4 → post r4 I5 F2 hs3))))
set_option maxHeartbeats 4000000 in
set_option maxRecDepth 100000 in
theorem c_X9_shiftedOf (l : Launch) (D : va_G) (q : Nat → Nat) (cI cO : ClassId) (hq : mOk q) (a1 : Int32)  (I : Nat → Int32) (F : Nat → Nat → Int32) (hs : Int64) (post : Int32 → (Nat → Int32) → (Nat → Nat → Int32) → Int64 → Prop) (h : w_X9_shiftedOf a1 I F hs post) : Met l yX9_shiftedOf wsX9_shiftedOf ({ frames := 4, cells := 0, slots := 0, locals := 98 } : Room) (gPre D (mTys cI) (mW q cI cO I F hs) mEnv [.ref (q 0), .int a1]) (va_Qi (fun r (u : mS) => post r u.1 u.2.1 u.2.2) (gB D (fun u : mS => mW q cI cO u.1 u.2.1 u.2.2)) (mA q)) 0 0 (mA q) := by
  refine gMetI (by decide) rfl (Nat.le_of_ble_eq_true rfl) ?_
  intro p e R s m args below meth c Q ls hR hx hb hml hown hts hK hE hP hl hret
  have hRf : 4 ≤ R.frames := by subst hR; exact Nat.le_refl _
  have hRl : 98 ≤ R.locals := by subst hR; exact Nat.le_refl _
  have hown : s.vm.findClass RX9 = some m.cls := hown
  have hl : lv_has ls 3 [(0, .ref (q 0)), (1, .int a1)] := hl
  have hS : va_S (mA q) s.heap s.heap [] := va_S.rf
  have hP : va_P D vwCl (mW q cI cO I F hs) s.heap := hP
  refine lv_aload_n hx hb dX9_shiftedOf_0 rfl (lv_at hl 0 rfl) ?_
  refine lv_iload_n hx hb dX9_shiftedOf_1 rfl (lv_at hl 1 rfl) ?_
  refine gCallV (D := D) (va_runV (As := [.int a1]) (rest := []) ⟨hx, hb, hml, hown, hts⟩ (c_X9_layRest l D q cI cO hq a1  I F hs _ h) (cwV 1 hts gX9_shiftedOf_X9_layRest rfl rfl rfl (by decide +kernel) ⟨Nat.le_trans (Nat.le_of_ble_eq_true rfl) hRf, Nat.le_trans (Nat.le_of_ble_eq_true rfl) hRl⟩) (gPreV (ci := 9) (q0 := 0) mEok hE hK hP hS rfl mAt0) rfl rfl hl.1 rfl (lv_room (Nat.le_of_ble_eq_true rfl)) dX9_shiftedOf_2 ⟨Nat.zero_le _, Nat.zero_le _⟩) hS (fun u H locs hP hS h => ?_)
  obtain ⟨I1, F2, hs3⟩ := u
  have hP : va_P D vwCl (mW q cI cO I1 F2 hs3) H := hP
  refine lv_aload_n hx hb dX9_shiftedOf_5 rfl (lv_at hl 0 rfl) ?_
  refine lv_aload_n hx hb dX9_shiftedOf_6 rfl (lv_at hl 0 rfl) ?_
  refine va_get (D := D) (ci := 9) (v := .int (I1 4)) (C := RX9) (T := TX9) (N := 44) hx hb hts (fun _ h9 => List.mem_cons_of_mem _ (List.mem_append_right _ h9)) hown hK hP 0 mAt0 rfl 17 (by decide) (hts _ (List.mem_of_getElem? (l := wsX9_shiftedOf) (i := 1) rfl)) (fun _ h9 => h9) rfl dX9_shiftedOf_7 ?_
  refine lv_iconst (v := (0 : Int32)) hx hb dX9_shiftedOf_10 (by decide) ?_
  refine lv_iload_n hx hb dX9_shiftedOf_11 rfl (lv_at hl 1 rfl) ?_
  refine gCallI (D := D) (va_runV (As := [.int (I1 4), .int (0 : Int32), .int a1]) (rest := []) ⟨hx, hb, hml, hown, hts⟩ (c_X9_bestFrom l D q cI cO hq (I1 4) (0 : Int32) a1  I1 F2 hs3 _ h) (cwV 3 hts gX9_shiftedOf_X9_bestFrom rfl rfl rfl (by decide +kernel) ⟨Nat.le_trans (Nat.le_of_ble_eq_true rfl) hRf, Nat.le_trans (Nat.le_of_ble_eq_true rfl) hRl⟩) (gPreV (ci := 9) (q0 := 0) mEok hE hK hP hS rfl mAt0) rfl rfl hl.1 rfl (lv_room (Nat.le_of_ble_eq_true rfl)) dX9_shiftedOf_12 ⟨Nat.zero_le _, Nat.zero_le _⟩) hS (fun r4 _ H locs hP hS h => ?_)
  have hP : va_P D vwCl (mW q cI cO I1 F2 hs3) H := hP
  refine lv_istore_n (lv' := [(2, .int r4), (0, .ref (q 0)), (1, .int a1)]) hx hb dX9_shiftedOf_15 rfl hl (by decide) rfl (fun ls hl => ?_)
  refine lv_aload_n hx hb dX9_shiftedOf_16 rfl (lv_at hl 1 rfl) ?_
  refine lv_iconst (v := (1 : Int32)) hx hb dX9_shiftedOf_17 (by decide) ?_
  refine gPut (D := D) (ci := 9) (ty := .boolean) (C := RX9) (T := TX9) (N := 44) hx hb hts (fun _ h9 => List.mem_cons_of_mem _ (List.mem_append_right _ h9)) tyX9 tyX9_ok nmX9 hown hK hP (mD hq) hS 0 mAt0 rfl 21 (by decide) (hts _ (List.mem_of_getElem? (l := wsX9_shiftedOf) (i := 2) rfl)) (fun _ h9 => h9) rfl (by decide +kernel) (by decide) (by decide) (Nat.le_of_ble_eq_true rfl) dX9_shiftedOf_18 (mSet6 (1 : Int32)) (fun H locs hP hS => ?_)
  obtain ⟨I5, eI5⟩ : ∃ z : Nat → Int32, z = upd I1 6 (1 : Int32) := ⟨_, rfl⟩
  rw [← eI5] at hP
  have h := h I5 eI5
  refine lv_iload_n hx hb dX9_shiftedOf_21 rfl (lv_at hl 0 rfl) ?_
  refine lv_ldc (v := (99999 : Int32)) hx hb hown (hts _ (List.mem_of_getElem? (l := wsX9_shiftedOf) (i := 3) rfl)) dX9_shiftedOf_22 ?_
  refine lv_icmp_ge (tgt := 31) hx hb dX9_shiftedOf_24 (by decide) (fun c6 => ?_) (fun c6 => ?_)
  · have h := h.1 c6
    refine lv_iconst (v := (-1 : Int32)) hx hb dX9_shiftedOf_31 (by decide) ?_
    exact hret (-1 : Int32) (I5, F2, hs3) _ _ _ _ dX9_shiftedOf_32 hP hS h
  · have h := h.2 c6
    refine lv_iload_n hx hb dX9_shiftedOf_27 rfl (lv_at hl 0 rfl) ?_
    refine lv_goto (tgt := 32) hx hb dX9_shiftedOf_28 (by decide) ?_
    exact hret r4 (I5, F2, hs3) _ _ _ _ dX9_shiftedOf_32 hP hS h
def w_X9_shifted (a1 : Int32) (I : Nat → Int32) (F : Nat → Nat → Int32) (hs : Int64) (post : Int32 → (Nat → Int32) → (Nat → Nat → Int32) → Int64 → Prop) : Prop :=
  w_X9_in ((a1).toInt64) (0 : Int64) (11 : Int64) I F hs (fun (r1 : Int32) => ((¬ r1 = 0 → w_X9_lacks I F hs (fun (r3 : Int32) => ((r3 = 0 → w_X9_shiftedOf a1 I F hs (fun (r5 : Int32) (I6 : Nat → Int32) (F7 : Nat → Nat → Int32) (hs8 : Int64) => post r5 I6 F7 hs8)) ∧ (¬ r3 = 0 → post (-103 : Int32) I F hs)))) ∧ (r1 = 0 → post (-102 : Int32) I F hs)))
set_option maxHeartbeats 4000000 in
set_option maxRecDepth 100000 in
theorem c_X9_shifted (l : Launch) (D : va_G) (q : Nat → Nat) (cI cO : ClassId) (hq : mOk q) (a1 : Int32)  (I : Nat → Int32) (F : Nat → Nat → Int32) (hs : Int64) (post : Int32 → (Nat → Int32) → (Nat → Nat → Int32) → Int64 → Prop) (h : w_X9_shifted a1 I F hs post) : Met l yX9_shifted wsX9_shifted ({ frames := 5, cells := 0, slots := 0, locals := 120 } : Room) (gPre D (mTys cI) (mW q cI cO I F hs) mEnv [.ref (q 0), .int a1]) (va_Qi (fun r (u : mS) => post r u.1 u.2.1 u.2.2) (gB D (fun u : mS => mW q cI cO u.1 u.2.1 u.2.2)) (mA q)) 0 0 (mA q) := by
  refine gMetI (by decide) rfl (Nat.le_of_ble_eq_true rfl) ?_
  intro p e R s m args below meth c Q ls hR hx hb hml hown hts hK hE hP hl hret
  have hRf : 5 ≤ R.frames := by subst hR; exact Nat.le_refl _
  have hRl : 120 ≤ R.locals := by subst hR; exact Nat.le_refl _
  have hown : s.vm.findClass RX9 = some m.cls := hown
  have hl : lv_has ls 2 [(0, .ref (q 0)), (1, .int a1)] := hl
  have hS : va_S (mA q) s.heap s.heap [] := va_S.rf
  have hP : va_P D vwCl (mW q cI cO I F hs) s.heap := hP
  refine lv_iload_n hx hb dX9_shifted_0 rfl (lv_at hl 1 rfl) ?_
  refine lv_i2l (v := (a1).toInt64) hx hb dX9_shifted_1 rfl ?_
  refine lv_lconst (v := (0 : Int64)) hx hb dX9_shifted_2 (by decide) ?_
  refine lv_ldc2 (v := (11 : Int64)) hx hb hown (hts _ (List.mem_of_getElem? (l := wsX9_shifted) (i := 1) rfl)) dX9_shifted_3 ?_
  refine gCallI (D := D) (va_runS (As := [.long ((a1).toInt64), .long (0 : Int64), .long (11 : Int64)]) (rest := []) ⟨hx, hb, hml, hown, hts⟩ (c_X9_in l D q cI cO hq ((a1).toInt64) (0 : Int64) (11 : Int64)  I F hs _ h) (va_cwS 3 hts gX9_shifted_X9_in rfl rfl rfl (by decide +kernel) ⟨Nat.le_trans (Nat.le_of_ble_eq_true rfl) hRf, Nat.le_trans (Nat.le_of_ble_eq_true rfl) hRl⟩) (gPreS mEok hE hK hP hS) rfl rfl hl.1 rfl (lv_room (Nat.le_of_ble_eq_true rfl)) dX9_shifted_6 ⟨Nat.zero_le _, Nat.zero_le _⟩) hS (fun r1 _ H locs hP hS h => ?_)
  have hP : va_P D vwCl (mW q cI cO I F hs) H := hP
  refine lv_if_ne (tgt := 15) hx hb dX9_shifted_9 (by decide) (fun c2 => ?_) (fun c2 => ?_)
  · have h := h.1 c2
    refine lv_aload_n hx hb dX9_shifted_15 rfl (lv_at hl 0 rfl) ?_
    refine gCallI (D := D) (va_runV (As := []) (rest := []) ⟨hx, hb, hml, hown, hts⟩ (c_X9_lacks l D q cI cO hq   I F hs _ h) (cwV 0 hts gX9_shifted_X9_lacks rfl rfl rfl (by decide +kernel) ⟨Nat.le_trans (Nat.le_of_ble_eq_true rfl) hRf, Nat.le_trans (Nat.le_of_ble_eq_true rfl) hRl⟩) (gPreV (ci := 9) (q0 := 0) mEok hE hK hP hS rfl mAt0) rfl rfl hl.1 rfl (lv_room (Nat.le_of_ble_eq_true rfl)) dX9_shifted_16 ⟨Nat.zero_le _, Nat.zero_le _⟩) hS (fun r3 _ H locs hP hS h => ?_)
    have hP : va_P D vwCl (mW q cI cO I F hs) H := hP
    refine lv_if_eq (tgt := 27) hx hb dX9_shifted_19 (by decide) (fun c4 => ?_) (fun c4 => ?_)
    · have h := h.1 c4
      refine lv_aload_n hx hb dX9_shifted_27 rfl (lv_at hl 0 rfl) ?_
      refine lv_iload_n hx hb dX9_shifted_28 rfl (lv_at hl 1 rfl) ?_
      refine gCallI (D := D) (va_runV (As := [.int a1]) (rest := []) ⟨hx, hb, hml, hown, hts⟩ (c_X9_shiftedOf l D q cI cO hq a1  I F hs _ h) (cwV 1 hts gX9_shifted_X9_shiftedOf rfl rfl rfl (by decide +kernel) ⟨Nat.le_trans (Nat.le_of_ble_eq_true rfl) hRf, Nat.le_trans (Nat.le_of_ble_eq_true rfl) hRl⟩) (gPreV (ci := 9) (q0 := 0) mEok hE hK hP hS rfl mAt0) rfl rfl hl.1 rfl (lv_room (Nat.le_of_ble_eq_true rfl)) dX9_shifted_29 ⟨Nat.zero_le _, Nat.zero_le _⟩) hS (fun r5 u H locs hP hS h => ?_)
      obtain ⟨I6, F7, hs8⟩ := u
      have hP : va_P D vwCl (mW q cI cO I6 F7 hs8) H := hP
      exact hret r5 (I6, F7, hs8) _ _ _ _ dX9_shifted_32 hP hS h
    · have h := h.2 c4
      refine lv_bipush (v := (-103 : Int32)) hx hb dX9_shifted_22 (by decide) ?_
      refine lv_goto (tgt := 32) hx hb dX9_shifted_24 (by decide) ?_
      exact hret (-103 : Int32) (I, F, hs) _ _ _ _ dX9_shifted_32 hP hS h
  · have h := h.2 c2
    refine lv_bipush (v := (-102 : Int32)) hx hb dX9_shifted_12 (by decide) ?_
    exact hret (-102 : Int32) (I, F, hs) _ _ _ _ dX9_shifted_14 hP hS h
