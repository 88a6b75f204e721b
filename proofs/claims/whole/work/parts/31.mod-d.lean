def w_X9_heldBy_J28 (x1 : Int32) (x2 : Int32) (I : Nat → Int32) (F : Nat → Nat → Int32) (hs : Int64) (post : Int32 → Prop) : Prop :=
  vp_in (x1 - (1 : Int32)) 8 ∧ w_X9_shiftedTones (F 15 ((x1 - (1 : Int32))).toNatClampNeg) x2 I F hs (fun (r1 : Int32) => post r1)
def w_X9_heldBy (a1 : Int32) (a2 : Int32) (I : Nat → Int32) (F : Nat → Nat → Int32) (hs : Int64) (post : Int32 → Prop) : Prop :=
  ((a1 ≤ 0 → post (0 : Int32)) ∧ (¬ a1 ≤ 0 → vp_in (a1 - (1 : Int32)) 8 ∧ (((F 14 ((a1 - (1 : Int32))).toNatClampNeg) = (2 : Int32) → w_X9_heldBy_J28 a1 a2 I F hs post) ∧ (¬ (F 14 ((a1 - (1 : Int32))).toNatClampNeg) = (2 : Int32) → vp_in (a1 - (1 : Int32)) 8 ∧ ((¬ (F 14 ((a1 - (1 : Int32))).toNatClampNeg) = (4 : Int32) → post (0 : Int32)) ∧ ((F 14 ((a1 - (1 : Int32))).toNatClampNeg) = (4 : Int32) → w_X9_heldBy_J28 a1 a2 I F hs post))))))
set_option maxHeartbeats 4000000 in
set_option maxRecDepth 100000 in
theorem c_X9_heldBy (l : Launch) (D : va_G) (q : Nat → Nat) (cI cO : ClassId) (hq : mOk q) (a1 : Int32) (a2 : Int32)  (I : Nat → Int32) (F : Nat → Nat → Int32) (hs : Int64) (post : Int32 → Prop) (h : w_X9_heldBy a1 a2 I F hs post) : Met l yX9_heldBy wsX9_heldBy ({ frames := 1, cells := 0, slots := 0, locals := 22 } : Room) (gPre D (mTys cI) (mW q cI cO I F hs) mEnv [.ref (q 0), .int a1, .int a2]) (va_Qi (fun r (_ : Unit) => post r) (gB D (fun _ : Unit => mW q cI cO I F hs)) (mA q)) 0 0 (mA q) := by
  refine gMetI (by decide) rfl (Nat.le_of_ble_eq_true rfl) ?_
  intro p e R s m args below meth c Q ls hR hx hb hml hown hts hK hE hP hl hret
  have hRf : 1 ≤ R.frames := by subst hR; exact Nat.le_refl _
  have hRl : 22 ≤ R.locals := by subst hR; exact Nat.le_refl _
  have hown : s.vm.findClass RX9 = some m.cls := hown
  have hl : lv_has ls 3 [(0, .ref (q 0)), (1, .int a1), (2, .int a2)] := hl
  have hS : va_S (mA q) s.heap s.heap [] := va_S.rf
  have hP : va_P D vwCl (mW q cI cO I F hs) s.heap := hP
  have J28 : ∀ (x1 : Int32) (x2 : Int32) (H : Heap) (locs : List Loc) (ls : Array Slot), va_P D vwCl (mW q cI cO I F hs) H → va_S (mA q) s.heap H locs → lv_has ls 3 [(0, .ref (q 0)), (1, .int x1), (2, .int x2)] → w_X9_heldBy_J28 x1 x2 I F hs post → W p l e R s m args below meth c H locs 0 0 Q (F0 m 28 ls []) := by
    intro x1 x2 H locs ls  hP hS hl h
    refine lv_aload_n hx hb dX9_heldBy_28 rfl (lv_at hl 0 rfl) ?_
    refine lv_aload_n hx hb dX9_heldBy_29 rfl (lv_at hl 0 rfl) ?_
    refine va_get (D := D) (ci := 9) (v := .ref (q 15)) (C := RX9) (T := TX9) (N := 44) hx hb hts (fun _ h9 => List.mem_cons_of_mem _ (List.mem_append_right _ h9)) hown hK hP 0 mAt0 rfl 20 (by decide) (hts _ (List.mem_of_getElem? (l := wsX9_heldBy) (i := 2) rfl)) (fun _ h9 => h9) rfl dX9_heldBy_30 ?_
    refine lv_iload_n hx hb dX9_heldBy_33 rfl (lv_at hl 1 rfl) ?_
    refine lv_iconst (v := (1 : Int32)) hx hb dX9_heldBy_34 (by decide) ?_
    refine lv_isub hx hb dX9_heldBy_35 ?_
    refine va_iald (D := D) hx hb hK hP 15 0 mAr15 rfl h.1 dX9_heldBy_36 ?_
    have h := h.2
    refine lv_iload_n hx hb dX9_heldBy_37 rfl (lv_at hl 2 rfl) ?_
    refine gCallI (D := D) (va_runV (As := [.int (F 15 ((x1 - (1 : Int32))).toNatClampNeg), .int x2]) (rest := []) ⟨hx, hb, hml, hown, hts⟩ (c_X9_shiftedTones l D q cI cO hq (F 15 ((x1 - (1 : Int32))).toNatClampNeg) x2  I F hs _ h) (cwV 2 hts gX9_heldBy_X9_shiftedTones rfl rfl rfl (by decide +kernel) ⟨Nat.le_trans (Nat.le_of_ble_eq_true rfl) hRf, Nat.le_trans (Nat.le_of_ble_eq_true rfl) hRl⟩) (gPreV (ci := 9) (q0 := 0) mEok hE hK hP hS rfl mAt0) rfl rfl hl.1 rfl (lv_room (Nat.le_of_ble_eq_true rfl)) dX9_heldBy_38 ⟨Nat.zero_le _, Nat.zero_le _⟩) hS (fun r1 _ H locs hP hS h => ?_)
    have hP : va_P D vwCl (mW q cI cO I F hs) H := hP
    refine lv_goto (tgt := 45) hx hb dX9_heldBy_41 (by decide) ?_
    exact hret r1 () _ _ _ _ dX9_heldBy_45 hP hS h
  refine lv_iload_n hx hb dX9_heldBy_0 rfl (lv_at hl 1 rfl) ?_
  refine lv_if_le (tgt := 44) hx hb dX9_heldBy_1 (by decide) (fun c2 => ?_) (fun c2 => ?_)
  · have h := h.1 c2
    refine lv_iconst (v := (0 : Int32)) hx hb dX9_heldBy_44 (by decide) ?_
    exact hret (0 : Int32) () _ _ _ _ dX9_heldBy_45 hP hS h
  · have h := h.2 c2
    refine lv_aload_n hx hb dX9_heldBy_4 rfl (lv_at hl 0 rfl) ?_
    refine va_get (D := D) (ci := 9) (v := .ref (q 14)) (C := RX9) (T := TX9) (N := 44) hx hb hts (fun _ h9 => List.mem_cons_of_mem _ (List.mem_append_right _ h9)) hown hK hP 0 mAt0 rfl 19 (by decide) (hts _ (List.mem_of_getElem? (l := wsX9_heldBy) (i := 1) rfl)) (fun _ h9 => h9) rfl dX9_heldBy_5 ?_
    refine lv_iload_n hx hb dX9_heldBy_8 rfl (lv_at hl 1 rfl) ?_
    refine lv_iconst (v := (1 : Int32)) hx hb dX9_heldBy_9 (by decide) ?_
    refine lv_isub hx hb dX9_heldBy_10 ?_
    refine va_iald (D := D) hx hb hK hP 14 0 mAr14 rfl h.1 dX9_heldBy_11 ?_
    have h := h.2
    refine lv_iconst (v := (2 : Int32)) hx hb dX9_heldBy_12 (by decide) ?_
    refine lv_icmp_eq (tgt := 28) hx hb dX9_heldBy_13 (by decide) (fun c3 => ?_) (fun c3 => ?_)
    · have h := h.1 c3
      exact J28 a1 a2 _ _ _  hP hS (lv_sub hl [0, 1, 2] rfl) h
    · have h := h.2 c3
      refine lv_aload_n hx hb dX9_heldBy_16 rfl (lv_at hl 0 rfl) ?_
      refine va_get (D := D) (ci := 9) (v := .ref (q 14)) (C := RX9) (T := TX9) (N := 44) hx hb hts (fun _ h9 => List.mem_cons_of_mem _ (List.mem_append_right _ h9)) hown hK hP 0 mAt0 rfl 19 (by decide) (hts _ (List.mem_of_getElem? (l := wsX9_heldBy) (i := 1) rfl)) (fun _ h9 => h9) rfl dX9_heldBy_17 ?_
      refine lv_iload_n hx hb dX9_heldBy_20 rfl (lv_at hl 1 rfl) ?_
      refine lv_iconst (v := (1 : Int32)) hx hb dX9_heldBy_21 (by decide) ?_
      refine lv_isub hx hb dX9_heldBy_22 ?_
      refine va_iald (D := D) hx hb hK hP 14 0 mAr14 rfl h.1 dX9_heldBy_23 ?_
      have h := h.2
      refine lv_iconst (v := (4 : Int32)) hx hb dX9_heldBy_24 (by decide) ?_
      refine lv_icmp_ne (tgt := 44) hx hb dX9_heldBy_25 (by decide) (fun c4 => ?_) (fun c4 => ?_)
      · have h := h.1 c4
        refine lv_iconst (v := (0 : Int32)) hx hb dX9_heldBy_44 (by decide) ?_
        exact hret (0 : Int32) () _ _ _ _ dX9_heldBy_45 hP hS h
      · have h := h.2 c4
        exact J28 a1 a2 _ _ _  hP hS (lv_sub hl [0, 1, 2] rfl) h
def w_X9_heldPedals_B5 (x1 : Int32) (x2 : Int32) (I : Nat → Int32) (F : Nat → Nat → Int32) (hs : Int64) (k again : Int32 → Int32 → Prop) (x3 : Int32) (x4 : Int32) : Prop :=
  (((7 : Int32) ≤ x4 → k x3 x4) ∧ (¬ (7 : Int32) ≤ x4 → ((x2 = 0 → k x3 x4) ∧ (¬ x2 = 0 → w_X9_toneIn x1 x4 I F hs (fun (r3 : Int32) => ∀ v4 : Int32, v4 = (x3 ||| (((x2 >>> (r3 &&& 31)) &&& (1 : Int32)) <<< (x4 &&& 31))) → again v4 (x4 + (1 : Int32)))))))
def w_X9_heldPedals (a1 : Int32) (a2 : Int32) (I : Nat → Int32) (F : Nat → Nat → Int32) (hs : Int64) (post : Int32 → Prop) : Prop :=
  gL (fun ag v => w_X9_heldPedals_B5 a1 a2 I F hs (fun (y5 : Int32) (y6 : Int32) => post y5) (fun b0 b1 => ag (b0, b1)) v.1 v.2) ((0 : Int32), (0 : Int32))
set_option maxHeartbeats 4000000 in
set_option maxRecDepth 100000 in
theorem c_X9_heldPedals (l : Launch) (D : va_G) (q : Nat → Nat) (cI cO : ClassId) (hq : mOk q) (a1 : Int32) (a2 : Int32)  (I : Nat → Int32) (F : Nat → Nat → Int32) (hs : Int64) (post : Int32 → Prop) (h : w_X9_heldPedals a1 a2 I F hs post) : Met l yX9_heldPedals wsX9_heldPedals ({ frames := 1, cells := 0, slots := 0, locals := 22 } : Room) (gPre D (mTys cI) (mW q cI cO I F hs) mEnv [.ref (q 0), .int a1, .int a2]) (va_Qi (fun r (_ : Unit) => post r) (gB D (fun _ : Unit => mW q cI cO I F hs)) (mA q)) 0 0 (mA q) := by
  refine gMetI (by decide) rfl (Nat.le_of_ble_eq_true rfl) ?_
  intro p e R s m args below meth c Q ls hR hx hb hml hown hts hK hE hP hl hret
  have hRf : 1 ≤ R.frames := by subst hR; exact Nat.le_refl _
  have hRl : 22 ≤ R.locals := by subst hR; exact Nat.le_refl _
  have hown : s.vm.findClass RX9 = some m.cls := hown
  have hl : lv_has ls 5 [(0, .ref (q 0)), (1, .int a1), (2, .int a2)] := hl
  have hS : va_S (mA q) s.heap s.heap [] := va_S.rf
  have hP : va_P D vwCl (mW q cI cO I F hs) s.heap := hP
  have L5 : ∀ (n : Nat) (x1 : Int32) (x2 : Int32) (k : Int32 → Int32 → Prop) (x3 : Int32) (x4 : Int32) (H : Heap) (locs : List Loc) (ls : Array Slot), va_P D vwCl (mW q cI cO I F hs) H → va_S (mA q) s.heap H locs → lv_has ls 5 [(0, .ref (q 0)), (1, .int x1), (2, .int x2), (3, .int x3), (4, .int x4)] → gLN (fun ag v => w_X9_heldPedals_B5 x1 x2 I F hs k (fun b0 b1 => ag (b0, b1)) v.1 v.2) n (x3, x4) → (∀ (x3 : Int32) (x4 : Int32) (H : Heap) (locs : List Loc) (ls : Array Slot), va_P D vwCl (mW q cI cO I F hs) H → va_S (mA q) s.heap H locs → lv_has ls 5 [(3, .int x3)] → k x3 x4 → W p l e R s m args below meth c H locs 0 0 Q (F0 m 39 ls [])) → W p l e R s m args below meth c H locs 0 0 Q (F0 m 5 ls []) := by
    intro n
    induction n with
    | zero =>
      intro x1 x2 k x3 x4 H locs ls  hP hS hl h K
      exact False.elim h
    | succ n ih =>
      intro x1 x2 k x3 x4 H locs ls  hP hS hl h K
      have h : w_X9_heldPedals_B5 x1 x2 I F hs k (fun b0 b1 => gLN (fun ag v => w_X9_heldPedals_B5 x1 x2 I F hs k (fun b0 b1 => ag (b0, b1)) v.1 v.2) n (b0, b1)) x3 x4 := h
      refine lv_iload hx hb dX9_heldPedals_5 (lv_at hl 4 rfl) ?_
      refine lv_bipush (v := (7 : Int32)) hx hb dX9_heldPedals_7 (by decide) ?_
      refine lv_icmp_ge (tgt := 39) hx hb dX9_heldPedals_9 (by decide) (fun c1 => ?_) (fun c1 => ?_)
      · have h := h.1 c1
        exact K x3 x4 _ _ _  hP hS (lv_sub hl [3] rfl) h
      · have h := h.2 c1
        refine lv_iload_n hx hb dX9_heldPedals_12 rfl (lv_at hl 2 rfl) ?_
        refine lv_if_eq (tgt := 39) hx hb dX9_heldPedals_13 (by decide) (fun c2 => ?_) (fun c2 => ?_)
        · have h := h.1 c2
          exact K x3 x4 _ _ _  hP hS (lv_sub hl [3] rfl) h
        · have h := h.2 c2
          refine lv_iload_n hx hb dX9_heldPedals_16 rfl (lv_at hl 3 rfl) ?_
          refine lv_iload_n hx hb dX9_heldPedals_17 rfl (lv_at hl 2 rfl) ?_
          refine lv_aload_n hx hb dX9_heldPedals_18 rfl (lv_at hl 0 rfl) ?_
          refine lv_iload_n hx hb dX9_heldPedals_19 rfl (lv_at hl 1 rfl) ?_
          refine lv_iload hx hb dX9_heldPedals_20 (lv_at hl 4 rfl) ?_
          refine gCallI (D := D) (va_runV (As := [.int x1, .int x4]) (rest := [.int x2, .int x3]) ⟨hx, hb, hml, hown, hts⟩ (c_X9_toneIn l D q cI cO hq x1 x4  I F hs _ h) (cwV 2 hts gX9_heldPedals_X9_toneIn rfl rfl rfl (by decide +kernel) ⟨Nat.le_trans (Nat.le_of_ble_eq_true rfl) hRf, Nat.le_trans (Nat.le_of_ble_eq_true rfl) hRl⟩) (gPreV (ci := 9) (q0 := 0) mEok hE hK hP hS rfl mAt0) rfl rfl hl.1 rfl (lv_room (Nat.le_of_ble_eq_true rfl)) dX9_heldPedals_22 ⟨Nat.zero_le _, Nat.zero_le _⟩) hS (fun r3 _ H locs hP hS h => ?_)
          have hP : va_P D vwCl (mW q cI cO I F hs) H := hP
          refine lv_ishr hx hb dX9_heldPedals_25 ?_
          refine lv_iconst (v := (1 : Int32)) hx hb dX9_heldPedals_26 (by decide) ?_
          refine lv_iand hx hb dX9_heldPedals_27 ?_
          refine lv_iload hx hb dX9_heldPedals_28 (lv_at hl 4 rfl) ?_
          refine lv_ishl hx hb dX9_heldPedals_30 ?_
          refine lv_ior hx hb dX9_heldPedals_31 ?_
          refine lv_topi (fun v4 ev4 => ?_)
          have h := h v4 ev4
          refine lv_istore_n (lv' := [(3, .int v4), (0, .ref (q 0)), (1, .int x1), (2, .int x2), (4, .int x4)]) hx hb dX9_heldPedals_32 rfl hl (by decide) rfl (fun ls hl => ?_)
          refine lv_iinc (v := (x4 + (1 : Int32))) (lv' := [(4, .int (x4 + (1 : Int32))), (3, .int v4), (0, .ref (q 0)), (1, .int x1), (2, .int x2)]) hx hb dX9_heldPedals_33 hl (k := 4) rfl rfl (by decide) rfl (fun ls hl => ?_)
          refine lv_goto (tgt := 5) hx hb dX9_heldPedals_36 (by decide) ?_
          exact ih x1 x2 _ v4 (x4 + (1 : Int32)) _ _ _  hP hS (lv_sub hl [2, 3, 4, 1, 0] rfl) h K
  refine lv_iconst (v := (0 : Int32)) hx hb dX9_heldPedals_0 (by decide) ?_
  refine lv_istore_n (lv' := [(3, .int (0 : Int32)), (0, .ref (q 0)), (1, .int a1), (2, .int a2)]) hx hb dX9_heldPedals_1 rfl hl (by decide) rfl (fun ls hl => ?_)
  refine lv_iconst (v := (0 : Int32)) hx hb dX9_heldPedals_2 (by decide) ?_
  refine lv_istore (lv' := [(4, .int (0 : Int32)), (3, .int (0 : Int32)), (0, .ref (q 0)), (1, .int a1), (2, .int a2)]) hx hb dX9_heldPedals_3 hl (by decide) rfl (fun ls hl => ?_)
  obtain ⟨n, h⟩ := h
  refine L5 n a1 a2 _ (0 : Int32) (0 : Int32) _ _ _  hP hS (lv_sub hl [2, 3, 4, 1, 0] rfl) h (fun y5 y6 H locs ls  hP hS hl h => ?_)
  refine lv_iload_n hx hb dX9_heldPedals_39 rfl (lv_at hl 0 rfl) ?_
  exact hret y5 () _ _ _ _ dX9_heldPedals_40 hP hS h
def w_X9_mostOf (a0 : Int32) (I : Nat → Int32) (F : Nat → Nat → Int32) (hs : Int64) (post : Int32 → Prop) : Prop :=
  ((¬ a0 = (4 : Int32) → ((¬ a0 = (3 : Int32) → post (2 : Int32)) ∧ (a0 = (3 : Int32) → post (1 : Int32)))) ∧ (a0 = (4 : Int32) → post (0 : Int32)))
set_option maxHeartbeats 4000000 in
set_option maxRecDepth 100000 in
theorem c_X9_mostOf (l : Launch) (D : va_G) (q : Nat → Nat) (cI cO : ClassId) (hq : mOk q) (a0 : Int32)  (I : Nat → Int32) (F : Nat → Nat → Int32) (hs : Int64) (post : Int32 → Prop) (h : w_X9_mostOf a0 I F hs post) : Met l yX9_mostOf wsX9_mostOf ({ frames := 0, cells := 0, slots := 0, locals := 0 } : Room) (gPre D (mTys cI) (mW q cI cO I F hs) mEnv [.int a0]) (va_Qi (fun r (_ : Unit) => post r) (gB D (fun _ : Unit => mW q cI cO I F hs)) (mA q)) 0 0 (mA q) := by
  refine gMetI (by decide) rfl (Nat.le_of_ble_eq_true rfl) ?_
  intro p e R s m args below meth c Q ls hR hx hb hml hown hts hK hE hP hl hret
  have hRf : 0 ≤ R.frames := by subst hR; exact Nat.le_refl _
  have hRl : 0 ≤ R.locals := by subst hR; exact Nat.le_refl _
  have hown : s.vm.findClass RX9 = some m.cls := hown
  have hl : lv_has ls 1 [(0, .int a0)] := hl
  have hS : va_S (mA q) s.heap s.heap [] := va_S.rf
  have hP : va_P D vwCl (mW q cI cO I F hs) s.heap := hP
  refine lv_iload_n hx hb dX9_mostOf_0 rfl (lv_at hl 0 rfl) ?_
  refine lv_iconst (v := (4 : Int32)) hx hb dX9_mostOf_1 (by decide) ?_
  refine lv_icmp_ne (tgt := 9) hx hb dX9_mostOf_2 (by decide) (fun c1 => ?_) (fun c1 => ?_)
  · have h := h.1 c1
    refine lv_iload_n hx hb dX9_mostOf_9 rfl (lv_at hl 0 rfl) ?_
    refine lv_iconst (v := (3 : Int32)) hx hb dX9_mostOf_10 (by decide) ?_
    refine lv_icmp_ne (tgt := 18) hx hb dX9_mostOf_11 (by decide) (fun c2 => ?_) (fun c2 => ?_)
    · have h := h.1 c2
      refine lv_iconst (v := (2 : Int32)) hx hb dX9_mostOf_18 (by decide) ?_
      exact hret (2 : Int32) () _ _ _ _ dX9_mostOf_19 hP hS h
    · have h := h.2 c2
      refine lv_iconst (v := (1 : Int32)) hx hb dX9_mostOf_14 (by decide) ?_
      refine lv_goto (tgt := 19) hx hb dX9_mostOf_15 (by decide) ?_
      exact hret (1 : Int32) () _ _ _ _ dX9_mostOf_19 hP hS h
  · have h := h.2 c1
    refine lv_iconst (v := (0 : Int32)) hx hb dX9_mostOf_5 (by decide) ?_
    refine lv_goto (tgt := 19) hx hb dX9_mostOf_6 (by decide) ?_
    exact hret (0 : Int32) () _ _ _ _ dX9_mostOf_19 hP hS h
def w_X9_bestFrom_B31 (x1 : Int32) (x2 : Int32) (x4 : Int32) (x5 : Int32) (I : Nat → Int32) (F : Nat → Nat → Int32) (hs : Int64) (k again : Int32 → Int32 → Prop) (x6 : Int32) (x7 : Int32) : Prop :=
  (((63 : Int32) ≤ x7 → k x6 x7) ∧ (¬ (63 : Int32) ≤ x7 → w_X9_can x7 x5 x4 I F hs (fun (r2 : Int32) => ((r2 = 0 → again x6 (x7 + (1 : Int32))) ∧ (¬ r2 = 0 → w_X9_after x1 x7 I F hs (fun (r4 : Int32) => w_X9_movedBy x7 I F hs (fun (r5 : Int32) => vp_in (((2187 : Int32) * x2) + r4) 17496 ∧ ∀ v6 : Int32, v6 = (r5 + (F 17 ((((2187 : Int32) * x2) + r4)).toNatClampNeg)) → vp_in (((2187 : Int32) * x2) + r4) 17496 ∧ ((¬ (F 16 ((((2187 : Int32) * x2) + r4)).toNatClampNeg) = (1 : Int32) → again x6 (x7 + (1 : Int32))) ∧ ((F 16 ((((2187 : Int32) * x2) + r4)).toNatClampNeg) = (1 : Int32) → ((x6 ≤ v6 → again x6 (x7 + (1 : Int32))) ∧ (¬ x6 ≤ v6 → again v6 (x7 + (1 : Int32)))))))))))))
def w_X9_bestFrom (a1 : Int32) (a2 : Int32) (a3 : Int32) (I : Nat → Int32) (F : Nat → Nat → Int32) (hs : Int64) (post : Int32 → Prop) : Prop :=
  w_X9_heldBy a2 a3 I F hs (fun (r9 : Int32) => w_X9_heldPedals a1 r9 I F hs (fun (r10 : Int32) => vp_in a2 8 ∧ w_X9_mostOf (F 14 (a2).toNatClampNeg) I F hs (fun (r11 : Int32) => gL (fun ag v => w_X9_bestFrom_B31 a1 a2 r10 r11 I F hs (fun (y12 : Int32) (y13 : Int32) => post y12) (fun b0 b1 => ag (b0, b1)) v.1 v.2) ((99999 : Int32), (0 : Int32)))))
set_option maxHeartbeats 4000000 in
set_option maxRecDepth 100000 in
theorem c_X9_bestFrom (l : Launch) (D : va_G) (q : Nat → Nat) (cI cO : ClassId) (hq : mOk q) (a1 : Int32) (a2 : Int32) (a3 : Int32)  (I : Nat → Int32) (F : Nat → Nat → Int32) (hs : Int64) (post : Int32 → Prop) (h : w_X9_bestFrom a1 a2 a3 I F hs post) : Met l yX9_bestFrom wsX9_bestFrom ({ frames := 2, cells := 0, slots := 0, locals := 46 } : Room) (gPre D (mTys cI) (mW q cI cO I F hs) mEnv [.ref (q 0), .int a1, .int a2, .int a3]) (va_Qi (fun r (_ : Unit) => post r) (gB D (fun _ : Unit => mW q cI cO I F hs)) (mA q)) 0 0 (mA q) := by
  refine gMetI (by decide) rfl (Nat.le_of_ble_eq_true rfl) ?_
  intro p e R s m args below meth c Q ls hR hx hb hml hown hts hK hE hP hl hret
  have hRf : 2 ≤ R.frames := by subst hR; exact Nat.le_refl _
  have hRl : 46 ≤ R.locals := by subst hR; exact Nat.le_refl _
  have hown : s.vm.findClass RX9 = some m.cls := hown
  have hl : lv_has ls 10 [(0, .ref (q 0)), (1, .int a1), (2, .int a2), (3, .int a3)] := hl
  have hS : va_S (mA q) s.heap s.heap [] := va_S.rf
  have hP : va_P D vwCl (mW q cI cO I F hs) s.heap := hP
  have L31 : ∀ (n : Nat) (x1 : Int32) (x2 : Int32) (x4 : Int32) (x5 : Int32) (k : Int32 → Int32 → Prop) (x6 : Int32) (x7 : Int32) (H : Heap) (locs : List Loc) (ls : Array Slot), va_P D vwCl (mW q cI cO I F hs) H → va_S (mA q) s.heap H locs → lv_has ls 10 [(0, .ref (q 0)), (1, .int x1), (2, .int x2), (4, .int x4), (5, .int x5), (6, .int x6), (7, .int x7)] → gLN (fun ag v => w_X9_bestFrom_B31 x1 x2 x4 x5 I F hs k (fun b0 b1 => ag (b0, b1)) v.1 v.2) n (x6, x7) → (∀ (x6 : Int32) (x7 : Int32) (H : Heap) (locs : List Loc) (ls : Array Slot), va_P D vwCl (mW q cI cO I F hs) H → va_S (mA q) s.heap H locs → lv_has ls 10 [(6, .int x6)] → k x6 x7 → W p l e R s m args below meth c H locs 0 0 Q (F0 m 121 ls [])) → W p l e R s m args below meth c H locs 0 0 Q (F0 m 31 ls []) := by
    intro n
    induction n with
    | zero =>
      intro x1 x2 x4 x5 k x6 x7 H locs ls  hP hS hl h K
      exact False.elim h
    | succ n ih =>
      intro x1 x2 x4 x5 k x6 x7 H locs ls  hP hS hl h K
      have h : w_X9_bestFrom_B31 x1 x2 x4 x5 I F hs k (fun b0 b1 => gLN (fun ag v => w_X9_bestFrom_B31 x1 x2 x4 x5 I F hs k (fun b0 b1 => ag (b0, b1)) v.1 v.2) n (b0, b1)) x6 x7 := h
      refine lv_iload hx hb dX9_bestFrom_31 (lv_at hl 6 rfl) ?_
      refine lv_bipush (v := (63 : Int32)) hx hb dX9_bestFrom_33 (by decide) ?_
      refine lv_icmp_ge (tgt := 121) hx hb dX9_bestFrom_35 (by decide) (fun c1 => ?_) (fun c1 => ?_)
      · have h := h.1 c1
        exact K x6 x7 _ _ _  hP hS (lv_sub hl [5] rfl) h
      · have h := h.2 c1
        refine lv_aload_n hx hb dX9_bestFrom_38 rfl (lv_at hl 0 rfl) ?_
        refine lv_iload hx hb dX9_bestFrom_39 (lv_at hl 6 rfl) ?_
        refine lv_iload hx hb dX9_bestFrom_41 (lv_at hl 4 rfl) ?_
        refine lv_iload hx hb dX9_bestFrom_43 (lv_at hl 3 rfl) ?_
        refine gCallI (D := D) (va_runV (As := [.int x7, .int x5, .int x4]) (rest := []) ⟨hx, hb, hml, hown, hts⟩ (c_X9_can l D q cI cO hq x7 x5 x4  I F hs _ h) (cwV 3 hts gX9_bestFrom_X9_can rfl rfl rfl (by decide +kernel) ⟨Nat.le_trans (Nat.le_of_ble_eq_true rfl) hRf, Nat.le_trans (Nat.le_of_ble_eq_true rfl) hRl⟩) (gPreV (ci := 9) (q0 := 0) mEok hE hK hP hS rfl mAt0) rfl rfl hl.1 rfl (lv_room (Nat.le_of_ble_eq_true rfl)) dX9_bestFrom_45 ⟨Nat.zero_le _, Nat.zero_le _⟩) hS (fun r2 _ H locs hP hS h => ?_)
        have hP : va_P D vwCl (mW q cI cO I F hs) H := hP
        refine lv_if_eq (tgt := 115) hx hb dX9_bestFrom_48 (by decide) (fun c3 => ?_) (fun c3 => ?_)
        · have h := h.1 c3
          refine lv_iinc (v := (x7 + (1 : Int32))) (lv' := [(7, .int (x7 + (1 : Int32))), (0, .ref (q 0)), (1, .int x1), (2, .int x2), (4, .int x4), (5, .int x5), (6, .int x6)]) hx hb dX9_bestFrom_115 hl (k := 6) rfl rfl (by decide) rfl (fun ls hl => ?_)
          refine lv_goto (tgt := 31) hx hb dX9_bestFrom_118 (by decide) ?_
          exact ih x1 x2 x4 x5 _ x6 (x7 + (1 : Int32)) _ _ _  hP hS (lv_sub hl [1, 2, 3, 4, 5, 6, 0] rfl) h K
        · have h := h.2 c3
          refine lv_aload_n hx hb dX9_bestFrom_51 rfl (lv_at hl 0 rfl) ?_
          refine lv_iload_n hx hb dX9_bestFrom_52 rfl (lv_at hl 1 rfl) ?_
          refine lv_iload hx hb dX9_bestFrom_53 (lv_at hl 6 rfl) ?_
          refine gCallI (D := D) (va_runV (As := [.int x1, .int x7]) (rest := []) ⟨hx, hb, hml, hown, hts⟩ (c_X9_after l D q cI cO hq x1 x7  I F hs _ h) (cwV 2 hts gX9_bestFrom_X9_after rfl rfl rfl (by decide +kernel) ⟨Nat.le_trans (Nat.le_of_ble_eq_true rfl) hRf, Nat.le_trans (Nat.le_of_ble_eq_true rfl) hRl⟩) (gPreV (ci := 9) (q0 := 0) mEok hE hK hP hS rfl mAt0) rfl rfl hl.1 rfl (lv_room (Nat.le_of_ble_eq_true rfl)) dX9_bestFrom_55 ⟨Nat.zero_le _, Nat.zero_le _⟩) hS (fun r4 _ H locs hP hS h => ?_)
          have hP : va_P D vwCl (mW q cI cO I F hs) H := hP
          refine lv_istore (lv' := [(8, .int r4), (0, .ref (q 0)), (1, .int x1), (2, .int x2), (4, .int x4), (5, .int x5), (6, .int x6), (7, .int x7)]) hx hb dX9_bestFrom_58 hl (by decide) rfl (fun ls hl => ?_)
          refine lv_aload_n hx hb dX9_bestFrom_60 rfl (lv_at hl 1 rfl) ?_
          refine lv_iload hx hb dX9_bestFrom_61 (lv_at hl 7 rfl) ?_
          refine gCallI (D := D) (va_runV (As := [.int x7]) (rest := []) ⟨hx, hb, hml, hown, hts⟩ (c_X9_movedBy l D q cI cO hq x7  I F hs _ h) (cwV 1 hts gX9_bestFrom_X9_movedBy rfl rfl rfl (by decide +kernel) ⟨Nat.le_trans (Nat.le_of_ble_eq_true rfl) hRf, Nat.le_trans (Nat.le_of_ble_eq_true rfl) hRl⟩) (gPreV (ci := 9) (q0 := 0) mEok hE hK hP hS rfl mAt0) rfl rfl hl.1 rfl (lv_room (Nat.le_of_ble_eq_true rfl)) dX9_bestFrom_63 ⟨Nat.zero_le _, Nat.zero_le _⟩) hS (fun r5 _ H locs hP hS h => ?_)
          have hP : va_P D vwCl (mW q cI cO I F hs) H := hP
          refine lv_aload_n hx hb dX9_bestFrom_66 rfl (lv_at hl 1 rfl) ?_
          refine va_get (D := D) (ci := 9) (v := .ref (q 17)) (C := RX9) (T := TX9) (N := 44) hx hb hts (fun _ h9 => List.mem_cons_of_mem _ (List.mem_append_right _ h9)) hown hK hP 0 mAt0 rfl 23 (by decide) (hts _ (List.mem_of_getElem? (l := wsX9_bestFrom) (i := 3) rfl)) (fun _ h9 => h9) rfl dX9_bestFrom_67 ?_
          refine lv_sipush (v := (2187 : Int32)) hx hb dX9_bestFrom_70 (by decide) ?_
          refine lv_iload_n hx hb dX9_bestFrom_73 rfl (lv_at hl 3 rfl) ?_
          refine lv_imul hx hb dX9_bestFrom_74 ?_
          refine lv_iload hx hb dX9_bestFrom_75 (lv_at hl 0 rfl) ?_
          refine lv_iadd hx hb dX9_bestFrom_77 ?_
          refine va_iald (D := D) hx hb hK hP 17 0 mAr17 rfl h.1 dX9_bestFrom_78 ?_
          have h := h.2
          refine lv_iadd hx hb dX9_bestFrom_79 ?_
          refine lv_topi (fun v6 ev6 => ?_)
          have h := h v6 ev6
          refine lv_istore (lv' := [(9, .int v6), (8, .int r4), (0, .ref (q 0)), (1, .int x1), (2, .int x2), (4, .int x4), (5, .int x5), (6, .int x6), (7, .int x7)]) hx hb dX9_bestFrom_80 hl (by decide) rfl (fun ls hl => ?_)
          refine lv_aload_n hx hb dX9_bestFrom_82 rfl (lv_at hl 2 rfl) ?_
          refine va_get (D := D) (ci := 9) (v := .ref (q 16)) (C := RX9) (T := TX9) (N := 44) hx hb hts (fun _ h9 => List.mem_cons_of_mem _ (List.mem_append_right _ h9)) hown hK hP 0 mAt0 rfl 22 (by decide) (hts _ (List.mem_of_getElem? (l := wsX9_bestFrom) (i := 4) rfl)) (fun _ h9 => h9) rfl dX9_bestFrom_83 ?_
          refine lv_sipush (v := (2187 : Int32)) hx hb dX9_bestFrom_86 (by decide) ?_
          refine lv_iload_n hx hb dX9_bestFrom_89 rfl (lv_at hl 4 rfl) ?_
          refine lv_imul hx hb dX9_bestFrom_90 ?_
          refine lv_iload hx hb dX9_bestFrom_91 (lv_at hl 1 rfl) ?_
          refine lv_iadd hx hb dX9_bestFrom_93 ?_
          refine va_iald (D := D) hx hb hK hP 16 0 mAr16 rfl h.1 dX9_bestFrom_94 ?_
          have h := h.2
          refine lv_iconst (v := (1 : Int32)) hx hb dX9_bestFrom_95 (by decide) ?_
          refine lv_icmp_ne (tgt := 111) hx hb dX9_bestFrom_96 (by decide) (fun c7 => ?_) (fun c7 => ?_)
          · have h := h.1 c7
            refine lv_iload hx hb dX9_bestFrom_111 (lv_at hl 7 rfl) ?_
            refine lv_istore (lv' := [(6, .int x6), (9, .int v6), (8, .int r4), (0, .ref (q 0)), (1, .int x1), (2, .int x2), (4, .int x4), (5, .int x5), (7, .int x7)]) hx hb dX9_bestFrom_113 hl (by decide) rfl (fun ls hl => ?_)
            refine lv_iinc (v := (x7 + (1 : Int32))) (lv' := [(7, .int (x7 + (1 : Int32))), (6, .int x6), (9, .int v6), (8, .int r4), (0, .ref (q 0)), (1, .int x1), (2, .int x2), (4, .int x4), (5, .int x5)]) hx hb dX9_bestFrom_115 hl (k := 8) rfl rfl (by decide) rfl (fun ls hl => ?_)
            refine lv_goto (tgt := 31) hx hb dX9_bestFrom_118 (by decide) ?_
            exact ih x1 x2 x4 x5 _ x6 (x7 + (1 : Int32)) _ _ _  hP hS (lv_sub hl [4, 5, 6, 7, 8, 1, 0] rfl) h K
          · have h := h.2 c7
            refine lv_iload hx hb dX9_bestFrom_99 (lv_at hl 0 rfl) ?_
            refine lv_iload hx hb dX9_bestFrom_101 (lv_at hl 7 rfl) ?_
            refine lv_icmp_ge (tgt := 111) hx hb dX9_bestFrom_103 (by decide) (fun c8 => ?_) (fun c8 => ?_)
            · have h := h.1 c8
              refine lv_iload hx hb dX9_bestFrom_111 (lv_at hl 7 rfl) ?_
              refine lv_istore (lv' := [(6, .int x6), (9, .int v6), (8, .int r4), (0, .ref (q 0)), (1, .int x1), (2, .int x2), (4, .int x4), (5, .int x5), (7, .int x7)]) hx hb dX9_bestFrom_113 hl (by decide) rfl (fun ls hl => ?_)
              refine lv_iinc (v := (x7 + (1 : Int32))) (lv' := [(7, .int (x7 + (1 : Int32))), (6, .int x6), (9, .int v6), (8, .int r4), (0, .ref (q 0)), (1, .int x1), (2, .int x2), (4, .int x4), (5, .int x5)]) hx hb dX9_bestFrom_115 hl (k := 8) rfl rfl (by decide) rfl (fun ls hl => ?_)
              refine lv_goto (tgt := 31) hx hb dX9_bestFrom_118 (by decide) ?_
              exact ih x1 x2 x4 x5 _ x6 (x7 + (1 : Int32)) _ _ _  hP hS (lv_sub hl [4, 5, 6, 7, 8, 1, 0] rfl) h K
            · have h := h.2 c8
              refine lv_iload hx hb dX9_bestFrom_106 (lv_at hl 0 rfl) ?_
              refine lv_goto (tgt := 113) hx hb dX9_bestFrom_108 (by decide) ?_
              refine lv_istore (lv' := [(6, .int v6), (9, .int v6), (8, .int r4), (0, .ref (q 0)), (1, .int x1), (2, .int x2), (4, .int x4), (5, .int x5), (7, .int x7)]) hx hb dX9_bestFrom_113 hl (by decide) rfl (fun ls hl => ?_)
              refine lv_iinc (v := (x7 + (1 : Int32))) (lv' := [(7, .int (x7 + (1 : Int32))), (6, .int v6), (9, .int v6), (8, .int r4), (0, .ref (q 0)), (1, .int x1), (2, .int x2), (4, .int x4), (5, .int x5)]) hx hb dX9_bestFrom_115 hl (k := 8) rfl rfl (by decide) rfl (fun ls hl => ?_)
              refine lv_goto (tgt := 31) hx hb dX9_bestFrom_118 (by decide) ?_
              exact ih x1 x2 x4 x5 _ v6 (x7 + (1 : Int32)) _ _ _  hP hS (lv_sub hl [4, 5, 6, 7, 8, 1, 0] rfl) h K
  refine lv_aload_n hx hb dX9_bestFrom_0 rfl (lv_at hl 0 rfl) ?_
  refine lv_iload_n hx hb dX9_bestFrom_1 rfl (lv_at hl 1 rfl) ?_
  refine lv_aload_n hx hb dX9_bestFrom_2 rfl (lv_at hl 0 rfl) ?_
  refine lv_iload_n hx hb dX9_bestFrom_3 rfl (lv_at hl 2 rfl) ?_
  refine lv_iload_n hx hb dX9_bestFrom_4 rfl (lv_at hl 3 rfl) ?_
  refine gCallI (D := D) (va_runV (As := [.int a2, .int a3]) (rest := [.int a1, .ref (q 0)]) ⟨hx, hb, hml, hown, hts⟩ (c_X9_heldBy l D q cI cO hq a2 a3  I F hs _ h) (cwV 2 hts gX9_bestFrom_X9_heldBy rfl rfl rfl (by decide +kernel) ⟨Nat.le_trans (Nat.le_of_ble_eq_true rfl) hRf, Nat.le_trans (Nat.le_of_ble_eq_true rfl) hRl⟩) (gPreV (ci := 9) (q0 := 0) mEok hE hK hP hS rfl mAt0) rfl rfl hl.1 rfl (lv_room (Nat.le_of_ble_eq_true rfl)) dX9_bestFrom_5 ⟨Nat.zero_le _, Nat.zero_le _⟩) hS (fun r9 _ H locs hP hS h => ?_)
  have hP : va_P D vwCl (mW q cI cO I F hs) H := hP
  refine gCallI (D := D) (va_runV (As := [.int a1, .int r9]) (rest := []) ⟨hx, hb, hml, hown, hts⟩ (c_X9_heldPedals l D q cI cO hq a1 r9  I F hs _ h) (cwV 2 hts gX9_bestFrom_X9_heldPedals rfl rfl rfl (by decide +kernel) ⟨Nat.le_trans (Nat.le_of_ble_eq_true rfl) hRf, Nat.le_trans (Nat.le_of_ble_eq_true rfl) hRl⟩) (gPreV (ci := 9) (q0 := 0) mEok hE hK hP hS rfl mAt0) rfl rfl hl.1 rfl (lv_room (Nat.le_of_ble_eq_true rfl)) dX9_bestFrom_8 ⟨Nat.zero_le _, Nat.zero_le _⟩) hS (fun r10 _ H locs hP hS h => ?_)
  have hP : va_P D vwCl (mW q cI cO I F hs) H := hP
  refine lv_istore (lv' := [(4, .int r10), (0, .ref (q 0)), (1, .int a1), (2, .int a2), (3, .int a3)]) hx hb dX9_bestFrom_11 hl (by decide) rfl (fun ls hl => ?_)
  refine lv_aload_n hx hb dX9_bestFrom_13 rfl (lv_at hl 1 rfl) ?_
  refine va_get (D := D) (ci := 9) (v := .ref (q 14)) (C := RX9) (T := TX9) (N := 44) hx hb hts (fun _ h9 => List.mem_cons_of_mem _ (List.mem_append_right _ h9)) hown hK hP 0 mAt0 rfl 19 (by decide) (hts _ (List.mem_of_getElem? (l := wsX9_bestFrom) (i := 1) rfl)) (fun _ h9 => h9) rfl dX9_bestFrom_14 ?_
  refine lv_iload_n hx hb dX9_bestFrom_17 rfl (lv_at hl 3 rfl) ?_
  refine va_iald (D := D) hx hb hK hP 14 0 mAr14 rfl h.1 dX9_bestFrom_18 ?_
  have h := h.2
  refine gCallI (D := D) (va_runS (As := [.int (F 14 (a2).toNatClampNeg)]) (rest := []) ⟨hx, hb, hml, hown, hts⟩ (c_X9_mostOf l D q cI cO hq (F 14 (a2).toNatClampNeg)  I F hs _ h) (va_cwS 1 hts gX9_bestFrom_X9_mostOf rfl rfl rfl (by decide +kernel) ⟨Nat.le_trans (Nat.le_of_ble_eq_true rfl) hRf, Nat.le_trans (Nat.le_of_ble_eq_true rfl) hRl⟩) (gPreS mEok hE hK hP hS) rfl rfl hl.1 rfl (lv_room (Nat.le_of_ble_eq_true rfl)) dX9_bestFrom_19 ⟨Nat.zero_le _, Nat.zero_le _⟩) hS (fun r11 _ H locs hP hS h => ?_)
  have hP : va_P D vwCl (mW q cI cO I F hs) H := hP
  refine lv_istore (lv' := [(5, .int r11), (4, .int r10), (0, .ref (q 0)), (1, .int a1), (2, .int a2), (3, .int a3)]) hx hb dX9_bestFrom_22 hl (by decide) rfl (fun ls hl => ?_)
  refine lv_ldc (v := (99999 : Int32)) hx hb hown (hts _ (List.mem_of_getElem? (l := wsX9_bestFrom) (i := 2) rfl)) dX9_bestFrom_24 ?_
  refine lv_istore (lv' := [(6, .int (99999 : Int32)), (5, .int r11), (4, .int r10), (0, .ref (q 0)), (1, .int a1), (2, .int a2), (3, .int a3)]) hx hb dX9_bestFrom_26 hl (by decide) rfl (fun ls hl => ?_)
  refine lv_iconst (v := (0 : Int32)) hx hb dX9_bestFrom_28 (by decide) ?_
  refine lv_istore (lv' := [(7, .int (0 : Int32)), (6, .int (99999 : Int32)), (5, .int r11), (4, .int r10), (0, .ref (q 0)), (1, .int a1), (2, .int a2), (3, .int a3)]) hx hb dX9_bestFrom_29 hl (by decide) rfl (fun ls hl => ?_)
  obtain ⟨n, h⟩ := h
  refine L31 n a1 a2 r10 r11 _ (99999 : Int32) (0 : Int32) _ _ _  hP hS (lv_sub hl [4, 5, 6, 3, 2, 1, 0] rfl) h (fun y12 y13 H locs ls  hP hS hl h => ?_)
  refine lv_iload hx hb dX9_bestFrom_121 (lv_at hl 0 rfl) ?_
  exact hret y12 () _ _ _ _ dX9_bestFrom_123 hP hS h
def w_X9_layFits_B25 (x1 : Int32) (x2 : Int32) (x3 : Int32) (k again : Int32 → (Nat → Int32) → (Nat → Nat → Int32) → Int64 → Prop) (x4 : Int32) (I : Nat → Int32) (F : Nat → Nat → Int32) (hs : Int64) : Prop :=
  (((2187 : Int32) ≤ x4 → k x4 I F hs) ∧ (¬ (2187 : Int32) ≤ x4 → vp_in x2 8 ∧ w_X9_isFitting x4 (F 14 (x2).toNatClampNeg) x3 I F hs (fun (r2 : Int32) => ((r2 = 0 → vp_in (((2187 : Int32) * x2) + x4) 17496 ∧ ∀ F4 : Nat → Nat → Int32, F4 = upF F 16 (upd (F 16) ((((2187 : Int32) * x2) + x4)).toNatClampNeg (0 : Int32)) → again (x4 + (1 : Int32)) I F4 hs) ∧ (¬ r2 = 0 → vp_in (((2187 : Int32) * x2) + x4) 17496 ∧ ∀ F5 : Nat → Nat → Int32, F5 = upF F 16 (upd (F 16) ((((2187 : Int32) * x2) + x4)).toNatClampNeg (1 : Int32)) → again (x4 + (1 : Int32)) I F5 hs)))))
def w_X9_layFits_B2 (x1 : Int32) (k again : Int32 → (Nat → Int32) → (Nat → Nat → Int32) → Int64 → Prop) (x2 : Int32) (I : Nat → Int32) (F : Nat → Nat → Int32) (hs : Int64) : Prop :=
  (((I 3) ≤ x2 → k x2 I F hs) ∧ (¬ (I 3) ≤ x2 → vp_in x2 8 ∧ w_X9_shiftedTones (F 15 (x2).toNatClampNeg) x1 I F hs (fun (r7 : Int32) => gL (fun ag v => w_X9_layFits_B25 x1 x2 r7 (fun (y8 : Int32) (I9 : Nat → Int32) (F10 : Nat → Nat → Int32) (hs11 : Int64) => again (x2 + (1 : Int32)) I9 F10 hs11) (fun b0 b1 b2 b3 => ag (b0, b1, b2, b3)) v.1 v.2.1 v.2.2.1 v.2.2.2) ((0 : Int32), I, F, hs))))
def w_X9_layFits (a1 : Int32) (I : Nat → Int32) (F : Nat → Nat → Int32) (hs : Int64) (post : (Nat → Int32) → (Nat → Nat → Int32) → Int64 → Prop) : Prop :=
  gL (fun ag v => w_X9_layFits_B2 a1 (fun (y12 : Int32) (I13 : Nat → Int32) (F14 : Nat → Nat → Int32) (hs15 : Int64) => post I13 F14 hs15) (fun b0 b1 b2 b3 => ag (b0, b1, b2, b3)) v.1 v.2.1 v.2.2.1 v.2.2.2) ((0 : Int32), I, F, hs)
set_option maxHeartbeats 4000000 in
set_option maxRecDepth 100000 in
theorem c_X9_layFits (l : Launch) (D : va_G) (q : Nat → Nat) (cI cO : ClassId) (hq : mOk q) (a1 : Int32)  (I : Nat → Int32) (F : Nat → Nat → Int32) (hs : Int64) (post : (Nat → Int32) → (Nat → Nat → Int32) → Int64 → Prop) (h : w_X9_layFits a1 I F hs post) : Met l yX9_layFits wsX9_layFits ({ frames := 2, cells := 0, slots := 0, locals := 47 } : Room) (gPre D (mTys cI) (mW q cI cO I F hs) mEnv [.ref (q 0), .int a1]) (va_Qv (fun (u : mS) => post u.1 u.2.1 u.2.2) (gB D (fun u : mS => mW q cI cO u.1 u.2.1 u.2.2)) (mA q)) 0 0 (mA q) := by
  refine gMetV (by decide) rfl (Nat.le_of_ble_eq_true rfl) ?_
  intro p e R s m args below meth c Q ls hR hx hb hml hown hts hK hE hP hl hret
  have hRf : 2 ≤ R.frames := by subst hR; exact Nat.le_refl _
  have hRl : 47 ≤ R.locals := by subst hR; exact Nat.le_refl _
  have hown : s.vm.findClass RX9 = some m.cls := hown
  have hl : lv_has ls 5 [(0, .ref (q 0)), (1, .int a1)] := hl
  have hS : va_S (mA q) s.heap s.heap [] := va_S.rf
  have hP : va_P D vwCl (mW q cI cO I F hs) s.heap := hP
  have L25 : ∀ (n : Nat) (x1 : Int32) (x2 : Int32) (x3 : Int32) (k : Int32 → (Nat → Int32) → (Nat → Nat → Int32) → Int64 → Prop) (x4 : Int32) (I : Nat → Int32) (F : Nat → Nat → Int32) (hs : Int64) (H : Heap) (locs : List Loc) (ls : Array Slot), va_P D vwCl (mW q cI cO I F hs) H → va_S (mA q) s.heap H locs → lv_has ls 5 [(0, .ref (q 0)), (1, .int x1), (2, .int x2), (3, .int x3), (4, .int x4)] → gLN (fun ag v => w_X9_layFits_B25 x1 x2 x3 k (fun b0 b1 b2 b3 => ag (b0, b1, b2, b3)) v.1 v.2.1 v.2.2.1 v.2.2.2) n (x4, I, F, hs) → (∀ (x4 : Int32) (I : Nat → Int32) (F : Nat → Nat → Int32) (hs : Int64) (H : Heap) (locs : List Loc) (ls : Array Slot), va_P D vwCl (mW q cI cO I F hs) H → va_S (mA q) s.heap H locs → lv_has ls 5 [(0, .ref (q 0)), (1, .int x1), (2, .int x2)] → k x4 I F hs → W p l e R s m args below meth c H locs 0 0 Q (F0 m 73 ls [])) → W p l e R s m args below meth c H locs 0 0 Q (F0 m 25 ls []) := by
    intro n
    induction n with
    | zero =>
      intro x1 x2 x3 k x4 I F hs H locs ls  hP hS hl h K
      exact False.elim h
    | succ n ih =>
      intro x1 x2 x3 k x4 I F hs H locs ls  hP hS hl h K
      have h : w_X9_layFits_B25 x1 x2 x3 k (fun b0 b1 b2 b3 => gLN (fun ag v => w_X9_layFits_B25 x1 x2 x3 k (fun b0 b1 b2 b3 => ag (b0, b1, b2, b3)) v.1 v.2.1 v.2.2.1 v.2.2.2) n (b0, b1, b2, b3)) x4 I F hs := h
      refine lv_iload hx hb dX9_layFits_25 (lv_at hl 4 rfl) ?_
      refine lv_sipush (v := (2187 : Int32)) hx hb dX9_layFits_27 (by decide) ?_
      refine lv_icmp_ge (tgt := 73) hx hb dX9_layFits_30 (by decide) (fun c1 => ?_) (fun c1 => ?_)
      · have h := h.1 c1
        exact K x4 I F hs _ _ _  hP hS (lv_sub hl [0, 1, 2] rfl) h
      · have h := h.2 c1
        refine lv_aload_n hx hb dX9_layFits_33 rfl (lv_at hl 0 rfl) ?_
        refine va_get (D := D) (ci := 9) (v := .ref (q 16)) (C := RX9) (T := TX9) (N := 44) hx hb hts (fun _ h9 => List.mem_cons_of_mem _ (List.mem_append_right _ h9)) hown hK hP 0 mAt0 rfl 22 (by decide) (hts _ (List.mem_of_getElem? (l := wsX9_layFits) (i := 3) rfl)) (fun _ h9 => h9) rfl dX9_layFits_34 ?_
        refine lv_sipush (v := (2187 : Int32)) hx hb dX9_layFits_37 (by decide) ?_
        refine lv_iload_n hx hb dX9_layFits_40 rfl (lv_at hl 2 rfl) ?_
        refine lv_imul hx hb dX9_layFits_41 ?_
        refine lv_iload hx hb dX9_layFits_42 (lv_at hl 4 rfl) ?_
        refine lv_iadd hx hb dX9_layFits_44 ?_
        refine lv_aload_n hx hb dX9_layFits_45 rfl (lv_at hl 0 rfl) ?_
        refine lv_iload hx hb dX9_layFits_46 (lv_at hl 4 rfl) ?_
        refine lv_aload_n hx hb dX9_layFits_48 rfl (lv_at hl 0 rfl) ?_
        refine va_get (D := D) (ci := 9) (v := .ref (q 14)) (C := RX9) (T := TX9) (N := 44) hx hb hts (fun _ h9 => List.mem_cons_of_mem _ (List.mem_append_right _ h9)) hown hK hP 0 mAt0 rfl 19 (by decide) (hts _ (List.mem_of_getElem? (l := wsX9_layFits) (i := 4) rfl)) (fun _ h9 => h9) rfl dX9_layFits_49 ?_
        refine lv_iload_n hx hb dX9_layFits_52 rfl (lv_at hl 2 rfl) ?_
        refine va_iald (D := D) hx hb hK hP 14 0 mAr14 rfl h.1 dX9_layFits_53 ?_
        have h := h.2
        refine lv_iload_n hx hb dX9_layFits_54 rfl (lv_at hl 3 rfl) ?_
        refine gCallI (D := D) (va_runV (As := [.int x4, .int (F 14 (x2).toNatClampNeg), .int x3]) (rest := [.int (((2187 : Int32) * x2) + x4), .ref (q 16)]) ⟨hx, hb, hml, hown, hts⟩ (c_X9_isFitting l D q cI cO hq x4 (F 14 (x2).toNatClampNeg) x3  I F hs _ h) (cwV 3 hts gX9_layFits_X9_isFitting rfl rfl rfl (by decide +kernel) ⟨Nat.le_trans (Nat.le_of_ble_eq_true rfl) hRf, Nat.le_trans (Nat.le_of_ble_eq_true rfl) hRl⟩) (gPreV (ci := 9) (q0 := 0) mEok hE hK hP hS rfl mAt0) rfl rfl hl.1 rfl (lv_room (Nat.le_of_ble_eq_true rfl)) dX9_layFits_55 ⟨Nat.zero_le _, Nat.zero_le _⟩) hS (fun r2 _ H locs hP hS h => ?_)
        have hP : va_P D vwCl (mW q cI cO I F hs) H := hP
        refine lv_if_eq (tgt := 65) hx hb dX9_layFits_58 (by decide) (fun c3 => ?_) (fun c3 => ?_)
        · have h := h.1 c3
          refine lv_iconst (v := (0 : Int32)) hx hb dX9_layFits_65 (by decide) ?_
          refine gAst (D := D) hx hb hK hP (mD hq) hS 16 0 mAr16 rfl h.1 dX9_layFits_66 (mSA16 _) (fun H locs hP hS => ?_)
          obtain ⟨F4, eF4⟩ : ∃ z : Nat → Nat → Int32, z = upF F 16 (upd (F 16) ((((2187 : Int32) * x2) + x4)).toNatClampNeg (0 : Int32)) := ⟨_, rfl⟩
          rw [← eF4] at hP
          have h := h.2 F4 eF4
          refine lv_iinc (v := (x4 + (1 : Int32))) (lv' := [(4, .int (x4 + (1 : Int32))), (0, .ref (q 0)), (1, .int x1), (2, .int x2), (3, .int x3)]) hx hb dX9_layFits_67 hl (k := 4) rfl rfl (by decide) rfl (fun ls hl => ?_)
          refine lv_goto (tgt := 25) hx hb dX9_layFits_70 (by decide) ?_
          exact ih x1 x2 x3 _ (x4 + (1 : Int32)) I F4 hs _ _ _  hP hS (lv_sub hl [1, 2, 3, 4, 0] rfl) h K
        · have h := h.2 c3
          refine lv_iconst (v := (1 : Int32)) hx hb dX9_layFits_61 (by decide) ?_
          refine lv_goto (tgt := 66) hx hb dX9_layFits_62 (by decide) ?_
          refine gAst (D := D) hx hb hK hP (mD hq) hS 16 0 mAr16 rfl h.1 dX9_layFits_66 (mSA16 _) (fun H locs hP hS => ?_)
          obtain ⟨F5, eF5⟩ : ∃ z : Nat → Nat → Int32, z = upF F 16 (upd (F 16) ((((2187 : Int32) * x2) + x4)).toNatClampNeg (1 : Int32)) := ⟨_, rfl⟩
          rw [← eF5] at hP
          have h := h.2 F5 eF5
          refine lv_iinc (v := (x4 + (1 : Int32))) (lv' := [(4, .int (x4 + (1 : Int32))), (0, .ref (q 0)), (1, .int x1), (2, .int x2), (3, .int x3)]) hx hb dX9_layFits_67 hl (k := 4) rfl rfl (by decide) rfl (fun ls hl => ?_)
          refine lv_goto (tgt := 25) hx hb dX9_layFits_70 (by decide) ?_
          exact ih x1 x2 x3 _ (x4 + (1 : Int32)) I F5 hs _ _ _  hP hS (lv_sub hl [1, 2, 3, 4, 0] rfl) h K
  have L2 : ∀ (n : Nat) (x1 : Int32) (k : Int32 → (Nat → Int32) → (Nat → Nat → Int32) → Int64 → Prop) (x2 : Int32) (I : Nat → Int32) (F : Nat → Nat → Int32) (hs : Int64) (H : Heap) (locs : List Loc) (ls : Array Slot), va_P D vwCl (mW q cI cO I F hs) H → va_S (mA q) s.heap H locs → lv_has ls 5 [(0, .ref (q 0)), (1, .int x1), (2, .int x2)] → gLN (fun ag v => w_X9_layFits_B2 x1 k (fun b0 b1 b2 b3 => ag (b0, b1, b2, b3)) v.1 v.2.1 v.2.2.1 v.2.2.2) n (x2, I, F, hs) → (∀ (x2 : Int32) (I : Nat → Int32) (F : Nat → Nat → Int32) (hs : Int64) (H : Heap) (locs : List Loc) (ls : Array Slot), va_P D vwCl (mW q cI cO I F hs) H → va_S (mA q) s.heap H locs → lv_has ls 5 [] → k x2 I F hs → W p l e R s m args below meth c H locs 0 0 Q (F0 m 79 ls [])) → W p l e R s m args below meth c H locs 0 0 Q (F0 m 2 ls []) := by
    intro n
    induction n with
    | zero =>
      intro x1 k x2 I F hs H locs ls  hP hS hl h K
      exact False.elim h
    | succ n ih =>
      intro x1 k x2 I F hs H locs ls  hP hS hl h K
      have h : w_X9_layFits_B2 x1 k (fun b0 b1 b2 b3 => gLN (fun ag v => w_X9_layFits_B2 x1 k (fun b0 b1 b2 b3 => ag (b0, b1, b2, b3)) v.1 v.2.1 v.2.2.1 v.2.2.2) n (b0, b1, b2, b3)) x2 I F hs := h
      refine lv_iload_n hx hb dX9_layFits_2 rfl (lv_at hl 2 rfl) ?_
      refine lv_aload_n hx hb dX9_layFits_3 rfl (lv_at hl 0 rfl) ?_
      refine va_get (D := D) (ci := 9) (v := .int (I 3)) (C := RX9) (T := TX9) (N := 44) hx hb hts (fun _ h9 => List.mem_cons_of_mem _ (List.mem_append_right _ h9)) hown hK hP 0 mAt0 rfl 16 (by decide) (hts _ (List.mem_of_getElem? (l := wsX9_layFits) (i := 1) rfl)) (fun _ h9 => h9) rfl dX9_layFits_4 ?_
      refine lv_icmp_ge (tgt := 79) hx hb dX9_layFits_7 (by decide) (fun c6 => ?_) (fun c6 => ?_)
      · have h := h.1 c6
        exact K x2 I F hs _ _ _  hP hS (lv_sub hl [] rfl) h
      · have h := h.2 c6
        refine lv_aload_n hx hb dX9_layFits_10 rfl (lv_at hl 0 rfl) ?_
        refine lv_aload_n hx hb dX9_layFits_11 rfl (lv_at hl 0 rfl) ?_
        refine va_get (D := D) (ci := 9) (v := .ref (q 15)) (C := RX9) (T := TX9) (N := 44) hx hb hts (fun _ h9 => List.mem_cons_of_mem _ (List.mem_append_right _ h9)) hown hK hP 0 mAt0 rfl 20 (by decide) (hts _ (List.mem_of_getElem? (l := wsX9_layFits) (i := 2) rfl)) (fun _ h9 => h9) rfl dX9_layFits_12 ?_
        refine lv_iload_n hx hb dX9_layFits_15 rfl (lv_at hl 2 rfl) ?_
        refine va_iald (D := D) hx hb hK hP 15 0 mAr15 rfl h.1 dX9_layFits_16 ?_
        have h := h.2
        refine lv_iload_n hx hb dX9_layFits_17 rfl (lv_at hl 1 rfl) ?_
        refine gCallI (D := D) (va_runV (As := [.int (F 15 (x2).toNatClampNeg), .int x1]) (rest := []) ⟨hx, hb, hml, hown, hts⟩ (c_X9_shiftedTones l D q cI cO hq (F 15 (x2).toNatClampNeg) x1  I F hs _ h) (cwV 2 hts gX9_layFits_X9_shiftedTones rfl rfl rfl (by decide +kernel) ⟨Nat.le_trans (Nat.le_of_ble_eq_true rfl) hRf, Nat.le_trans (Nat.le_of_ble_eq_true rfl) hRl⟩) (gPreV (ci := 9) (q0 := 0) mEok hE hK hP hS rfl mAt0) rfl rfl hl.1 rfl (lv_room (Nat.le_of_ble_eq_true rfl)) dX9_layFits_18 ⟨Nat.zero_le _, Nat.zero_le _⟩) hS (fun r7 _ H locs hP hS h => ?_)
        have hP : va_P D vwCl (mW q cI cO I F hs) H := hP
        refine lv_istore_n (lv' := [(3, .int r7), (0, .ref (q 0)), (1, .int x1), (2, .int x2)]) hx hb dX9_layFits_21 rfl hl (by decide) rfl (fun ls hl => ?_)
        refine lv_iconst (v := (0 : Int32)) hx hb dX9_layFits_22 (by decide) ?_
        refine lv_istore (lv' := [(4, .int (0 : Int32)), (3, .int r7), (0, .ref (q 0)), (1, .int x1), (2, .int x2)]) hx hb dX9_layFits_23 hl (by decide) rfl (fun ls hl => ?_)
        obtain ⟨n, h⟩ := h
        refine L25 n x1 x2 r7 _ (0 : Int32) I F hs _ _ _  hP hS (lv_sub hl [2, 3, 4, 1, 0] rfl) h (fun y8 I9 F10 hs11 H locs ls  hP hS hl h => ?_)
        refine lv_iinc (v := (x2 + (1 : Int32))) (lv' := [(2, .int (x2 + (1 : Int32))), (0, .ref (q 0)), (1, .int x1)]) hx hb dX9_layFits_73 hl (k := 2) rfl rfl (by decide) rfl (fun ls hl => ?_)
        refine lv_goto (tgt := 2) hx hb dX9_layFits_76 (by decide) ?_
        exact ih x1 _ (x2 + (1 : Int32)) I9 F10 hs11 _ _ _  hP hS (lv_sub hl [1, 2, 0] rfl) h K
  refine lv_iconst (v := (0 : Int32)) hx hb dX9_layFits_0 (by decide) ?_
  refine lv_istore_n (lv' := [(2, .int (0 : Int32)), (0, .ref (q 0)), (1, .int a1)]) hx hb dX9_layFits_1 rfl hl (by decide) rfl (fun ls hl => ?_)
  obtain ⟨n, h⟩ := h
  refine L2 n a1 _ (0 : Int32) I F hs _ _ _  hP hS (lv_sub hl [1, 2, 0] rfl) h (fun y12 I13 F14 hs15 H locs ls  hP hS hl h => ?_)
  exact hret (I13, F14, hs15) _ _ _ _ dX9_layFits_79 hP hS h
def w_X9_layRest_B18 (x1 : Int32) (x2 : Int32) (k again : Int32 → (Nat → Int32) → (Nat → Nat → Int32) → Int64 → Prop) (x3 : Int32) (I : Nat → Int32) (F : Nat → Nat → Int32) (hs : Int64) : Prop :=
  (((2187 : Int32) ≤ x3 → k x3 I F hs) ∧ (¬ (2187 : Int32) ≤ x3 → vp_in (((2187 : Int32) * x2) + x3) 17496 ∧ ((¬ (F 16 ((((2187 : Int32) * x2) + x3)).toNatClampNeg) = 0 → ((¬ x2 = ((I 3) - (1 : Int32)) → w_X9_bestFrom x3 (x2 + (1 : Int32)) x1 I F hs (fun (r4 : Int32) => vp_in (((2187 : Int32) * x2) + x3) 17496 ∧ ∀ F5 : Nat → Nat → Int32, F5 = upF F 17 (upd (F 17) ((((2187 : Int32) * x2) + x3)).toNatClampNeg r4) → again (x3 + (1 : Int32)) I F5 hs)) ∧ (x2 = ((I 3) - (1 : Int32)) → vp_in (((2187 : Int32) * x2) + x3) 17496 ∧ ∀ F6 : Nat → Nat → Int32, F6 = upF F 17 (upd (F 17) ((((2187 : Int32) * x2) + x3)).toNatClampNeg (0 : Int32)) → again (x3 + (1 : Int32)) I F6 hs))) ∧ ((F 16 ((((2187 : Int32) * x2) + x3)).toNatClampNeg) = 0 → vp_in (((2187 : Int32) * x2) + x3) 17496 ∧ ∀ F7 : Nat → Nat → Int32, F7 = upF F 17 (upd (F 17) ((((2187 : Int32) * x2) + x3)).toNatClampNeg (99999 : Int32)) → again (x3 + (1 : Int32)) I F7 hs))))
def w_X9_layRest_B12 (x1 : Int32) (k again : Int32 → (Nat → Int32) → (Nat → Nat → Int32) → Int64 → Prop) (x2 : Int32) (I : Nat → Int32) (F : Nat → Nat → Int32) (hs : Int64) : Prop :=
  ((x2 < 0 → k x2 I F hs) ∧ (¬ x2 < 0 → gL (fun ag v => w_X9_layRest_B18 x1 x2 (fun (y9 : Int32) (I10 : Nat → Int32) (F11 : Nat → Nat → Int32) (hs12 : Int64) => again (x2 + (-1 : Int32)) I10 F11 hs12) (fun b0 b1 b2 b3 => ag (b0, b1, b2, b3)) v.1 v.2.1 v.2.2.1 v.2.2.2) ((0 : Int32), I, F, hs)))
def w_X9_layRest (a1 : Int32) (I : Nat → Int32) (F : Nat → Nat → Int32) (hs : Int64) (post : (Nat → Int32) → (Nat → Nat → Int32) → Int64 → Prop) : Prop :=
  w_X9_layFits a1 I F hs (fun (I13 : Nat → Int32) (F14 : Nat → Nat → Int32) (hs15 : Int64) => ∀ v16 : Int32, v16 = ((I13 3) - (1 : Int32)) → gL (fun ag v => w_X9_layRest_B12 a1 (fun (y17 : Int32) (I18 : Nat → Int32) (F19 : Nat → Nat → Int32) (hs20 : Int64) => post I18 F19 hs20) (fun b0 b1 b2 b3 => ag (b0, b1, b2, b3)) v.1 v.2.1 v.2.2.1 v.2.2.2) (v16, I13, F14, hs15))
set_option maxHeartbeats 4000000 in
set_option maxRecDepth 100000 in
theorem c_X9_layRest (l : Launch) (D : va_G) (q : Nat → Nat) (cI cO : ClassId) (hq : mOk q) (a1 : Int32)  (I : Nat → Int32) (F : Nat → Nat → Int32) (hs : Int64) (post : (Nat → Int32) → (Nat → Nat → Int32) → Int64 → Prop) (h : w_X9_layRest a1 I F hs post) : Met l yX9_layRest wsX9_layRest ({ frames := 3, cells := 0, slots := 0, locals := 75 } : Room) (gPre D (mTys cI) (mW q cI cO I F hs) mEnv [.ref (q 0), .int a1]) (va_Qv (fun (u : mS) => post u.1 u.2.1 u.2.2) (gB D (fun u : mS => mW q cI cO u.1 u.2.1 u.2.2)) (mA q)) 0 0 (mA q) := by
  refine gMetV (by decide) rfl (Nat.le_of_ble_eq_true rfl) ?_
  intro p e R s m args below meth c Q ls hR hx hb hml hown hts hK hE hP hl hret
  have hRf : 3 ≤ R.frames := by subst hR; exact Nat.le_refl _
  have hRl : 75 ≤ R.locals := by subst hR; exact Nat.le_refl _
  have hown : s.vm.findClass RX9 = some m.cls := hown
  have hl : lv_has ls 4 [(0, .ref (q 0)), (1, .int a1)] := hl
  have hS : va_S (mA q) s.heap s.heap [] := va_S.rf
  have hP : va_P D vwCl (mW q cI cO I F hs) s.heap := hP
  have L18 : ∀ (n : Nat) (x1 : Int32) (x2 : Int32) (k : Int32 → (Nat → Int32) → (Nat → Nat → Int32) → Int64 → Prop) (x3 : Int32) (I : Nat → Int32) (F : Nat → Nat → Int32) (hs : Int64) (H : Heap) (locs : List Loc) (ls : Array Slot), va_P D vwCl (mW q cI cO I F hs) H → va_S (mA q) s.heap H locs → lv_has ls 4 [(0, .ref (q 0)), (1, .int x1), (2, .int x2), (3, .int x3)] → gLN (fun ag v => w_X9_layRest_B18 x1 x2 k (fun b0 b1 b2 b3 => ag (b0, b1, b2, b3)) v.1 v.2.1 v.2.2.1 v.2.2.2) n (x3, I, F, hs) → (∀ (x3 : Int32) (I : Nat → Int32) (F : Nat → Nat → Int32) (hs : Int64) (H : Heap) (locs : List Loc) (ls : Array Slot), va_P D vwCl (mW q cI cO I F hs) H → va_S (mA q) s.heap H locs → lv_has ls 4 [(0, .ref (q 0)), (1, .int x1), (2, .int x2)] → k x3 I F hs → W p l e R s m args below meth c H locs 0 0 Q (F0 m 86 ls [])) → W p l e R s m args below meth c H locs 0 0 Q (F0 m 18 ls []) := by
    intro n
    induction n with
    | zero =>
      intro x1 x2 k x3 I F hs H locs ls  hP hS hl h K
      exact False.elim h
    | succ n ih =>
      intro x1 x2 k x3 I F hs H locs ls  hP hS hl h K
      have h : w_X9_layRest_B18 x1 x2 k (fun b0 b1 b2 b3 => gLN (fun ag v => w_X9_layRest_B18 x1 x2 k (fun b0 b1 b2 b3 => ag (b0, b1, b2, b3)) v.1 v.2.1 v.2.2.1 v.2.2.2) n (b0, b1, b2, b3)) x3 I F hs := h
      refine lv_iload_n hx hb dX9_layRest_18 rfl (lv_at hl 3 rfl) ?_
      refine lv_sipush (v := (2187 : Int32)) hx hb dX9_layRest_19 (by decide) ?_
      refine lv_icmp_ge (tgt := 86) hx hb dX9_layRest_22 (by decide) (fun c1 => ?_) (fun c1 => ?_)
      · have h := h.1 c1
        exact K x3 I F hs _ _ _  hP hS (lv_sub hl [0, 1, 2] rfl) h
      · have h := h.2 c1
        refine lv_aload_n hx hb dX9_layRest_25 rfl (lv_at hl 0 rfl) ?_
        refine va_get (D := D) (ci := 9) (v := .ref (q 17)) (C := RX9) (T := TX9) (N := 44) hx hb hts (fun _ h9 => List.mem_cons_of_mem _ (List.mem_append_right _ h9)) hown hK hP 0 mAt0 rfl 23 (by decide) (hts _ (List.mem_of_getElem? (l := wsX9_layRest) (i := 2) rfl)) (fun _ h9 => h9) rfl dX9_layRest_26 ?_
        refine lv_sipush (v := (2187 : Int32)) hx hb dX9_layRest_29 (by decide) ?_
        refine lv_iload_n hx hb dX9_layRest_32 rfl (lv_at hl 2 rfl) ?_
        refine lv_imul hx hb dX9_layRest_33 ?_
        refine lv_iload_n hx hb dX9_layRest_34 rfl (lv_at hl 3 rfl) ?_
        refine lv_iadd hx hb dX9_layRest_35 ?_
        refine lv_aload_n hx hb dX9_layRest_36 rfl (lv_at hl 0 rfl) ?_
        refine va_get (D := D) (ci := 9) (v := .ref (q 16)) (C := RX9) (T := TX9) (N := 44) hx hb hts (fun _ h9 => List.mem_cons_of_mem _ (List.mem_append_right _ h9)) hown hK hP 0 mAt0 rfl 22 (by decide) (hts _ (List.mem_of_getElem? (l := wsX9_layRest) (i := 3) rfl)) (fun _ h9 => h9) rfl dX9_layRest_37 ?_
        refine lv_sipush (v := (2187 : Int32)) hx hb dX9_layRest_40 (by decide) ?_
        refine lv_iload_n hx hb dX9_layRest_43 rfl (lv_at hl 2 rfl) ?_
        refine lv_imul hx hb dX9_layRest_44 ?_
        refine lv_iload_n hx hb dX9_layRest_45 rfl (lv_at hl 3 rfl) ?_
        refine lv_iadd hx hb dX9_layRest_46 ?_
        refine va_iald (D := D) hx hb hK hP 16 0 mAr16 rfl h.1 dX9_layRest_47 ?_
        have h := h.2
        refine lv_if_ne (tgt := 56) hx hb dX9_layRest_48 (by decide) (fun c2 => ?_) (fun c2 => ?_)
        · have h := h.1 c2
          refine lv_iload_n hx hb dX9_layRest_56 rfl (lv_at hl 2 rfl) ?_
          refine lv_aload_n hx hb dX9_layRest_57 rfl (lv_at hl 0 rfl) ?_
          refine va_get (D := D) (ci := 9) (v := .int (I 3)) (C := RX9) (T := TX9) (N := 44) hx hb hts (fun _ h9 => List.mem_cons_of_mem _ (List.mem_append_right _ h9)) hown hK hP 0 mAt0 rfl 16 (by decide) (hts _ (List.mem_of_getElem? (l := wsX9_layRest) (i := 1) rfl)) (fun _ h9 => h9) rfl dX9_layRest_58 ?_
          refine lv_iconst (v := (1 : Int32)) hx hb dX9_layRest_61 (by decide) ?_
          refine lv_isub hx hb dX9_layRest_62 ?_
          refine lv_icmp_ne (tgt := 70) hx hb dX9_layRest_63 (by decide) (fun c3 => ?_) (fun c3 => ?_)
          · have h := h.1 c3
            refine lv_aload_n hx hb dX9_layRest_70 rfl (lv_at hl 0 rfl) ?_
            refine lv_iload_n hx hb dX9_layRest_71 rfl (lv_at hl 3 rfl) ?_
            refine lv_iload_n hx hb dX9_layRest_72 rfl (lv_at hl 2 rfl) ?_
            refine lv_iconst (v := (1 : Int32)) hx hb dX9_layRest_73 (by decide) ?_
            refine lv_iadd hx hb dX9_layRest_74 ?_
            refine lv_iload_n hx hb dX9_layRest_75 rfl (lv_at hl 1 rfl) ?_
            refine gCallI (D := D) (va_runV (As := [.int x3, .int (x2 + (1 : Int32)), .int x1]) (rest := [.int (((2187 : Int32) * x2) + x3), .ref (q 17)]) ⟨hx, hb, hml, hown, hts⟩ (c_X9_bestFrom l D q cI cO hq x3 (x2 + (1 : Int32)) x1  I F hs _ h) (cwV 3 hts gX9_layRest_X9_bestFrom rfl rfl rfl (by decide +kernel) ⟨Nat.le_trans (Nat.le_of_ble_eq_true rfl) hRf, Nat.le_trans (Nat.le_of_ble_eq_true rfl) hRl⟩) (gPreV (ci := 9) (q0 := 0) mEok hE hK hP hS rfl mAt0) rfl rfl hl.1 rfl (lv_room (Nat.le_of_ble_eq_true rfl)) dX9_layRest_76 ⟨Nat.zero_le _, Nat.zero_le _⟩) hS (fun r4 _ H locs hP hS h => ?_)
            have hP : va_P D vwCl (mW q cI cO I F hs) H := hP
            refine gAst (D := D) hx hb hK hP (mD hq) hS 17 0 mAr17 rfl h.1 dX9_layRest_79 (mSA17 _) (fun H locs hP hS => ?_)
            obtain ⟨F5, eF5⟩ : ∃ z : Nat → Nat → Int32, z = upF F 17 (upd (F 17) ((((2187 : Int32) * x2) + x3)).toNatClampNeg r4) := ⟨_, rfl⟩
            rw [← eF5] at hP
            have h := h.2 F5 eF5
            refine lv_iinc (v := (x3 + (1 : Int32))) (lv' := [(3, .int (x3 + (1 : Int32))), (0, .ref (q 0)), (1, .int x1), (2, .int x2)]) hx hb dX9_layRest_80 hl (k := 3) rfl rfl (by decide) rfl (fun ls hl => ?_)
            refine lv_goto (tgt := 18) hx hb dX9_layRest_83 (by decide) ?_
            exact ih x1 x2 _ (x3 + (1 : Int32)) I F5 hs _ _ _  hP hS (lv_sub hl [1, 2, 3, 0] rfl) h K
          · have h := h.2 c3
            refine lv_iconst (v := (0 : Int32)) hx hb dX9_layRest_66 (by decide) ?_
            refine lv_goto (tgt := 79) hx hb dX9_layRest_67 (by decide) ?_
            refine gAst (D := D) hx hb hK hP (mD hq) hS 17 0 mAr17 rfl h.1 dX9_layRest_79 (mSA17 _) (fun H locs hP hS => ?_)
            obtain ⟨F6, eF6⟩ : ∃ z : Nat → Nat → Int32, z = upF F 17 (upd (F 17) ((((2187 : Int32) * x2) + x3)).toNatClampNeg (0 : Int32)) := ⟨_, rfl⟩
            rw [← eF6] at hP
            have h := h.2 F6 eF6
            refine lv_iinc (v := (x3 + (1 : Int32))) (lv' := [(3, .int (x3 + (1 : Int32))), (0, .ref (q 0)), (1, .int x1), (2, .int x2)]) hx hb dX9_layRest_80 hl (k := 3) rfl rfl (by decide) rfl (fun ls hl => ?_)
            refine lv_goto (tgt := 18) hx hb dX9_layRest_83 (by decide) ?_
            exact ih x1 x2 _ (x3 + (1 : Int32)) I F6 hs _ _ _  hP hS (lv_sub hl [1, 2, 3, 0] rfl) h K
        · have h := h.2 c2
          refine lv_ldc (v := (99999 : Int32)) hx hb hown (hts _ (List.mem_of_getElem? (l := wsX9_layRest) (i := 4) rfl)) dX9_layRest_51 ?_
          refine lv_goto (tgt := 79) hx hb dX9_layRest_53 (by decide) ?_
          refine gAst (D := D) hx hb hK hP (mD hq) hS 17 0 mAr17 rfl h.1 dX9_layRest_79 (mSA17 _) (fun H locs hP hS => ?_)
          obtain ⟨F7, eF7⟩ : ∃ z : Nat → Nat → Int32, z = upF F 17 (upd (F 17) ((((2187 : Int32) * x2) + x3)).toNatClampNeg (99999 : Int32)) := ⟨_, rfl⟩
          rw [← eF7] at hP
          have h := h.2 F7 eF7
          refine lv_iinc (v := (x3 + (1 : Int32))) (lv' := [(3, .int (x3 + (1 : Int32))), (0, .ref (q 0)), (1, .int x1), (2, .int x2)]) hx hb dX9_layRest_80 hl (k := 3) rfl rfl (by decide) rfl (fun ls hl => ?_)
          refine lv_goto (tgt := 18) hx hb dX9_layRest_83 (by decide) ?_
          exact ih x1 x2 _ (x3 + (1 : Int32)) I F7 hs _ _ _  hP hS (lv_sub hl [1, 2, 3, 0] rfl) h K
  have L12 : ∀ (n : Nat) (x1 : Int32) (k : Int32 → (Nat → Int32) → (Nat → Nat → Int32) → Int64 → Prop) (x2 : Int32) (I : Nat → Int32) (F : Nat → Nat → Int32) (hs : Int64) (H : Heap) (locs : List Loc) (ls : Array Slot), va_P D vwCl (mW q cI cO I F hs) H → va_S (mA q) s.heap H locs → lv_has ls 4 [(0, .ref (q 0)), (1, .int x1), (2, .int x2)] → gLN (fun ag v => w_X9_layRest_B12 x1 k (fun b0 b1 b2 b3 => ag (b0, b1, b2, b3)) v.1 v.2.1 v.2.2.1 v.2.2.2) n (x2, I, F, hs) → (∀ (x2 : Int32) (I : Nat → Int32) (F : Nat → Nat → Int32) (hs : Int64) (H : Heap) (locs : List Loc) (ls : Array Slot), va_P D vwCl (mW q cI cO I F hs) H → va_S (mA q) s.heap H locs → lv_has ls 4 [] → k x2 I F hs → W p l e R s m args below meth c H locs 0 0 Q (F0 m 92 ls [])) → W p l e R s m args below meth c H locs 0 0 Q (F0 m 12 ls []) := by
    intro n
    induction n with
    | zero =>
      intro x1 k x2 I F hs H locs ls  hP hS hl h K
      exact False.elim h
    | succ n ih =>
      intro x1 k x2 I F hs H locs ls  hP hS hl h K
      have h : w_X9_layRest_B12 x1 k (fun b0 b1 b2 b3 => gLN (fun ag v => w_X9_layRest_B12 x1 k (fun b0 b1 b2 b3 => ag (b0, b1, b2, b3)) v.1 v.2.1 v.2.2.1 v.2.2.2) n (b0, b1, b2, b3)) x2 I F hs := h
      refine lv_iload_n hx hb dX9_layRest_12 rfl (lv_at hl 2 rfl) ?_
      refine lv_if_lt (tgt := 92) hx hb dX9_layRest_13 (by decide) (fun c8 => ?_) (fun c8 => ?_)
      · have h := h.1 c8
        exact K x2 I F hs _ _ _  hP hS (lv_sub hl [] rfl) h
      · have h := h.2 c8
        refine lv_iconst (v := (0 : Int32)) hx hb dX9_layRest_16 (by decide) ?_
        refine lv_istore_n (lv' := [(3, .int (0 : Int32)), (0, .ref (q 0)), (1, .int x1), (2, .int x2)]) hx hb dX9_layRest_17 rfl hl (by decide) rfl (fun ls hl => ?_)
        obtain ⟨n, h⟩ := h
        refine L18 n x1 x2 _ (0 : Int32) I F hs _ _ _  hP hS (lv_sub hl [1, 2, 3, 0] rfl) h (fun y9 I10 F11 hs12 H locs ls  hP hS hl h => ?_)
        refine lv_iinc (v := (x2 + (-1 : Int32))) (lv' := [(2, .int (x2 + (-1 : Int32))), (0, .ref (q 0)), (1, .int x1)]) hx hb dX9_layRest_86 hl (k := 2) rfl rfl (by decide) rfl (fun ls hl => ?_)
        refine lv_goto (tgt := 12) hx hb dX9_layRest_89 (by decide) ?_
        exact ih x1 _ (x2 + (-1 : Int32)) I10 F11 hs12 _ _ _  hP hS (lv_sub hl [1, 2, 0] rfl) h K
  refine lv_aload_n hx hb dX9_layRest_0 rfl (lv_at hl 0 rfl) ?_
  refine lv_iload_n hx hb dX9_layRest_1 rfl (lv_at hl 1 rfl) ?_
  refine gCallV (D := D) (va_runV (As := [.int a1]) (rest := []) ⟨hx, hb, hml, hown, hts⟩ (c_X9_layFits l D q cI cO hq a1  I F hs _ h) (cwV 1 hts gX9_layRest_X9_layFits rfl rfl rfl (by decide +kernel) ⟨Nat.le_trans (Nat.le_of_ble_eq_true rfl) hRf, Nat.le_trans (Nat.le_of_ble_eq_true rfl) hRl⟩) (gPreV (ci := 9) (q0 := 0) mEok hE hK hP hS rfl mAt0) rfl rfl hl.1 rfl (lv_room (Nat.le_of_ble_eq_true rfl)) dX9_layRest_2 ⟨Nat.zero_le _, Nat.zero_le _⟩) hS (fun u H locs hP hS h => ?_)
  obtain ⟨I13, F14, hs15⟩ := u
  have hP : va_P D vwCl (mW q cI cO I13 F14 hs15) H := hP
  refine lv_aload_n hx hb dX9_layRest_5 rfl (lv_at hl 0 rfl) ?_
  refine va_get (D := D) (ci := 9) (v := .int (I13 3)) (C := RX9) (T := TX9) (N := 44) hx hb hts (fun _ h9 => List.mem_cons_of_mem _ (List.mem_append_right _ h9)) hown hK hP 0 mAt0 rfl 16 (by decide) (hts _ (List.mem_of_getElem? (l := wsX9_layRest) (i := 1) rfl)) (fun _ h9 => h9) rfl dX9_layRest_6 ?_
  refine lv_iconst (v := (1 : Int32)) hx hb dX9_layRest_9 (by decide) ?_
  refine lv_isub hx hb dX9_layRest_10 ?_
  refine lv_topi (fun v16 ev16 => ?_)
  have h := h v16 ev16
  refine lv_istore_n (lv' := [(2, .int v16), (0, .ref (q 0)), (1, .int a1)]) hx hb dX9_layRest_11 rfl hl (by decide) rfl (fun ls hl => ?_)
  obtain ⟨n, h⟩ := h
  refine L12 n a1 _ v16 I13 F14 hs15 _ _ _  hP hS (lv_sub hl [1, 2, 0] rfl) h (fun y17 I18 F19 hs20 H locs ls  hP hS hl h => ?_)
  exact hret (I18, F19, hs20) _ _ _ _ dX9_layRest_92 hP hS h
