def w_X9_layFrom_B27 (x1 : Int32) (x2 : Int32) (x3 : Int32) (x4 : Int32) (x5 : Int32) (x6 : Int32) (k again : Int32 → (Nat → Int32) → (Nat → Nat → Int32) → Int64 → Prop) (x7 : Int32) (I : Nat → Int32) (F : Nat → Nat → Int32) (hs : Int64) : Prop :=
  (((63 : Int32) ≤ x7 → k x7 I F hs) ∧ (¬ (63 : Int32) ≤ x7 → w_X9_after x1 x7 I F hs (fun (r2 : Int32) => vp_in (((2187 : Int32) * x2) + r2) 17496 ∧ ((¬ (F 16 ((((2187 : Int32) * x2) + r2)).toNatClampNeg) = (1 : Int32) → again (x7 + (1 : Int32)) I F hs) ∧ ((F 16 ((((2187 : Int32) * x2) + r2)).toNatClampNeg) = (1 : Int32) → w_X9_can x7 x6 x5 I F hs (fun (r4 : Int32) => ((r4 = 0 → again (x7 + (1 : Int32)) I F hs) ∧ (¬ r4 = 0 → w_X9_movedBy x7 I F hs (fun (r6 : Int32) => ∀ v7 : Int32, v7 = (x3 + r6) → ∀ v8 : Int32, v8 = (((2187 : Int32) * x2) + r2) → vp_in v8 17496 ∧ (((F 18 (v8).toNatClampNeg) ≤ v7 → vp_in v8 17496 ∧ ((¬ v7 = (F 18 (v8).toNatClampNeg) → vp_in v8 17496 ∧ vp_in v8 17496 ∧ ∀ F11 : Nat → Nat → Int32, F11 = upF F 19 (upd (F 19) (v8).toNatClampNeg (F 19 (v8).toNatClampNeg)) → vp_in v8 17496 ∧ (((F11 18 (v8).toNatClampNeg) ≤ v7 → vp_in v8 17496 ∧ vp_in v8 17496 ∧ ∀ F13 : Nat → Nat → Int32, F13 = upF F11 18 (upd (F11 18) (v8).toNatClampNeg (F11 18 (v8).toNatClampNeg)) → again (x7 + (1 : Int32)) I F13 hs) ∧ (¬ (F11 18 (v8).toNatClampNeg) ≤ v7 → vp_in v8 17496 ∧ ∀ F14 : Nat → Nat → Int32, F14 = upF F11 18 (upd (F11 18) (v8).toNatClampNeg v7) → again (x7 + (1 : Int32)) I F14 hs))) ∧ (v7 = (F 18 (v8).toNatClampNeg) → vp_in v8 17496 ∧ vp_in v8 17496 ∧ ∀ F15 : Nat → Nat → Int32, F15 = upF F 19 (upd (F 19) (v8).toNatClampNeg (((F 19 (v8).toNatClampNeg) + x4) - ((F 19 (v8).toNatClampNeg) + x4) / (1000003 : Int32) * (1000003 : Int32))) → vp_in v8 17496 ∧ (((F15 18 (v8).toNatClampNeg) ≤ v7 → vp_in v8 17496 ∧ vp_in v8 17496 ∧ ∀ F17 : Nat → Nat → Int32, F17 = upF F15 18 (upd (F15 18) (v8).toNatClampNeg (F15 18 (v8).toNatClampNeg)) → again (x7 + (1 : Int32)) I F17 hs) ∧ (¬ (F15 18 (v8).toNatClampNeg) ≤ v7 → vp_in v8 17496 ∧ ∀ F18 : Nat → Nat → Int32, F18 = upF F15 18 (upd (F15 18) (v8).toNatClampNeg v7) → again (x7 + (1 : Int32)) I F18 hs))))) ∧ (¬ (F 18 (v8).toNatClampNeg) ≤ v7 → vp_in v8 17496 ∧ ∀ F19 : Nat → Nat → Int32, F19 = upF F 19 (upd (F 19) (v8).toNatClampNeg x4) → vp_in v8 17496 ∧ (((F19 18 (v8).toNatClampNeg) ≤ v7 → vp_in v8 17496 ∧ vp_in v8 17496 ∧ ∀ F21 : Nat → Nat → Int32, F21 = upF F19 18 (upd (F19 18) (v8).toNatClampNeg (F19 18 (v8).toNatClampNeg)) → again (x7 + (1 : Int32)) I F21 hs) ∧ (¬ (F19 18 (v8).toNatClampNeg) ≤ v7 → vp_in v8 17496 ∧ ∀ F22 : Nat → Nat → Int32, F22 = upF F19 18 (upd (F19 18) (v8).toNatClampNeg v7) → again (x7 + (1 : Int32)) I F22 hs)))))))))))))
def w_X9_layFrom (a1 : Int32) (a2 : Int32) (a3 : Int32) (a4 : Int32) (I : Nat → Int32) (F : Nat → Nat → Int32) (hs : Int64) (post : (Nat → Int32) → (Nat → Nat → Int32) → Int64 → Prop) : Prop :=
  w_X9_heldBy a2 (0 : Int32) I F hs (fun (r23 : Int32) => w_X9_heldPedals a1 r23 I F hs (fun (r24 : Int32) => vp_in a2 8 ∧ w_X9_mostOf (F 14 (a2).toNatClampNeg) I F hs (fun (r25 : Int32) => gL (fun ag v => w_X9_layFrom_B27 a1 a2 a3 a4 r24 r25 (fun (y26 : Int32) (I27 : Nat → Int32) (F28 : Nat → Nat → Int32) (hs29 : Int64) => post I27 F28 hs29) (fun b0 b1 b2 b3 => ag (b0, b1, b2, b3)) v.1 v.2.1 v.2.2.1 v.2.2.2) ((0 : Int32), I, F, hs))))
set_option maxHeartbeats 4000000 in
set_option maxRecDepth 100000 in
theorem c_X9_layFrom (l : Launch) (D : va_G) (q : Nat → Nat) (cI cO : ClassId) (hq : mOk q) (a1 : Int32) (a2 : Int32) (a3 : Int32) (a4 : Int32)  (I : Nat → Int32) (F : Nat → Nat → Int32) (hs : Int64) (post : (Nat → Int32) → (Nat → Nat → Int32) → Int64 → Prop) (h : w_X9_layFrom a1 a2 a3 a4 I F hs post) : Met l yX9_layFrom wsX9_layFrom ({ frames := 2, cells := 0, slots := 0, locals := 46 } : Room) (gPre D (mTys cI) (mW q cI cO I F hs) mEnv [.ref (q 0), .int a1, .int a2, .int a3, .int a4]) (va_Qv (fun (u : mS) => post u.1 u.2.1 u.2.2) (gB D (fun u : mS => mW q cI cO u.1 u.2.1 u.2.2)) (mA q)) 0 0 (mA q) := by
  refine gMetV (by decide) rfl (Nat.le_of_ble_eq_true rfl) ?_
  intro p e R s m args below meth c Q ls hR hx hb hml hown hts hK hE hP hl hret
  have hRf : 2 ≤ R.frames := by subst hR; exact Nat.le_refl _
  have hRl : 46 ≤ R.locals := by subst hR; exact Nat.le_refl _
  have hown : s.vm.findClass RX9 = some m.cls := hown
  have hl : lv_has ls 11 [(0, .ref (q 0)), (1, .int a1), (2, .int a2), (3, .int a3), (4, .int a4)] := hl
  have hS : va_S (mA q) s.heap s.heap [] := va_S.rf
  have hP : va_P D vwCl (mW q cI cO I F hs) s.heap := hP
  have L27 : ∀ (n : Nat) (x1 : Int32) (x2 : Int32) (x3 : Int32) (x4 : Int32) (x5 : Int32) (x6 : Int32) (k : Int32 → (Nat → Int32) → (Nat → Nat → Int32) → Int64 → Prop) (x7 : Int32) (I : Nat → Int32) (F : Nat → Nat → Int32) (hs : Int64) (H : Heap) (locs : List Loc) (ls : Array Slot), va_P D vwCl (mW q cI cO I F hs) H → va_S (mA q) s.heap H locs → lv_has ls 11 [(0, .ref (q 0)), (1, .int x1), (2, .int x2), (3, .int x3), (4, .int x4), (5, .int x5), (6, .int x6), (7, .int x7)] → gLN (fun ag v => w_X9_layFrom_B27 x1 x2 x3 x4 x5 x6 k (fun b0 b1 b2 b3 => ag (b0, b1, b2, b3)) v.1 v.2.1 v.2.2.1 v.2.2.2) n (x7, I, F, hs) → (∀ (x7 : Int32) (I : Nat → Int32) (F : Nat → Nat → Int32) (hs : Int64) (H : Heap) (locs : List Loc) (ls : Array Slot), va_P D vwCl (mW q cI cO I F hs) H → va_S (mA q) s.heap H locs → lv_has ls 11 [] → k x7 I F hs → W p l e R s m args below meth c H locs 0 0 Q (F0 m 189 ls [])) → W p l e R s m args below meth c H locs 0 0 Q (F0 m 27 ls []) := by
    intro n
    induction n with
    | zero =>
      intro x1 x2 x3 x4 x5 x6 k x7 I F hs H locs ls  hP hS hl h K
      exact False.elim h
    | succ n ih =>
      intro x1 x2 x3 x4 x5 x6 k x7 I F hs H locs ls  hP hS hl h K
      have h : w_X9_layFrom_B27 x1 x2 x3 x4 x5 x6 k (fun b0 b1 b2 b3 => gLN (fun ag v => w_X9_layFrom_B27 x1 x2 x3 x4 x5 x6 k (fun b0 b1 b2 b3 => ag (b0, b1, b2, b3)) v.1 v.2.1 v.2.2.1 v.2.2.2) n (b0, b1, b2, b3)) x7 I F hs := h
      refine lv_iload hx hb dX9_layFrom_27 (lv_at hl 7 rfl) ?_
      refine lv_bipush (v := (63 : Int32)) hx hb dX9_layFrom_29 (by decide) ?_
      refine lv_icmp_ge (tgt := 189) hx hb dX9_layFrom_31 (by decide) (fun c1 => ?_) (fun c1 => ?_)
      · have h := h.1 c1
        exact K x7 I F hs _ _ _  hP hS (lv_sub hl [] rfl) h
      · have h := h.2 c1
        refine lv_aload_n hx hb dX9_layFrom_34 rfl (lv_at hl 0 rfl) ?_
        refine lv_iload_n hx hb dX9_layFrom_35 rfl (lv_at hl 1 rfl) ?_
        refine lv_iload hx hb dX9_layFrom_36 (lv_at hl 7 rfl) ?_
        refine gCallI (D := D) (va_runV (As := [.int x1, .int x7]) (rest := []) ⟨hx, hb, hml, hown, hts⟩ (c_X9_after l D q cI cO hq x1 x7  I F hs _ h) (cwV 2 hts gX9_layFrom_X9_after rfl rfl rfl (by decide +kernel) ⟨Nat.le_trans (Nat.le_of_ble_eq_true rfl) hRf, Nat.le_trans (Nat.le_of_ble_eq_true rfl) hRl⟩) (gPreV (ci := 9) (q0 := 0) mEok hE hK hP hS rfl mAt0) rfl rfl hl.1 rfl (lv_room (Nat.le_of_ble_eq_true rfl)) dX9_layFrom_38 ⟨Nat.zero_le _, Nat.zero_le _⟩) hS (fun r2 _ H locs hP hS h => ?_)
        have hP : va_P D vwCl (mW q cI cO I F hs) H := hP
        refine lv_istore (lv' := [(8, .int r2), (0, .ref (q 0)), (1, .int x1), (2, .int x2), (3, .int x3), (4, .int x4), (5, .int x5), (6, .int x6), (7, .int x7)]) hx hb dX9_layFrom_41 hl (by decide) rfl (fun ls hl => ?_)
        refine lv_aload_n hx hb dX9_layFrom_43 rfl (lv_at hl 1 rfl) ?_
        refine va_get (D := D) (ci := 9) (v := .ref (q 16)) (C := RX9) (T := TX9) (N := 44) hx hb hts (fun _ h9 => List.mem_cons_of_mem _ (List.mem_append_right _ h9)) hown hK hP 0 mAt0 rfl 22 (by decide) (hts _ (List.mem_of_getElem? (l := wsX9_layFrom) (i := 2) rfl)) (fun _ h9 => h9) rfl dX9_layFrom_44 ?_
        refine lv_sipush (v := (2187 : Int32)) hx hb dX9_layFrom_47 (by decide) ?_
        refine lv_iload_n hx hb dX9_layFrom_50 rfl (lv_at hl 3 rfl) ?_
        refine lv_imul hx hb dX9_layFrom_51 ?_
        refine lv_iload hx hb dX9_layFrom_52 (lv_at hl 0 rfl) ?_
        refine lv_iadd hx hb dX9_layFrom_54 ?_
        refine va_iald (D := D) hx hb hK hP 16 0 mAr16 rfl h.1 dX9_layFrom_55 ?_
        have h := h.2
        refine lv_iconst (v := (1 : Int32)) hx hb dX9_layFrom_56 (by decide) ?_
        refine lv_icmp_ne (tgt := 183) hx hb dX9_layFrom_57 (by decide) (fun c3 => ?_) (fun c3 => ?_)
        · have h := h.1 c3
          refine lv_iinc (v := (x7 + (1 : Int32))) (lv' := [(7, .int (x7 + (1 : Int32))), (8, .int r2), (0, .ref (q 0)), (1, .int x1), (2, .int x2), (3, .int x3), (4, .int x4), (5, .int x5), (6, .int x6)]) hx hb dX9_layFrom_183 hl (k := 8) rfl rfl (by decide) rfl (fun ls hl => ?_)
          refine lv_goto (tgt := 27) hx hb dX9_layFrom_186 (by decide) ?_
          exact ih x1 x2 x3 x4 x5 x6 _ (x7 + (1 : Int32)) I F hs _ _ _  hP hS (lv_sub hl [2, 3, 4, 5, 6, 7, 8, 0] rfl) h K
        · have h := h.2 c3
          refine lv_aload_n hx hb dX9_layFrom_60 rfl (lv_at hl 1 rfl) ?_
          refine lv_iload hx hb dX9_layFrom_61 (lv_at hl 8 rfl) ?_
          refine lv_iload hx hb dX9_layFrom_63 (lv_at hl 7 rfl) ?_
          refine lv_iload hx hb dX9_layFrom_65 (lv_at hl 6 rfl) ?_
          refine gCallI (D := D) (va_runV (As := [.int x7, .int x6, .int x5]) (rest := []) ⟨hx, hb, hml, hown, hts⟩ (c_X9_can l D q cI cO hq x7 x6 x5  I F hs _ h) (cwV 3 hts gX9_layFrom_X9_can rfl rfl rfl (by decide +kernel) ⟨Nat.le_trans (Nat.le_of_ble_eq_true rfl) hRf, Nat.le_trans (Nat.le_of_ble_eq_true rfl) hRl⟩) (gPreV (ci := 9) (q0 := 0) mEok hE hK hP hS rfl mAt0) rfl rfl hl.1 rfl (lv_room (Nat.le_of_ble_eq_true rfl)) dX9_layFrom_67 ⟨Nat.zero_le _, Nat.zero_le _⟩) hS (fun r4 _ H locs hP hS h => ?_)
          have hP : va_P D vwCl (mW q cI cO I F hs) H := hP
          refine lv_if_eq (tgt := 183) hx hb dX9_layFrom_70 (by decide) (fun c5 => ?_) (fun c5 => ?_)
          · have h := h.1 c5
            refine lv_iinc (v := (x7 + (1 : Int32))) (lv' := [(7, .int (x7 + (1 : Int32))), (8, .int r2), (0, .ref (q 0)), (1, .int x1), (2, .int x2), (3, .int x3), (4, .int x4), (5, .int x5), (6, .int x6)]) hx hb dX9_layFrom_183 hl (k := 8) rfl rfl (by decide) rfl (fun ls hl => ?_)
            refine lv_goto (tgt := 27) hx hb dX9_layFrom_186 (by decide) ?_
            exact ih x1 x2 x3 x4 x5 x6 _ (x7 + (1 : Int32)) I F hs _ _ _  hP hS (lv_sub hl [2, 3, 4, 5, 6, 7, 8, 0] rfl) h K
          · have h := h.2 c5
            refine lv_iload_n hx hb dX9_layFrom_73 rfl (lv_at hl 4 rfl) ?_
            refine lv_aload_n hx hb dX9_layFrom_74 rfl (lv_at hl 1 rfl) ?_
            refine lv_iload hx hb dX9_layFrom_75 (lv_at hl 8 rfl) ?_
            refine gCallI (D := D) (va_runV (As := [.int x7]) (rest := [.int x3]) ⟨hx, hb, hml, hown, hts⟩ (c_X9_movedBy l D q cI cO hq x7  I F hs _ h) (cwV 1 hts gX9_layFrom_X9_movedBy rfl rfl rfl (by decide +kernel) ⟨Nat.le_trans (Nat.le_of_ble_eq_true rfl) hRf, Nat.le_trans (Nat.le_of_ble_eq_true rfl) hRl⟩) (gPreV (ci := 9) (q0 := 0) mEok hE hK hP hS rfl mAt0) rfl rfl hl.1 rfl (lv_room (Nat.le_of_ble_eq_true rfl)) dX9_layFrom_77 ⟨Nat.zero_le _, Nat.zero_le _⟩) hS (fun r6 _ H locs hP hS h => ?_)
            have hP : va_P D vwCl (mW q cI cO I F hs) H := hP
            refine lv_iadd hx hb dX9_layFrom_80 ?_
            refine lv_topi (fun v7 ev7 => ?_)
            have h := h v7 ev7
            refine lv_istore (lv' := [(9, .int v7), (8, .int r2), (0, .ref (q 0)), (1, .int x1), (2, .int x2), (3, .int x3), (4, .int x4), (5, .int x5), (6, .int x6), (7, .int x7)]) hx hb dX9_layFrom_81 hl (by decide) rfl (fun ls hl => ?_)
            refine lv_sipush (v := (2187 : Int32)) hx hb dX9_layFrom_83 (by decide) ?_
            refine lv_iload_n hx hb dX9_layFrom_86 rfl (lv_at hl 4 rfl) ?_
            refine lv_imul hx hb dX9_layFrom_87 ?_
            refine lv_iload hx hb dX9_layFrom_88 (lv_at hl 1 rfl) ?_
            refine lv_iadd hx hb dX9_layFrom_90 ?_
            refine lv_topi (fun v8 ev8 => ?_)
            have h := h v8 ev8
            refine lv_istore (lv' := [(10, .int v8), (9, .int v7), (8, .int r2), (0, .ref (q 0)), (1, .int x1), (2, .int x2), (3, .int x3), (4, .int x4), (5, .int x5), (6, .int x6), (7, .int x7)]) hx hb dX9_layFrom_91 hl (by decide) rfl (fun ls hl => ?_)
            refine lv_aload_n hx hb dX9_layFrom_93 rfl (lv_at hl 3 rfl) ?_
            refine va_get (D := D) (ci := 9) (v := .ref (q 19)) (C := RX9) (T := TX9) (N := 44) hx hb hts (fun _ h9 => List.mem_cons_of_mem _ (List.mem_append_right _ h9)) hown hK hP 0 mAt0 rfl 25 (by decide) (hts _ (List.mem_of_getElem? (l := wsX9_layFrom) (i := 3) rfl)) (fun _ h9 => h9) rfl dX9_layFrom_94 ?_
            refine lv_iload hx hb dX9_layFrom_97 (lv_at hl 0 rfl) ?_
            refine lv_iload hx hb dX9_layFrom_99 (lv_at hl 1 rfl) ?_
            refine lv_aload_n hx hb dX9_layFrom_101 rfl (lv_at hl 3 rfl) ?_
            refine va_get (D := D) (ci := 9) (v := .ref (q 18)) (C := RX9) (T := TX9) (N := 44) hx hb hts (fun _ h9 => List.mem_cons_of_mem _ (List.mem_append_right _ h9)) hown hK hP 0 mAt0 rfl 24 (by decide) (hts _ (List.mem_of_getElem? (l := wsX9_layFrom) (i := 4) rfl)) (fun _ h9 => h9) rfl dX9_layFrom_102 ?_
            refine lv_iload hx hb dX9_layFrom_105 (lv_at hl 0 rfl) ?_
            refine va_iald (D := D) hx hb hK hP 18 0 mAr18 rfl h.1 dX9_layFrom_107 ?_
            have h := h.2
            refine lv_icmp_ge (tgt := 116) hx hb dX9_layFrom_108 (by decide) (fun c9 => ?_) (fun c9 => ?_)
            · have h := h.1 c9
              refine lv_iload hx hb dX9_layFrom_116 (lv_at hl 1 rfl) ?_
              refine lv_aload_n hx hb dX9_layFrom_118 rfl (lv_at hl 3 rfl) ?_
              refine va_get (D := D) (ci := 9) (v := .ref (q 18)) (C := RX9) (T := TX9) (N := 44) hx hb hts (fun _ h9 => List.mem_cons_of_mem _ (List.mem_append_right _ h9)) hown hK hP 0 mAt0 rfl 24 (by decide) (hts _ (List.mem_of_getElem? (l := wsX9_layFrom) (i := 4) rfl)) (fun _ h9 => h9) rfl dX9_layFrom_119 ?_
              refine lv_iload hx hb dX9_layFrom_122 (lv_at hl 0 rfl) ?_
              refine va_iald (D := D) hx hb hK hP 18 0 mAr18 rfl h.1 dX9_layFrom_124 ?_
              have h := h.2
              refine lv_icmp_ne (tgt := 144) hx hb dX9_layFrom_125 (by decide) (fun c10 => ?_) (fun c10 => ?_)
              · have h := h.1 c10
                refine lv_aload_n hx hb dX9_layFrom_144 rfl (lv_at hl 3 rfl) ?_
                refine va_get (D := D) (ci := 9) (v := .ref (q 19)) (C := RX9) (T := TX9) (N := 44) hx hb hts (fun _ h9 => List.mem_cons_of_mem _ (List.mem_append_right _ h9)) hown hK hP 0 mAt0 rfl 25 (by decide) (hts _ (List.mem_of_getElem? (l := wsX9_layFrom) (i := 3) rfl)) (fun _ h9 => h9) rfl dX9_layFrom_145 ?_
                refine lv_iload hx hb dX9_layFrom_148 (lv_at hl 0 rfl) ?_
                refine va_iald (D := D) hx hb hK hP 19 0 mAr19 rfl h.1 dX9_layFrom_150 ?_
                have h := h.2
                refine gAst (D := D) hx hb hK hP (mD hq) hS 19 0 mAr19 rfl h.1 dX9_layFrom_151 (mSA19 _) (fun H locs hP hS => ?_)
                obtain ⟨F11, eF11⟩ : ∃ z : Nat → Nat → Int32, z = upF F 19 (upd (F 19) (v8).toNatClampNeg (F 19 (v8).toNatClampNeg)) := ⟨_, rfl⟩
                rw [← eF11] at hP
                have h := h.2 F11 eF11
                refine lv_aload_n hx hb dX9_layFrom_152 rfl (lv_at hl 3 rfl) ?_
                refine va_get (D := D) (ci := 9) (v := .ref (q 18)) (C := RX9) (T := TX9) (N := 44) hx hb hts (fun _ h9 => List.mem_cons_of_mem _ (List.mem_append_right _ h9)) hown hK hP 0 mAt0 rfl 24 (by decide) (hts _ (List.mem_of_getElem? (l := wsX9_layFrom) (i := 4) rfl)) (fun _ h9 => h9) rfl dX9_layFrom_153 ?_
                refine lv_iload hx hb dX9_layFrom_156 (lv_at hl 0 rfl) ?_
                refine lv_iload hx hb dX9_layFrom_158 (lv_at hl 1 rfl) ?_
                refine lv_aload_n hx hb dX9_layFrom_160 rfl (lv_at hl 3 rfl) ?_
                refine va_get (D := D) (ci := 9) (v := .ref (q 18)) (C := RX9) (T := TX9) (N := 44) hx hb hts (fun _ h9 => List.mem_cons_of_mem _ (List.mem_append_right _ h9)) hown hK hP 0 mAt0 rfl 24 (by decide) (hts _ (List.mem_of_getElem? (l := wsX9_layFrom) (i := 4) rfl)) (fun _ h9 => h9) rfl dX9_layFrom_161 ?_
                refine lv_iload hx hb dX9_layFrom_164 (lv_at hl 0 rfl) ?_
                refine va_iald (D := D) hx hb hK hP 18 0 mAr18 rfl h.1 dX9_layFrom_166 ?_
                have h := h.2
                refine lv_icmp_ge (tgt := 175) hx hb dX9_layFrom_167 (by decide) (fun c12 => ?_) (fun c12 => ?_)
                · have h := h.1 c12
                  refine lv_aload_n hx hb dX9_layFrom_175 rfl (lv_at hl 3 rfl) ?_
                  refine va_get (D := D) (ci := 9) (v := .ref (q 18)) (C := RX9) (T := TX9) (N := 44) hx hb hts (fun _ h9 => List.mem_cons_of_mem _ (List.mem_append_right _ h9)) hown hK hP 0 mAt0 rfl 24 (by decide) (hts _ (List.mem_of_getElem? (l := wsX9_layFrom) (i := 4) rfl)) (fun _ h9 => h9) rfl dX9_layFrom_176 ?_
                  refine lv_iload hx hb dX9_layFrom_179 (lv_at hl 0 rfl) ?_
                  refine va_iald (D := D) hx hb hK hP 18 0 mAr18 rfl h.1 dX9_layFrom_181 ?_
                  have h := h.2
                  refine gAst (D := D) hx hb hK hP (mD hq) hS 18 0 mAr18 rfl h.1 dX9_layFrom_182 (mSA18 _) (fun H locs hP hS => ?_)
                  obtain ⟨F13, eF13⟩ : ∃ z : Nat → Nat → Int32, z = upF F11 18 (upd (F11 18) (v8).toNatClampNeg (F11 18 (v8).toNatClampNeg)) := ⟨_, rfl⟩
                  rw [← eF13] at hP
                  have h := h.2 F13 eF13
                  refine lv_iinc (v := (x7 + (1 : Int32))) (lv' := [(7, .int (x7 + (1 : Int32))), (10, .int v8), (9, .int v7), (8, .int r2), (0, .ref (q 0)), (1, .int x1), (2, .int x2), (3, .int x3), (4, .int x4), (5, .int x5), (6, .int x6)]) hx hb dX9_layFrom_183 hl (k := 10) rfl rfl (by decide) rfl (fun ls hl => ?_)
                  refine lv_goto (tgt := 27) hx hb dX9_layFrom_186 (by decide) ?_
                  exact ih x1 x2 x3 x4 x5 x6 _ (x7 + (1 : Int32)) I F13 hs _ _ _  hP hS (lv_sub hl [4, 5, 6, 7, 8, 9, 10, 0] rfl) h K
                · have h := h.2 c12
                  refine lv_iload hx hb dX9_layFrom_170 (lv_at hl 1 rfl) ?_
                  refine lv_goto (tgt := 182) hx hb dX9_layFrom_172 (by decide) ?_
                  refine gAst (D := D) hx hb hK hP (mD hq) hS 18 0 mAr18 rfl h.1 dX9_layFrom_182 (mSA18 _) (fun H locs hP hS => ?_)
                  obtain ⟨F14, eF14⟩ : ∃ z : Nat → Nat → Int32, z = upF F11 18 (upd (F11 18) (v8).toNatClampNeg v7) := ⟨_, rfl⟩
                  rw [← eF14] at hP
                  have h := h.2 F14 eF14
                  refine lv_iinc (v := (x7 + (1 : Int32))) (lv' := [(7, .int (x7 + (1 : Int32))), (10, .int v8), (9, .int v7), (8, .int r2), (0, .ref (q 0)), (1, .int x1), (2, .int x2), (3, .int x3), (4, .int x4), (5, .int x5), (6, .int x6)]) hx hb dX9_layFrom_183 hl (k := 10) rfl rfl (by decide) rfl (fun ls hl => ?_)
                  refine lv_goto (tgt := 27) hx hb dX9_layFrom_186 (by decide) ?_
                  exact ih x1 x2 x3 x4 x5 x6 _ (x7 + (1 : Int32)) I F14 hs _ _ _  hP hS (lv_sub hl [4, 5, 6, 7, 8, 9, 10, 0] rfl) h K
              · have h := h.2 c10
                refine lv_aload_n hx hb dX9_layFrom_128 rfl (lv_at hl 3 rfl) ?_
                refine va_get (D := D) (ci := 9) (v := .ref (q 19)) (C := RX9) (T := TX9) (N := 44) hx hb hts (fun _ h9 => List.mem_cons_of_mem _ (List.mem_append_right _ h9)) hown hK hP 0 mAt0 rfl 25 (by decide) (hts _ (List.mem_of_getElem? (l := wsX9_layFrom) (i := 3) rfl)) (fun _ h9 => h9) rfl dX9_layFrom_129 ?_
                refine lv_iload hx hb dX9_layFrom_132 (lv_at hl 0 rfl) ?_
                refine va_iald (D := D) hx hb hK hP 19 0 mAr19 rfl h.1 dX9_layFrom_134 ?_
                have h := h.2
                refine lv_iload hx hb dX9_layFrom_135 (lv_at hl 7 rfl) ?_
                refine lv_iadd hx hb dX9_layFrom_137 ?_
                refine lv_ldc (v := (1000003 : Int32)) hx hb hown (hts _ (List.mem_of_getElem? (l := wsX9_layFrom) (i := 5) rfl)) dX9_layFrom_138 ?_
                refine lv_irem hx hb dX9_layFrom_140 (by decide) ?_
                refine lv_goto (tgt := 151) hx hb dX9_layFrom_141 (by decide) ?_
                refine gAst (D := D) hx hb hK hP (mD hq) hS 19 0 mAr19 rfl h.1 dX9_layFrom_151 (mSA19 _) (fun H locs hP hS => ?_)
                obtain ⟨F15, eF15⟩ : ∃ z : Nat → Nat → Int32, z = upF F 19 (upd (F 19) (v8).toNatClampNeg (((F 19 (v8).toNatClampNeg) + x4) - ((F 19 (v8).toNatClampNeg) + x4) / (1000003 : Int32) * (1000003 : Int32))) := ⟨_, rfl⟩
                rw [← eF15] at hP
                have h := h.2 F15 eF15
                refine lv_aload_n hx hb dX9_layFrom_152 rfl (lv_at hl 3 rfl) ?_
                refine va_get (D := D) (ci := 9) (v := .ref (q 18)) (C := RX9) (T := TX9) (N := 44) hx hb hts (fun _ h9 => List.mem_cons_of_mem _ (List.mem_append_right _ h9)) hown hK hP 0 mAt0 rfl 24 (by decide) (hts _ (List.mem_of_getElem? (l := wsX9_layFrom) (i := 4) rfl)) (fun _ h9 => h9) rfl dX9_layFrom_153 ?_
                refine lv_iload hx hb dX9_layFrom_156 (lv_at hl 0 rfl) ?_
                refine lv_iload hx hb dX9_layFrom_158 (lv_at hl 1 rfl) ?_
                refine lv_aload_n hx hb dX9_layFrom_160 rfl (lv_at hl 3 rfl) ?_
                refine va_get (D := D) (ci := 9) (v := .ref (q 18)) (C := RX9) (T := TX9) (N := 44) hx hb hts (fun _ h9 => List.mem_cons_of_mem _ (List.mem_append_right _ h9)) hown hK hP 0 mAt0 rfl 24 (by decide) (hts _ (List.mem_of_getElem? (l := wsX9_layFrom) (i := 4) rfl)) (fun _ h9 => h9) rfl dX9_layFrom_161 ?_
                refine lv_iload hx hb dX9_layFrom_164 (lv_at hl 0 rfl) ?_
                refine va_iald (D := D) hx hb hK hP 18 0 mAr18 rfl h.1 dX9_layFrom_166 ?_
                have h := h.2
                refine lv_icmp_ge (tgt := 175) hx hb dX9_layFrom_167 (by decide) (fun c16 => ?_) (fun c16 => ?_)
                · have h := h.1 c16
                  refine lv_aload_n hx hb dX9_layFrom_175 rfl (lv_at hl 3 rfl) ?_
                  refine va_get (D := D) (ci := 9) (v := .ref (q 18)) (C := RX9) (T := TX9) (N := 44) hx hb hts (fun _ h9 => List.mem_cons_of_mem _ (List.mem_append_right _ h9)) hown hK hP 0 mAt0 rfl 24 (by decide) (hts _ (List.mem_of_getElem? (l := wsX9_layFrom) (i := 4) rfl)) (fun _ h9 => h9) rfl dX9_layFrom_176 ?_
                  refine lv_iload hx hb dX9_layFrom_179 (lv_at hl 0 rfl) ?_
                  refine va_iald (D := D) hx hb hK hP 18 0 mAr18 rfl h.1 dX9_layFrom_181 ?_
                  have h := h.2
                  refine gAst (D := D) hx hb hK hP (mD hq) hS 18 0 mAr18 rfl h.1 dX9_layFrom_182 (mSA18 _) (fun H locs hP hS => ?_)
                  obtain ⟨F17, eF17⟩ : ∃ z : Nat → Nat → Int32, z = upF F15 18 (upd (F15 18) (v8).toNatClampNeg (F15 18 (v8).toNatClampNeg)) := ⟨_, rfl⟩
                  rw [← eF17] at hP
                  have h := h.2 F17 eF17
                  refine lv_iinc (v := (x7 + (1 : Int32))) (lv' := [(7, .int (x7 + (1 : Int32))), (10, .int v8), (9, .int v7), (8, .int r2), (0, .ref (q 0)), (1, .int x1), (2, .int x2), (3, .int x3), (4, .int x4), (5, .int x5), (6, .int x6)]) hx hb dX9_layFrom_183 hl (k := 10) rfl rfl (by decide) rfl (fun ls hl => ?_)
                  refine lv_goto (tgt := 27) hx hb dX9_layFrom_186 (by decide) ?_
                  exact ih x1 x2 x3 x4 x5 x6 _ (x7 + (1 : Int32)) I F17 hs _ _ _  hP hS (lv_sub hl [4, 5, 6, 7, 8, 9, 10, 0] rfl) h K
                · have h := h.2 c16
                  refine lv_iload hx hb dX9_layFrom_170 (lv_at hl 1 rfl) ?_
                  refine lv_goto (tgt := 182) hx hb dX9_layFrom_172 (by decide) ?_
                  refine gAst (D := D) hx hb hK hP (mD hq) hS 18 0 mAr18 rfl h.1 dX9_layFrom_182 (mSA18 _) (fun H locs hP hS => ?_)
                  obtain ⟨F18, eF18⟩ : ∃ z : Nat → Nat → Int32, z = upF F15 18 (upd (F15 18) (v8).toNatClampNeg v7) := ⟨_, rfl⟩
                  rw [← eF18] at hP
                  have h := h.2 F18 eF18
                  refine lv_iinc (v := (x7 + (1 : Int32))) (lv' := [(7, .int (x7 + (1 : Int32))), (10, .int v8), (9, .int v7), (8, .int r2), (0, .ref (q 0)), (1, .int x1), (2, .int x2), (3, .int x3), (4, .int x4), (5, .int x5), (6, .int x6)]) hx hb dX9_layFrom_183 hl (k := 10) rfl rfl (by decide) rfl (fun ls hl => ?_)
                  refine lv_goto (tgt := 27) hx hb dX9_layFrom_186 (by decide) ?_
                  exact ih x1 x2 x3 x4 x5 x6 _ (x7 + (1 : Int32)) I F18 hs _ _ _  hP hS (lv_sub hl [4, 5, 6, 7, 8, 9, 10, 0] rfl) h K
            · have h := h.2 c9
              refine lv_iload hx hb dX9_layFrom_111 (lv_at hl 7 rfl) ?_
              refine lv_goto (tgt := 151) hx hb dX9_layFrom_113 (by decide) ?_
              refine gAst (D := D) hx hb hK hP (mD hq) hS 19 0 mAr19 rfl h.1 dX9_layFrom_151 (mSA19 _) (fun H locs hP hS => ?_)
              obtain ⟨F19, eF19⟩ : ∃ z : Nat → Nat → Int32, z = upF F 19 (upd (F 19) (v8).toNatClampNeg x4) := ⟨_, rfl⟩
              rw [← eF19] at hP
              have h := h.2 F19 eF19
              refine lv_aload_n hx hb dX9_layFrom_152 rfl (lv_at hl 3 rfl) ?_
              refine va_get (D := D) (ci := 9) (v := .ref (q 18)) (C := RX9) (T := TX9) (N := 44) hx hb hts (fun _ h9 => List.mem_cons_of_mem _ (List.mem_append_right _ h9)) hown hK hP 0 mAt0 rfl 24 (by decide) (hts _ (List.mem_of_getElem? (l := wsX9_layFrom) (i := 4) rfl)) (fun _ h9 => h9) rfl dX9_layFrom_153 ?_
              refine lv_iload hx hb dX9_layFrom_156 (lv_at hl 0 rfl) ?_
              refine lv_iload hx hb dX9_layFrom_158 (lv_at hl 1 rfl) ?_
              refine lv_aload_n hx hb dX9_layFrom_160 rfl (lv_at hl 3 rfl) ?_
              refine va_get (D := D) (ci := 9) (v := .ref (q 18)) (C := RX9) (T := TX9) (N := 44) hx hb hts (fun _ h9 => List.mem_cons_of_mem _ (List.mem_append_right _ h9)) hown hK hP 0 mAt0 rfl 24 (by decide) (hts _ (List.mem_of_getElem? (l := wsX9_layFrom) (i := 4) rfl)) (fun _ h9 => h9) rfl dX9_layFrom_161 ?_
              refine lv_iload hx hb dX9_layFrom_164 (lv_at hl 0 rfl) ?_
              refine va_iald (D := D) hx hb hK hP 18 0 mAr18 rfl h.1 dX9_layFrom_166 ?_
              have h := h.2
              refine lv_icmp_ge (tgt := 175) hx hb dX9_layFrom_167 (by decide) (fun c20 => ?_) (fun c20 => ?_)
              · have h := h.1 c20
                refine lv_aload_n hx hb dX9_layFrom_175 rfl (lv_at hl 3 rfl) ?_
                refine va_get (D := D) (ci := 9) (v := .ref (q 18)) (C := RX9) (T := TX9) (N := 44) hx hb hts (fun _ h9 => List.mem_cons_of_mem _ (List.mem_append_right _ h9)) hown hK hP 0 mAt0 rfl 24 (by decide) (hts _ (List.mem_of_getElem? (l := wsX9_layFrom) (i := 4) rfl)) (fun _ h9 => h9) rfl dX9_layFrom_176 ?_
                refine lv_iload hx hb dX9_layFrom_179 (lv_at hl 0 rfl) ?_
                refine va_iald (D := D) hx hb hK hP 18 0 mAr18 rfl h.1 dX9_layFrom_181 ?_
                have h := h.2
                refine gAst (D := D) hx hb hK hP (mD hq) hS 18 0 mAr18 rfl h.1 dX9_layFrom_182 (mSA18 _) (fun H locs hP hS => ?_)
                obtain ⟨F21, eF21⟩ : ∃ z : Nat → Nat → Int32, z = upF F19 18 (upd (F19 18) (v8).toNatClampNeg (F19 18 (v8).toNatClampNeg)) := ⟨_, rfl⟩
                rw [← eF21] at hP
                have h := h.2 F21 eF21
                refine lv_iinc (v := (x7 + (1 : Int32))) (lv' := [(7, .int (x7 + (1 : Int32))), (10, .int v8), (9, .int v7), (8, .int r2), (0, .ref (q 0)), (1, .int x1), (2, .int x2), (3, .int x3), (4, .int x4), (5, .int x5), (6, .int x6)]) hx hb dX9_layFrom_183 hl (k := 10) rfl rfl (by decide) rfl (fun ls hl => ?_)
                refine lv_goto (tgt := 27) hx hb dX9_layFrom_186 (by decide) ?_
                exact ih x1 x2 x3 x4 x5 x6 _ (x7 + (1 : Int32)) I F21 hs _ _ _  hP hS (lv_sub hl [4, 5, 6, 7, 8, 9, 10, 0] rfl) h K
              · have h := h.2 c20
                refine lv_iload hx hb dX9_layFrom_170 (lv_at hl 1 rfl) ?_
                refine lv_goto (tgt := 182) hx hb dX9_layFrom_172 (by decide) ?_
                refine gAst (D := D) hx hb hK hP (mD hq) hS 18 0 mAr18 rfl h.1 dX9_layFrom_182 (mSA18 _) (fun H locs hP hS => ?_)
                obtain ⟨F22, eF22⟩ : ∃ z : Nat → Nat → Int32, z = upF F19 18 (upd (F19 18) (v8).toNatClampNeg v7) := ⟨_, rfl⟩
                rw [← eF22] at hP
                have h := h.2 F22 eF22
                refine lv_iinc (v := (x7 + (1 : Int32))) (lv' := [(7, .int (x7 + (1 : Int32))), (10, .int v8), (9, .int v7), (8, .int r2), (0, .ref (q 0)), (1, .int x1), (2, .int x2), (3, .int x3), (4, .int x4), (5, .int x5), (6, .int x6)]) hx hb dX9_layFrom_183 hl (k := 10) rfl rfl (by decide) rfl (fun ls hl => ?_)
                refine lv_goto (tgt := 27) hx hb dX9_layFrom_186 (by decide) ?_
                exact ih x1 x2 x3 x4 x5 x6 _ (x7 + (1 : Int32)) I F22 hs _ _ _  hP hS (lv_sub hl [4, 5, 6, 7, 8, 9, 10, 0] rfl) h K
  refine lv_aload_n hx hb dX9_layFrom_0 rfl (lv_at hl 0 rfl) ?_
  refine lv_iload_n hx hb dX9_layFrom_1 rfl (lv_at hl 1 rfl) ?_
  refine lv_aload_n hx hb dX9_layFrom_2 rfl (lv_at hl 0 rfl) ?_
  refine lv_iload_n hx hb dX9_layFrom_3 rfl (lv_at hl 2 rfl) ?_
  refine lv_iconst (v := (0 : Int32)) hx hb dX9_layFrom_4 (by decide) ?_
  refine gCallI (D := D) (va_runV (As := [.int a2, .int (0 : Int32)]) (rest := [.int a1, .ref (q 0)]) ⟨hx, hb, hml, hown, hts⟩ (c_X9_heldBy l D q cI cO hq a2 (0 : Int32)  I F hs _ h) (cwV 2 hts gX9_layFrom_X9_heldBy rfl rfl rfl (by decide +kernel) ⟨Nat.le_trans (Nat.le_of_ble_eq_true rfl) hRf, Nat.le_trans (Nat.le_of_ble_eq_true rfl) hRl⟩) (gPreV (ci := 9) (q0 := 0) mEok hE hK hP hS rfl mAt0) rfl rfl hl.1 rfl (lv_room (Nat.le_of_ble_eq_true rfl)) dX9_layFrom_5 ⟨Nat.zero_le _, Nat.zero_le _⟩) hS (fun r23 _ H locs hP hS h => ?_)
  have hP : va_P D vwCl (mW q cI cO I F hs) H := hP
  refine gCallI (D := D) (va_runV (As := [.int a1, .int r23]) (rest := []) ⟨hx, hb, hml, hown, hts⟩ (c_X9_heldPedals l D q cI cO hq a1 r23  I F hs _ h) (cwV 2 hts gX9_layFrom_X9_heldPedals rfl rfl rfl (by decide +kernel) ⟨Nat.le_trans (Nat.le_of_ble_eq_true rfl) hRf, Nat.le_trans (Nat.le_of_ble_eq_true rfl) hRl⟩) (gPreV (ci := 9) (q0 := 0) mEok hE hK hP hS rfl mAt0) rfl rfl hl.1 rfl (lv_room (Nat.le_of_ble_eq_true rfl)) dX9_layFrom_8 ⟨Nat.zero_le _, Nat.zero_le _⟩) hS (fun r24 _ H locs hP hS h => ?_)
  have hP : va_P D vwCl (mW q cI cO I F hs) H := hP
  refine lv_istore (lv' := [(5, .int r24), (0, .ref (q 0)), (1, .int a1), (2, .int a2), (3, .int a3), (4, .int a4)]) hx hb dX9_layFrom_11 hl (by decide) rfl (fun ls hl => ?_)
  refine lv_aload_n hx hb dX9_layFrom_13 rfl (lv_at hl 1 rfl) ?_
  refine va_get (D := D) (ci := 9) (v := .ref (q 14)) (C := RX9) (T := TX9) (N := 44) hx hb hts (fun _ h9 => List.mem_cons_of_mem _ (List.mem_append_right _ h9)) hown hK hP 0 mAt0 rfl 19 (by decide) (hts _ (List.mem_of_getElem? (l := wsX9_layFrom) (i := 1) rfl)) (fun _ h9 => h9) rfl dX9_layFrom_14 ?_
  refine lv_iload_n hx hb dX9_layFrom_17 rfl (lv_at hl 3 rfl) ?_
  refine va_iald (D := D) hx hb hK hP 14 0 mAr14 rfl h.1 dX9_layFrom_18 ?_
  have h := h.2
  refine gCallI (D := D) (va_runS (As := [.int (F 14 (a2).toNatClampNeg)]) (rest := []) ⟨hx, hb, hml, hown, hts⟩ (c_X9_mostOf l D q cI cO hq (F 14 (a2).toNatClampNeg)  I F hs _ h) (va_cwS 1 hts gX9_layFrom_X9_mostOf rfl rfl rfl (by decide +kernel) ⟨Nat.le_trans (Nat.le_of_ble_eq_true rfl) hRf, Nat.le_trans (Nat.le_of_ble_eq_true rfl) hRl⟩) (gPreS mEok hE hK hP hS) rfl rfl hl.1 rfl (lv_room (Nat.le_of_ble_eq_true rfl)) dX9_layFrom_19 ⟨Nat.zero_le _, Nat.zero_le _⟩) hS (fun r25 _ H locs hP hS h => ?_)
  have hP : va_P D vwCl (mW q cI cO I F hs) H := hP
  refine lv_istore (lv' := [(6, .int r25), (5, .int r24), (0, .ref (q 0)), (1, .int a1), (2, .int a2), (3, .int a3), (4, .int a4)]) hx hb dX9_layFrom_22 hl (by decide) rfl (fun ls hl => ?_)
  refine lv_iconst (v := (0 : Int32)) hx hb dX9_layFrom_24 (by decide) ?_
  refine lv_istore (lv' := [(7, .int (0 : Int32)), (6, .int r25), (5, .int r24), (0, .ref (q 0)), (1, .int a1), (2, .int a2), (3, .int a3), (4, .int a4)]) hx hb dX9_layFrom_25 hl (by decide) rfl (fun ls hl => ?_)
  obtain ⟨n, h⟩ := h
  refine L27 n a1 a2 a3 a4 r24 r25 _ (0 : Int32) I F hs _ _ _  hP hS (lv_sub hl [3, 4, 5, 6, 7, 2, 1, 0] rfl) h (fun y26 I27 F28 hs29 H locs ls  hP hS hl h => ?_)
  exact hret (I27, F28, hs29) _ _ _ _ dX9_layFrom_189 hP hS h
def w_X9_layCost_B58 (x1 : Int32) (k again : Int32 → (Nat → Int32) → (Nat → Nat → Int32) → Int64 → Prop) (x2 : Int32) (I : Nat → Int32) (F : Nat → Nat → Int32) (hs : Int64) : Prop :=
  (((2187 : Int32) ≤ x2 → k x2 I F hs) ∧ (¬ (2187 : Int32) ≤ x2 → ∀ v2 : Int32, v2 = (((2187 : Int32) * (x1 - (1 : Int32))) + x2) → vp_in v2 17496 ∧ (((99999 : Int32) ≤ (F 18 (v2).toNatClampNeg) → again (x2 + (1 : Int32)) I F hs) ∧ (¬ (99999 : Int32) ≤ (F 18 (v2).toNatClampNeg) → vp_in v2 17496 ∧ vp_in v2 17496 ∧ w_X9_layFrom x2 x1 (F 18 (v2).toNatClampNeg) (F 19 (v2).toNatClampNeg) I F hs (fun (I4 : Nat → Int32) (F5 : Nat → Nat → Int32) (hs6 : Int64) => again (x2 + (1 : Int32)) I4 F5 hs6)))))
def w_X9_layCost_B48  (k again : Int32 → (Nat → Int32) → (Nat → Nat → Int32) → Int64 → Prop) (x1 : Int32) (I : Nat → Int32) (F : Nat → Nat → Int32) (hs : Int64) : Prop :=
  (((I 3) ≤ x1 → k x1 I F hs) ∧ (¬ (I 3) ≤ x1 → gL (fun ag v => w_X9_layCost_B58 x1 (fun (y8 : Int32) (I9 : Nat → Int32) (F10 : Nat → Nat → Int32) (hs11 : Int64) => again (x1 + (1 : Int32)) I9 F10 hs11) (fun b0 b1 b2 b3 => ag (b0, b1, b2, b3)) v.1 v.2.1 v.2.2.1 v.2.2.2) ((0 : Int32), I, F, hs)))
def w_X9_layCost_B2  (k again : Int32 → (Nat → Int32) → (Nat → Nat → Int32) → Int64 → Prop) (x1 : Int32) (I : Nat → Int32) (F : Nat → Nat → Int32) (hs : Int64) : Prop :=
  ((((2187 : Int32) * (I 3)) ≤ x1 → k x1 I F hs) ∧ (¬ ((2187 : Int32) * (I 3)) ≤ x1 → vp_in x1 17496 ∧ ∀ F13 : Nat → Nat → Int32, F13 = upF F 18 (upd (F 18) (x1).toNatClampNeg (99999 : Int32)) → vp_in x1 17496 ∧ ∀ F14 : Nat → Nat → Int32, F14 = upF F13 19 (upd (F13 19) (x1).toNatClampNeg (0 : Int32)) → again (x1 + (1 : Int32)) I F14 hs))
def w_X9_layCost  (I : Nat → Int32) (F : Nat → Nat → Int32) (hs : Int64) (post : (Nat → Int32) → (Nat → Nat → Int32) → Int64 → Prop) : Prop :=
  gL (fun ag v => w_X9_layCost_B2  (fun (y15 : Int32) (I16 : Nat → Int32) (F17 : Nat → Nat → Int32) (hs18 : Int64) => w_X9_layFrom (I16 4) (0 : Int32) (0 : Int32) (1 : Int32) I16 F17 hs18 (fun (I19 : Nat → Int32) (F20 : Nat → Nat → Int32) (hs21 : Int64) => gL (fun ag v => w_X9_layCost_B48  (fun (y22 : Int32) (I23 : Nat → Int32) (F24 : Nat → Nat → Int32) (hs25 : Int64) => post I23 F24 hs25) (fun b0 b1 b2 b3 => ag (b0, b1, b2, b3)) v.1 v.2.1 v.2.2.1 v.2.2.2) ((1 : Int32), I19, F20, hs21))) (fun b0 b1 b2 b3 => ag (b0, b1, b2, b3)) v.1 v.2.1 v.2.2.1 v.2.2.2) ((0 : Int32), I, F, hs)
set_option maxHeartbeats 4000000 in
set_option maxRecDepth 100000 in
theorem c_X9_layCost (l : Launch) (D : va_G) (q : Nat → Nat) (cI cO : ClassId) (hq : mOk q)   (I : Nat → Int32) (F : Nat → Nat → Int32) (hs : Int64) (post : (Nat → Int32) → (Nat → Nat → Int32) → Int64 → Prop) (h : w_X9_layCost  I F hs post) : Met l yX9_layCost wsX9_layCost ({ frames := 3, cells := 0, slots := 0, locals := 76 } : Room) (gPre D (mTys cI) (mW q cI cO I F hs) mEnv [.ref (q 0)]) (va_Qv (fun (u : mS) => post u.1 u.2.1 u.2.2) (gB D (fun u : mS => mW q cI cO u.1 u.2.1 u.2.2)) (mA q)) 0 0 (mA q) := by
  refine gMetV (by decide) rfl (Nat.le_of_ble_eq_true rfl) ?_
  intro p e R s m args below meth c Q ls hR hx hb hml hown hts hK hE hP hl hret
  have hRf : 3 ≤ R.frames := by subst hR; exact Nat.le_refl _
  have hRl : 76 ≤ R.locals := by subst hR; exact Nat.le_refl _
  have hown : s.vm.findClass RX9 = some m.cls := hown
  have hl : lv_has ls 4 [(0, .ref (q 0))] := hl
  have hS : va_S (mA q) s.heap s.heap [] := va_S.rf
  have hP : va_P D vwCl (mW q cI cO I F hs) s.heap := hP
  have L58 : ∀ (n : Nat) (x1 : Int32) (k : Int32 → (Nat → Int32) → (Nat → Nat → Int32) → Int64 → Prop) (x2 : Int32) (I : Nat → Int32) (F : Nat → Nat → Int32) (hs : Int64) (H : Heap) (locs : List Loc) (ls : Array Slot), va_P D vwCl (mW q cI cO I F hs) H → va_S (mA q) s.heap H locs → lv_has ls 4 [(0, .ref (q 0)), (1, .int x1), (2, .int x2)] → gLN (fun ag v => w_X9_layCost_B58 x1 k (fun b0 b1 b2 b3 => ag (b0, b1, b2, b3)) v.1 v.2.1 v.2.2.1 v.2.2.2) n (x2, I, F, hs) → (∀ (x2 : Int32) (I : Nat → Int32) (F : Nat → Nat → Int32) (hs : Int64) (H : Heap) (locs : List Loc) (ls : Array Slot), va_P D vwCl (mW q cI cO I F hs) H → va_S (mA q) s.heap H locs → lv_has ls 4 [(0, .ref (q 0)), (1, .int x1)] → k x2 I F hs → W p l e R s m args below meth c H locs 0 0 Q (F0 m 110 ls [])) → W p l e R s m args below meth c H locs 0 0 Q (F0 m 58 ls []) := by
    intro n
    induction n with
    | zero =>
      intro x1 k x2 I F hs H locs ls  hP hS hl h K
      exact False.elim h
    | succ n ih =>
      intro x1 k x2 I F hs H locs ls  hP hS hl h K
      have h : w_X9_layCost_B58 x1 k (fun b0 b1 b2 b3 => gLN (fun ag v => w_X9_layCost_B58 x1 k (fun b0 b1 b2 b3 => ag (b0, b1, b2, b3)) v.1 v.2.1 v.2.2.1 v.2.2.2) n (b0, b1, b2, b3)) x2 I F hs := h
      refine lv_iload_n hx hb dX9_layCost_58 rfl (lv_at hl 2 rfl) ?_
      refine lv_sipush (v := (2187 : Int32)) hx hb dX9_layCost_59 (by decide) ?_
      refine lv_icmp_ge (tgt := 110) hx hb dX9_layCost_62 (by decide) (fun c1 => ?_) (fun c1 => ?_)
      · have h := h.1 c1
        exact K x2 I F hs _ _ _  hP hS (lv_sub hl [0, 1] rfl) h
      · have h := h.2 c1
        refine lv_sipush (v := (2187 : Int32)) hx hb dX9_layCost_65 (by decide) ?_
        refine lv_iload_n hx hb dX9_layCost_68 rfl (lv_at hl 1 rfl) ?_
        refine lv_iconst (v := (1 : Int32)) hx hb dX9_layCost_69 (by decide) ?_
        refine lv_isub hx hb dX9_layCost_70 ?_
        refine lv_imul hx hb dX9_layCost_71 ?_
        refine lv_iload_n hx hb dX9_layCost_72 rfl (lv_at hl 2 rfl) ?_
        refine lv_iadd hx hb dX9_layCost_73 ?_
        refine lv_topi (fun v2 ev2 => ?_)
        have h := h v2 ev2
        refine lv_istore_n (lv' := [(3, .int v2), (0, .ref (q 0)), (1, .int x1), (2, .int x2)]) hx hb dX9_layCost_74 rfl hl (by decide) rfl (fun ls hl => ?_)
        refine lv_aload_n hx hb dX9_layCost_75 rfl (lv_at hl 1 rfl) ?_
        refine va_get (D := D) (ci := 9) (v := .ref (q 18)) (C := RX9) (T := TX9) (N := 44) hx hb hts (fun _ h9 => List.mem_cons_of_mem _ (List.mem_append_right _ h9)) hown hK hP 0 mAt0 rfl 24 (by decide) (hts _ (List.mem_of_getElem? (l := wsX9_layCost) (i := 2) rfl)) (fun _ h9 => h9) rfl dX9_layCost_76 ?_
        refine lv_iload_n hx hb dX9_layCost_79 rfl (lv_at hl 0 rfl) ?_
        refine va_iald (D := D) hx hb hK hP 18 0 mAr18 rfl h.1 dX9_layCost_80 ?_
        have h := h.2
        refine lv_ldc (v := (99999 : Int32)) hx hb hown (hts _ (List.mem_of_getElem? (l := wsX9_layCost) (i := 3) rfl)) dX9_layCost_81 ?_
        refine lv_icmp_ge (tgt := 104) hx hb dX9_layCost_83 (by decide) (fun c3 => ?_) (fun c3 => ?_)
        · have h := h.1 c3
          refine lv_iinc (v := (x2 + (1 : Int32))) (lv' := [(2, .int (x2 + (1 : Int32))), (3, .int v2), (0, .ref (q 0)), (1, .int x1)]) hx hb dX9_layCost_104 hl (k := 3) rfl rfl (by decide) rfl (fun ls hl => ?_)
          refine lv_goto (tgt := 58) hx hb dX9_layCost_107 (by decide) ?_
          exact ih x1 _ (x2 + (1 : Int32)) I F hs _ _ _  hP hS (lv_sub hl [2, 3, 0] rfl) h K
        · have h := h.2 c3
          refine lv_aload_n hx hb dX9_layCost_86 rfl (lv_at hl 1 rfl) ?_
          refine lv_iload_n hx hb dX9_layCost_87 rfl (lv_at hl 3 rfl) ?_
          refine lv_iload_n hx hb dX9_layCost_88 rfl (lv_at hl 2 rfl) ?_
          refine lv_aload_n hx hb dX9_layCost_89 rfl (lv_at hl 1 rfl) ?_
          refine va_get (D := D) (ci := 9) (v := .ref (q 18)) (C := RX9) (T := TX9) (N := 44) hx hb hts (fun _ h9 => List.mem_cons_of_mem _ (List.mem_append_right _ h9)) hown hK hP 0 mAt0 rfl 24 (by decide) (hts _ (List.mem_of_getElem? (l := wsX9_layCost) (i := 2) rfl)) (fun _ h9 => h9) rfl dX9_layCost_90 ?_
          refine lv_iload_n hx hb dX9_layCost_93 rfl (lv_at hl 0 rfl) ?_
          refine va_iald (D := D) hx hb hK hP 18 0 mAr18 rfl h.1 dX9_layCost_94 ?_
          have h := h.2
          refine lv_aload_n hx hb dX9_layCost_95 rfl (lv_at hl 1 rfl) ?_
          refine va_get (D := D) (ci := 9) (v := .ref (q 19)) (C := RX9) (T := TX9) (N := 44) hx hb hts (fun _ h9 => List.mem_cons_of_mem _ (List.mem_append_right _ h9)) hown hK hP 0 mAt0 rfl 25 (by decide) (hts _ (List.mem_of_getElem? (l := wsX9_layCost) (i := 4) rfl)) (fun _ h9 => h9) rfl dX9_layCost_96 ?_
          refine lv_iload_n hx hb dX9_layCost_99 rfl (lv_at hl 0 rfl) ?_
          refine va_iald (D := D) hx hb hK hP 19 0 mAr19 rfl h.1 dX9_layCost_100 ?_
          have h := h.2
          refine gCallV (D := D) (va_runV (As := [.int x2, .int x1, .int (F 18 (v2).toNatClampNeg), .int (F 19 (v2).toNatClampNeg)]) (rest := []) ⟨hx, hb, hml, hown, hts⟩ (c_X9_layFrom l D q cI cO hq x2 x1 (F 18 (v2).toNatClampNeg) (F 19 (v2).toNatClampNeg)  I F hs _ h) (cwV 4 hts gX9_layCost_X9_layFrom rfl rfl rfl (by decide +kernel) ⟨Nat.le_trans (Nat.le_of_ble_eq_true rfl) hRf, Nat.le_trans (Nat.le_of_ble_eq_true rfl) hRl⟩) (gPreV (ci := 9) (q0 := 0) mEok hE hK hP hS rfl mAt0) rfl rfl hl.1 rfl (lv_room (Nat.le_of_ble_eq_true rfl)) dX9_layCost_101 ⟨Nat.zero_le _, Nat.zero_le _⟩) hS (fun u H locs hP hS h => ?_)
          obtain ⟨I4, F5, hs6⟩ := u
          have hP : va_P D vwCl (mW q cI cO I4 F5 hs6) H := hP
          refine lv_iinc (v := (x2 + (1 : Int32))) (lv' := [(2, .int (x2 + (1 : Int32))), (3, .int v2), (0, .ref (q 0)), (1, .int x1)]) hx hb dX9_layCost_104 hl (k := 3) rfl rfl (by decide) rfl (fun ls hl => ?_)
          refine lv_goto (tgt := 58) hx hb dX9_layCost_107 (by decide) ?_
          exact ih x1 _ (x2 + (1 : Int32)) I4 F5 hs6 _ _ _  hP hS (lv_sub hl [2, 3, 0] rfl) h K
  have L48 : ∀ (n : Nat)  (k : Int32 → (Nat → Int32) → (Nat → Nat → Int32) → Int64 → Prop) (x1 : Int32) (I : Nat → Int32) (F : Nat → Nat → Int32) (hs : Int64) (H : Heap) (locs : List Loc) (ls : Array Slot), va_P D vwCl (mW q cI cO I F hs) H → va_S (mA q) s.heap H locs → lv_has ls 4 [(0, .ref (q 0)), (1, .int x1)] → gLN (fun ag v => w_X9_layCost_B48  k (fun b0 b1 b2 b3 => ag (b0, b1, b2, b3)) v.1 v.2.1 v.2.2.1 v.2.2.2) n (x1, I, F, hs) → (∀ (x1 : Int32) (I : Nat → Int32) (F : Nat → Nat → Int32) (hs : Int64) (H : Heap) (locs : List Loc) (ls : Array Slot), va_P D vwCl (mW q cI cO I F hs) H → va_S (mA q) s.heap H locs → lv_has ls 4 [] → k x1 I F hs → W p l e R s m args below meth c H locs 0 0 Q (F0 m 116 ls [])) → W p l e R s m args below meth c H locs 0 0 Q (F0 m 48 ls []) := by
    intro n
    induction n with
    | zero =>
      intro  k x1 I F hs H locs ls  hP hS hl h K
      exact False.elim h
    | succ n ih =>
      intro  k x1 I F hs H locs ls  hP hS hl h K
      have h : w_X9_layCost_B48  k (fun b0 b1 b2 b3 => gLN (fun ag v => w_X9_layCost_B48  k (fun b0 b1 b2 b3 => ag (b0, b1, b2, b3)) v.1 v.2.1 v.2.2.1 v.2.2.2) n (b0, b1, b2, b3)) x1 I F hs := h
      refine lv_iload_n hx hb dX9_layCost_48 rfl (lv_at hl 1 rfl) ?_
      refine lv_aload_n hx hb dX9_layCost_49 rfl (lv_at hl 0 rfl) ?_
      refine va_get (D := D) (ci := 9) (v := .int (I 3)) (C := RX9) (T := TX9) (N := 44) hx hb hts (fun _ h9 => List.mem_cons_of_mem _ (List.mem_append_right _ h9)) hown hK hP 0 mAt0 rfl 16 (by decide) (hts _ (List.mem_of_getElem? (l := wsX9_layCost) (i := 1) rfl)) (fun _ h9 => h9) rfl dX9_layCost_50 ?_
      refine lv_icmp_ge (tgt := 116) hx hb dX9_layCost_53 (by decide) (fun c7 => ?_) (fun c7 => ?_)
      · have h := h.1 c7
        exact K x1 I F hs _ _ _  hP hS (lv_sub hl [] rfl) h
      · have h := h.2 c7
        refine lv_iconst (v := (0 : Int32)) hx hb dX9_layCost_56 (by decide) ?_
        refine lv_istore_n (lv' := [(2, .int (0 : Int32)), (0, .ref (q 0)), (1, .int x1)]) hx hb dX9_layCost_57 rfl hl (by decide) rfl (fun ls hl => ?_)
        obtain ⟨n, h⟩ := h
        refine L58 n x1 _ (0 : Int32) I F hs _ _ _  hP hS (lv_sub hl [1, 2, 0] rfl) h (fun y8 I9 F10 hs11 H locs ls  hP hS hl h => ?_)
        refine lv_iinc (v := (x1 + (1 : Int32))) (lv' := [(1, .int (x1 + (1 : Int32))), (0, .ref (q 0))]) hx hb dX9_layCost_110 hl (k := 1) rfl rfl (by decide) rfl (fun ls hl => ?_)
        refine lv_goto (tgt := 48) hx hb dX9_layCost_113 (by decide) ?_
        exact ih  _ (x1 + (1 : Int32)) I9 F10 hs11 _ _ _  hP hS (lv_sub hl [1, 0] rfl) h K
  have L2 : ∀ (n : Nat)  (k : Int32 → (Nat → Int32) → (Nat → Nat → Int32) → Int64 → Prop) (x1 : Int32) (I : Nat → Int32) (F : Nat → Nat → Int32) (hs : Int64) (H : Heap) (locs : List Loc) (ls : Array Slot), va_P D vwCl (mW q cI cO I F hs) H → va_S (mA q) s.heap H locs → lv_has ls 4 [(0, .ref (q 0)), (1, .int x1)] → gLN (fun ag v => w_X9_layCost_B2  k (fun b0 b1 b2 b3 => ag (b0, b1, b2, b3)) v.1 v.2.1 v.2.2.1 v.2.2.2) n (x1, I, F, hs) → (∀ (x1 : Int32) (I : Nat → Int32) (F : Nat → Nat → Int32) (hs : Int64) (H : Heap) (locs : List Loc) (ls : Array Slot), va_P D vwCl (mW q cI cO I F hs) H → va_S (mA q) s.heap H locs → lv_has ls 4 [(0, .ref (q 0))] → k x1 I F hs → W p l e R s m args below meth c H locs 0 0 Q (F0 m 35 ls [])) → W p l e R s m args below meth c H locs 0 0 Q (F0 m 2 ls []) := by
    intro n
    induction n with
    | zero =>
      intro  k x1 I F hs H locs ls  hP hS hl h K
      exact False.elim h
    | succ n ih =>
      intro  k x1 I F hs H locs ls  hP hS hl h K
      have h : w_X9_layCost_B2  k (fun b0 b1 b2 b3 => gLN (fun ag v => w_X9_layCost_B2  k (fun b0 b1 b2 b3 => ag (b0, b1, b2, b3)) v.1 v.2.1 v.2.2.1 v.2.2.2) n (b0, b1, b2, b3)) x1 I F hs := h
      refine lv_iload_n hx hb dX9_layCost_2 rfl (lv_at hl 1 rfl) ?_
      refine lv_sipush (v := (2187 : Int32)) hx hb dX9_layCost_3 (by decide) ?_
      refine lv_aload_n hx hb dX9_layCost_6 rfl (lv_at hl 0 rfl) ?_
      refine va_get (D := D) (ci := 9) (v := .int (I 3)) (C := RX9) (T := TX9) (N := 44) hx hb hts (fun _ h9 => List.mem_cons_of_mem _ (List.mem_append_right _ h9)) hown hK hP 0 mAt0 rfl 16 (by decide) (hts _ (List.mem_of_getElem? (l := wsX9_layCost) (i := 1) rfl)) (fun _ h9 => h9) rfl dX9_layCost_7 ?_
      refine lv_imul hx hb dX9_layCost_10 ?_
      refine lv_icmp_ge (tgt := 35) hx hb dX9_layCost_11 (by decide) (fun c12 => ?_) (fun c12 => ?_)
      · have h := h.1 c12
        exact K x1 I F hs _ _ _  hP hS (lv_sub hl [0] rfl) h
      · have h := h.2 c12
        refine lv_aload_n hx hb dX9_layCost_14 rfl (lv_at hl 0 rfl) ?_
        refine va_get (D := D) (ci := 9) (v := .ref (q 18)) (C := RX9) (T := TX9) (N := 44) hx hb hts (fun _ h9 => List.mem_cons_of_mem _ (List.mem_append_right _ h9)) hown hK hP 0 mAt0 rfl 24 (by decide) (hts _ (List.mem_of_getElem? (l := wsX9_layCost) (i := 2) rfl)) (fun _ h9 => h9) rfl dX9_layCost_15 ?_
        refine lv_iload_n hx hb dX9_layCost_18 rfl (lv_at hl 1 rfl) ?_
        refine lv_ldc (v := (99999 : Int32)) hx hb hown (hts _ (List.mem_of_getElem? (l := wsX9_layCost) (i := 3) rfl)) dX9_layCost_19 ?_
        refine gAst (D := D) hx hb hK hP (mD hq) hS 18 0 mAr18 rfl h.1 dX9_layCost_21 (mSA18 _) (fun H locs hP hS => ?_)
        obtain ⟨F13, eF13⟩ : ∃ z : Nat → Nat → Int32, z = upF F 18 (upd (F 18) (x1).toNatClampNeg (99999 : Int32)) := ⟨_, rfl⟩
        rw [← eF13] at hP
        have h := h.2 F13 eF13
        refine lv_aload_n hx hb dX9_layCost_22 rfl (lv_at hl 0 rfl) ?_
        refine va_get (D := D) (ci := 9) (v := .ref (q 19)) (C := RX9) (T := TX9) (N := 44) hx hb hts (fun _ h9 => List.mem_cons_of_mem _ (List.mem_append_right _ h9)) hown hK hP 0 mAt0 rfl 25 (by decide) (hts _ (List.mem_of_getElem? (l := wsX9_layCost) (i := 4) rfl)) (fun _ h9 => h9) rfl dX9_layCost_23 ?_
        refine lv_iload_n hx hb dX9_layCost_26 rfl (lv_at hl 1 rfl) ?_
        refine lv_iconst (v := (0 : Int32)) hx hb dX9_layCost_27 (by decide) ?_
        refine gAst (D := D) hx hb hK hP (mD hq) hS 19 0 mAr19 rfl h.1 dX9_layCost_28 (mSA19 _) (fun H locs hP hS => ?_)
        obtain ⟨F14, eF14⟩ : ∃ z : Nat → Nat → Int32, z = upF F13 19 (upd (F13 19) (x1).toNatClampNeg (0 : Int32)) := ⟨_, rfl⟩
        rw [← eF14] at hP
        have h := h.2 F14 eF14
        refine lv_iinc (v := (x1 + (1 : Int32))) (lv' := [(1, .int (x1 + (1 : Int32))), (0, .ref (q 0))]) hx hb dX9_layCost_29 hl (k := 1) rfl rfl (by decide) rfl (fun ls hl => ?_)
        refine lv_goto (tgt := 2) hx hb dX9_layCost_32 (by decide) ?_
        exact ih  _ (x1 + (1 : Int32)) I F14 hs _ _ _  hP hS (lv_sub hl [1, 0] rfl) h K
  refine lv_iconst (v := (0 : Int32)) hx hb dX9_layCost_0 (by decide) ?_
  refine lv_istore_n (lv' := [(1, .int (0 : Int32)), (0, .ref (q 0))]) hx hb dX9_layCost_1 rfl hl (by decide) rfl (fun ls hl => ?_)
  obtain ⟨n, h⟩ := h
  refine L2 n  _ (0 : Int32) I F hs _ _ _  hP hS (lv_sub hl [1, 0] rfl) h (fun y15 I16 F17 hs18 H locs ls  hP hS hl h => ?_)
  refine lv_aload_n hx hb dX9_layCost_35 rfl (lv_at hl 0 rfl) ?_
  refine lv_aload_n hx hb dX9_layCost_36 rfl (lv_at hl 0 rfl) ?_
  refine va_get (D := D) (ci := 9) (v := .int (I16 4)) (C := RX9) (T := TX9) (N := 44) hx hb hts (fun _ h9 => List.mem_cons_of_mem _ (List.mem_append_right _ h9)) hown hK hP 0 mAt0 rfl 17 (by decide) (hts _ (List.mem_of_getElem? (l := wsX9_layCost) (i := 5) rfl)) (fun _ h9 => h9) rfl dX9_layCost_37 ?_
  refine lv_iconst (v := (0 : Int32)) hx hb dX9_layCost_40 (by decide) ?_
  refine lv_iconst (v := (0 : Int32)) hx hb dX9_layCost_41 (by decide) ?_
  refine lv_iconst (v := (1 : Int32)) hx hb dX9_layCost_42 (by decide) ?_
  refine gCallV (D := D) (va_runV (As := [.int (I16 4), .int (0 : Int32), .int (0 : Int32), .int (1 : Int32)]) (rest := []) ⟨hx, hb, hml, hown, hts⟩ (c_X9_layFrom l D q cI cO hq (I16 4) (0 : Int32) (0 : Int32) (1 : Int32)  I16 F17 hs18 _ h) (cwV 4 hts gX9_layCost_X9_layFrom rfl rfl rfl (by decide +kernel) ⟨Nat.le_trans (Nat.le_of_ble_eq_true rfl) hRf, Nat.le_trans (Nat.le_of_ble_eq_true rfl) hRl⟩) (gPreV (ci := 9) (q0 := 0) mEok hE hK hP hS rfl mAt0) rfl rfl hl.1 rfl (lv_room (Nat.le_of_ble_eq_true rfl)) dX9_layCost_43 ⟨Nat.zero_le _, Nat.zero_le _⟩) hS (fun u H locs hP hS h => ?_)
  obtain ⟨I19, F20, hs21⟩ := u
  have hP : va_P D vwCl (mW q cI cO I19 F20 hs21) H := hP
  refine lv_iconst (v := (1 : Int32)) hx hb dX9_layCost_46 (by decide) ?_
  refine lv_istore_n (lv' := [(1, .int (1 : Int32)), (0, .ref (q 0))]) hx hb dX9_layCost_47 rfl hl (by decide) rfl (fun ls hl => ?_)
  obtain ⟨n, h⟩ := h
  refine L48 n  _ (1 : Int32) I19 F20 hs21 _ _ _  hP hS (lv_sub hl [1, 0] rfl) h (fun y22 I23 F24 hs25 H locs ls  hP hS hl h => ?_)
  exact hret (I23, F24, hs25) _ _ _ _ dX9_layCost_116 hP hS h
