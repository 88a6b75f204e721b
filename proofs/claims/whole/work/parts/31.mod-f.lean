def w_X9_layBest_B55 (x1 : Int32) (x2 : Int32) (x3 : Int32) (x4 : Int32) (x5 : Int32) (I : Nat → Int32) (F : Nat → Nat → Int32) (hs : Int64) (k again : Int32 → Int32 → Int32 → Prop) (x6 : Int32) (x7 : Int32) (x8 : Int32) : Prop :=
  (((63 : Int32) ≤ x8 → k x6 x7 x8) ∧ (¬ (63 : Int32) ≤ x8 → (((99999 : Int32) ≤ (I 7) → k x6 x7 x8) ∧ (¬ (99999 : Int32) ≤ (I 7) → w_X9_after x1 x8 I F hs (fun (r3 : Int32) => vp_in (((2187 : Int32) * x3) + r3) 17496 ∧ ((¬ (F 16 ((((2187 : Int32) * x3) + r3)).toNatClampNeg) = (1 : Int32) → (((0 : Int32) = 0 → (((0 : Int32) = 0 → again x6 x7 (x8 + (1 : Int32))) ∧ (¬ (0 : Int32) = 0 → ((x6 ≤ r3 → again x6 x7 (x8 + (1 : Int32))) ∧ (¬ x6 ≤ r3 → again r3 x7 (x8 + (1 : Int32))))))) ∧ (¬ (0 : Int32) = 0 → ((x6 ≤ r3 → (((0 : Int32) = 0 → again x6 x7 (x8 + (1 : Int32))) ∧ (¬ (0 : Int32) = 0 → ((x6 ≤ r3 → again x6 x7 (x8 + (1 : Int32))) ∧ (¬ x6 ≤ r3 → again r3 x7 (x8 + (1 : Int32))))))) ∧ (¬ x6 ≤ r3 → w_X9_movedBy x8 I F hs (fun (r11 : Int32) => (((0 : Int32) = 0 → again x6 r11 (x8 + (1 : Int32))) ∧ (¬ (0 : Int32) = 0 → ((x6 ≤ r3 → again x6 r11 (x8 + (1 : Int32))) ∧ (¬ x6 ≤ r3 → again r3 r11 (x8 + (1 : Int32)))))))))))) ∧ ((F 16 ((((2187 : Int32) * x3) + r3)).toNatClampNeg) = (1 : Int32) → w_X9_can x8 x5 x4 I F hs (fun (r14 : Int32) => ((r14 = 0 → (((0 : Int32) = 0 → (((0 : Int32) = 0 → again x6 x7 (x8 + (1 : Int32))) ∧ (¬ (0 : Int32) = 0 → ((x6 ≤ r3 → again x6 x7 (x8 + (1 : Int32))) ∧ (¬ x6 ≤ r3 → again r3 x7 (x8 + (1 : Int32))))))) ∧ (¬ (0 : Int32) = 0 → ((x6 ≤ r3 → (((0 : Int32) = 0 → again x6 x7 (x8 + (1 : Int32))) ∧ (¬ (0 : Int32) = 0 → ((x6 ≤ r3 → again x6 x7 (x8 + (1 : Int32))) ∧ (¬ x6 ≤ r3 → again r3 x7 (x8 + (1 : Int32))))))) ∧ (¬ x6 ≤ r3 → w_X9_movedBy x8 I F hs (fun (r22 : Int32) => (((0 : Int32) = 0 → again x6 r22 (x8 + (1 : Int32))) ∧ (¬ (0 : Int32) = 0 → ((x6 ≤ r3 → again x6 r22 (x8 + (1 : Int32))) ∧ (¬ x6 ≤ r3 → again r3 r22 (x8 + (1 : Int32)))))))))))) ∧ (¬ r14 = 0 → w_X9_movedBy x8 I F hs (fun (r25 : Int32) => vp_in (((2187 : Int32) * x3) + r3) 17496 ∧ ((¬ (r25 + (F 17 ((((2187 : Int32) * x3) + r3)).toNatClampNeg)) = x2 → (((0 : Int32) = 0 → (((0 : Int32) = 0 → again x6 x7 (x8 + (1 : Int32))) ∧ (¬ (0 : Int32) = 0 → ((x6 ≤ r3 → again x6 x7 (x8 + (1 : Int32))) ∧ (¬ x6 ≤ r3 → again r3 x7 (x8 + (1 : Int32))))))) ∧ (¬ (0 : Int32) = 0 → ((x6 ≤ r3 → (((0 : Int32) = 0 → again x6 x7 (x8 + (1 : Int32))) ∧ (¬ (0 : Int32) = 0 → ((x6 ≤ r3 → again x6 x7 (x8 + (1 : Int32))) ∧ (¬ x6 ≤ r3 → again r3 x7 (x8 + (1 : Int32))))))) ∧ (¬ x6 ≤ r3 → w_X9_movedBy x8 I F hs (fun (r33 : Int32) => (((0 : Int32) = 0 → again x6 r33 (x8 + (1 : Int32))) ∧ (¬ (0 : Int32) = 0 → ((x6 ≤ r3 → again x6 r33 (x8 + (1 : Int32))) ∧ (¬ x6 ≤ r3 → again r3 r33 (x8 + (1 : Int32)))))))))))) ∧ ((r25 + (F 17 ((((2187 : Int32) * x3) + r3)).toNatClampNeg)) = x2 → (((1 : Int32) = 0 → (((1 : Int32) = 0 → again x6 x7 (x8 + (1 : Int32))) ∧ (¬ (1 : Int32) = 0 → ((x6 ≤ r3 → again x6 x7 (x8 + (1 : Int32))) ∧ (¬ x6 ≤ r3 → again r3 x7 (x8 + (1 : Int32))))))) ∧ (¬ (1 : Int32) = 0 → ((x6 ≤ r3 → (((1 : Int32) = 0 → again x6 x7 (x8 + (1 : Int32))) ∧ (¬ (1 : Int32) = 0 → ((x6 ≤ r3 → again x6 x7 (x8 + (1 : Int32))) ∧ (¬ x6 ≤ r3 → again r3 x7 (x8 + (1 : Int32))))))) ∧ (¬ x6 ≤ r3 → w_X9_movedBy x8 I F hs (fun (r42 : Int32) => (((1 : Int32) = 0 → again x6 r42 (x8 + (1 : Int32))) ∧ (¬ (1 : Int32) = 0 → ((x6 ≤ r3 → again x6 r42 (x8 + (1 : Int32))) ∧ (¬ x6 ≤ r3 → again r3 r42 (x8 + (1 : Int32))))))))))))))))))))))))
def w_X9_layBest_B12  (k again : Int32 → Int32 → Int32 → (Nat → Int32) → (Nat → Nat → Int32) → Int64 → Prop) (x1 : Int32) (x2 : Int32) (x3 : Int32) (I : Nat → Int32) (F : Nat → Nat → Int32) (hs : Int64) : Prop :=
  (((I 3) ≤ x3 → k x1 x2 x3 I F hs) ∧ (¬ (I 3) ≤ x3 → w_X9_heldBy x3 (0 : Int32) I F hs (fun (r46 : Int32) => w_X9_heldPedals x1 r46 I F hs (fun (r47 : Int32) => vp_in x3 8 ∧ w_X9_mostOf (F 14 (x3).toNatClampNeg) I F hs (fun (r48 : Int32) => gL (fun ag v => w_X9_layBest_B55 x1 x2 x3 r47 r48 I F hs (fun (y49 : Int32) (y50 : Int32) (y51 : Int32) => ((¬ y49 = (2187 : Int32) → vp_in x3 8 ∧ ∀ F53 : Nat → Nat → Int32, F53 = upF F 20 (upd (F 20) (x3).toNatClampNeg y49) → ((¬ y49 = (2187 : Int32) → ∀ v55 : Int32, v55 = (x2 - y50) → again y49 v55 (x3 + (1 : Int32)) I F53 hs) ∧ (y49 = (2187 : Int32) → ∀ v56 : Int32, v56 = (x2 - y50) → again x1 v56 (x3 + (1 : Int32)) I F53 hs))) ∧ (y49 = (2187 : Int32) → vp_in x3 8 ∧ ∀ F57 : Nat → Nat → Int32, F57 = upF F 20 (upd (F 20) (x3).toNatClampNeg (-1 : Int32)) → ((¬ y49 = (2187 : Int32) → ∀ v59 : Int32, v59 = (x2 - y50) → again y49 v59 (x3 + (1 : Int32)) I F57 hs) ∧ (y49 = (2187 : Int32) → ∀ v60 : Int32, v60 = (x2 - y50) → again x1 v60 (x3 + (1 : Int32)) I F57 hs))))) (fun b0 b1 b2 => ag (b0, b1, b2)) v.1 v.2.1 v.2.2) ((2187 : Int32), (0 : Int32), (0 : Int32)))))))
def w_X9_layBest  (I : Nat → Int32) (F : Nat → Nat → Int32) (hs : Int64) (post : (Nat → Int32) → (Nat → Nat → Int32) → Int64 → Prop) : Prop :=
  ∀ v61 : Int32, v61 = (I 4) → ∀ v62 : Int32, v62 = (I 7) → gL (fun ag v => w_X9_layBest_B12  (fun (y63 : Int32) (y64 : Int32) (y65 : Int32) (I66 : Nat → Int32) (F67 : Nat → Nat → Int32) (hs68 : Int64) => post I66 F67 hs68) (fun b0 b1 b2 b3 b4 b5 => ag (b0, b1, b2, b3, b4, b5)) v.1 v.2.1 v.2.2.1 v.2.2.2.1 v.2.2.2.2.1 v.2.2.2.2.2) (v61, v62, (0 : Int32), I, F, hs)
set_option maxHeartbeats 4000000 in
set_option maxRecDepth 100000 in
theorem c_X9_layBest (l : Launch) (D : va_G) (q : Nat → Nat) (cI cO : ClassId) (hq : mOk q)   (I : Nat → Int32) (F : Nat → Nat → Int32) (hs : Int64) (post : (Nat → Int32) → (Nat → Nat → Int32) → Int64 → Prop) (h : w_X9_layBest  I F hs post) : Met l yX9_layBest wsX9_layBest ({ frames := 2, cells := 0, slots := 0, locals := 46 } : Room) (gPre D (mTys cI) (mW q cI cO I F hs) mEnv [.ref (q 0)]) (va_Qv (fun (u : mS) => post u.1 u.2.1 u.2.2) (gB D (fun u : mS => mW q cI cO u.1 u.2.1 u.2.2)) (mA q)) 0 0 (mA q) := by
  refine gMetV (by decide) rfl (Nat.le_of_ble_eq_true rfl) ?_
  intro p e R s m args below meth c Q ls hR hx hb hml hown hts hK hE hP hl hret
  have hRf : 2 ≤ R.frames := by subst hR; exact Nat.le_refl _
  have hRl : 46 ≤ R.locals := by subst hR; exact Nat.le_refl _
  have hown : s.vm.findClass RX9 = some m.cls := hown
  have hl : lv_has ls 11 [(0, .ref (q 0))] := hl
  have hS : va_S (mA q) s.heap s.heap [] := va_S.rf
  have hP : va_P D vwCl (mW q cI cO I F hs) s.heap := hP
  have L55 : ∀ (n : Nat) (x1 : Int32) (x2 : Int32) (x3 : Int32) (x4 : Int32) (x5 : Int32) (I : Nat → Int32) (F : Nat → Nat → Int32) (hs : Int64) (k : Int32 → Int32 → Int32 → Prop) (x6 : Int32) (x7 : Int32) (x8 : Int32) (H : Heap) (locs : List Loc) (ls : Array Slot), va_P D vwCl (mW q cI cO I F hs) H → va_S (mA q) s.heap H locs → lv_has ls 11 [(0, .ref (q 0)), (1, .int x1), (2, .int x2), (3, .int x3), (4, .int x4), (5, .int x5), (6, .int x6), (7, .int x7), (8, .int x8)] → gLN (fun ag v => w_X9_layBest_B55 x1 x2 x3 x4 x5 I F hs k (fun b0 b1 b2 => ag (b0, b1, b2)) v.1 v.2.1 v.2.2) n (x6, x7, x8) → (∀ (x6 : Int32) (x7 : Int32) (x8 : Int32) (H : Heap) (locs : List Loc) (ls : Array Slot), va_P D vwCl (mW q cI cO I F hs) H → va_S (mA q) s.heap H locs → lv_has ls 11 [(0, .ref (q 0)), (1, .int x1), (2, .int x2), (3, .int x3), (6, .int x6), (7, .int x7)] → k x6 x7 x8 → W p l e R s m args below meth c H locs 0 0 Q (F0 m 193 ls [])) → W p l e R s m args below meth c H locs 0 0 Q (F0 m 55 ls []) := by
    intro n
    induction n with
    | zero =>
      intro x1 x2 x3 x4 x5 I F hs k x6 x7 x8 H locs ls  hP hS hl h K
      exact False.elim h
    | succ n ih =>
      intro x1 x2 x3 x4 x5 I F hs k x6 x7 x8 H locs ls  hP hS hl h K
      have h : w_X9_layBest_B55 x1 x2 x3 x4 x5 I F hs k (fun b0 b1 b2 => gLN (fun ag v => w_X9_layBest_B55 x1 x2 x3 x4 x5 I F hs k (fun b0 b1 b2 => ag (b0, b1, b2)) v.1 v.2.1 v.2.2) n (b0, b1, b2)) x6 x7 x8 := h
      refine lv_iload hx hb dX9_layBest_55 (lv_at hl 8 rfl) ?_
      refine lv_bipush (v := (63 : Int32)) hx hb dX9_layBest_57 (by decide) ?_
      refine lv_icmp_ge (tgt := 193) hx hb dX9_layBest_59 (by decide) (fun c1 => ?_) (fun c1 => ?_)
      · have h := h.1 c1
        exact K x6 x7 x8 _ _ _  hP hS (lv_sub hl [0, 1, 2, 3, 6, 7] rfl) h
      · have h := h.2 c1
        refine lv_aload_n hx hb dX9_layBest_62 rfl (lv_at hl 0 rfl) ?_
        refine va_get (D := D) (ci := 9) (v := .int (I 7)) (C := RX9) (T := TX9) (N := 44) hx hb hts (fun _ h9 => List.mem_cons_of_mem _ (List.mem_append_right _ h9)) hown hK hP 0 mAt0 rfl 26 (by decide) (hts _ (List.mem_of_getElem? (l := wsX9_layBest) (i := 2) rfl)) (fun _ h9 => h9) rfl dX9_layBest_63 ?_
        refine lv_ldc (v := (99999 : Int32)) hx hb hown (hts _ (List.mem_of_getElem? (l := wsX9_layBest) (i := 5) rfl)) dX9_layBest_66 ?_
        refine lv_icmp_ge (tgt := 193) hx hb dX9_layBest_68 (by decide) (fun c2 => ?_) (fun c2 => ?_)
        · have h := h.1 c2
          exact K x6 x7 x8 _ _ _  hP hS (lv_sub hl [0, 1, 2, 3, 6, 7] rfl) h
        · have h := h.2 c2
          refine lv_aload_n hx hb dX9_layBest_71 rfl (lv_at hl 0 rfl) ?_
          refine lv_iload_n hx hb dX9_layBest_72 rfl (lv_at hl 1 rfl) ?_
          refine lv_iload hx hb dX9_layBest_73 (lv_at hl 8 rfl) ?_
          refine gCallI (D := D) (va_runV (As := [.int x1, .int x8]) (rest := []) ⟨hx, hb, hml, hown, hts⟩ (c_X9_after l D q cI cO hq x1 x8  I F hs _ h) (cwV 2 hts gX9_layBest_X9_after rfl rfl rfl (by decide +kernel) ⟨Nat.le_trans (Nat.le_of_ble_eq_true rfl) hRf, Nat.le_trans (Nat.le_of_ble_eq_true rfl) hRl⟩) (gPreV (ci := 9) (q0 := 0) mEok hE hK hP hS rfl mAt0) rfl rfl hl.1 rfl (lv_room (Nat.le_of_ble_eq_true rfl)) dX9_layBest_75 ⟨Nat.zero_le _, Nat.zero_le _⟩) hS (fun r3 _ H locs hP hS h => ?_)
          have hP : va_P D vwCl (mW q cI cO I F hs) H := hP
          refine lv_istore (lv' := [(9, .int r3), (0, .ref (q 0)), (1, .int x1), (2, .int x2), (3, .int x3), (4, .int x4), (5, .int x5), (6, .int x6), (7, .int x7), (8, .int x8)]) hx hb dX9_layBest_78 hl (by decide) rfl (fun ls hl => ?_)
          refine lv_aload_n hx hb dX9_layBest_80 rfl (lv_at hl 1 rfl) ?_
          refine va_get (D := D) (ci := 9) (v := .ref (q 16)) (C := RX9) (T := TX9) (N := 44) hx hb hts (fun _ h9 => List.mem_cons_of_mem _ (List.mem_append_right _ h9)) hown hK hP 0 mAt0 rfl 22 (by decide) (hts _ (List.mem_of_getElem? (l := wsX9_layBest) (i := 6) rfl)) (fun _ h9 => h9) rfl dX9_layBest_81 ?_
          refine lv_sipush (v := (2187 : Int32)) hx hb dX9_layBest_84 (by decide) ?_
          refine lv_iload_n hx hb dX9_layBest_87 rfl (lv_at hl 4 rfl) ?_
          refine lv_imul hx hb dX9_layBest_88 ?_
          refine lv_iload hx hb dX9_layBest_89 (lv_at hl 0 rfl) ?_
          refine lv_iadd hx hb dX9_layBest_91 ?_
          refine va_iald (D := D) hx hb hK hP 16 0 mAr16 rfl h.1 dX9_layBest_92 ?_
          have h := h.2
          refine lv_iconst (v := (1 : Int32)) hx hb dX9_layBest_93 (by decide) ?_
          refine lv_icmp_ne (tgt := 138) hx hb dX9_layBest_94 (by decide) (fun c4 => ?_) (fun c4 => ?_)
          · have h := h.1 c4
            refine lv_iconst (v := (0 : Int32)) hx hb dX9_layBest_138 (by decide) ?_
            refine lv_istore (lv' := [(10, .int (0 : Int32)), (9, .int r3), (0, .ref (q 0)), (1, .int x1), (2, .int x2), (3, .int x3), (4, .int x4), (5, .int x5), (6, .int x6), (7, .int x7), (8, .int x8)]) hx hb dX9_layBest_139 hl (by decide) rfl (fun ls hl => ?_)
            refine lv_iload hx hb dX9_layBest_141 (lv_at hl 0 rfl) ?_
            refine lv_if_eq (tgt := 162) hx hb dX9_layBest_143 (by decide) (fun c5 => ?_) (fun c5 => ?_)
            · have h := h.1 c5
              refine lv_iload hx hb dX9_layBest_162 (lv_at hl 9 rfl) ?_
              refine lv_istore (lv' := [(7, .int x7), (10, .int (0 : Int32)), (9, .int r3), (0, .ref (q 0)), (1, .int x1), (2, .int x2), (3, .int x3), (4, .int x4), (5, .int x5), (6, .int x6), (8, .int x8)]) hx hb dX9_layBest_164 hl (by decide) rfl (fun ls hl => ?_)
              refine lv_iload hx hb dX9_layBest_166 (lv_at hl 1 rfl) ?_
              refine lv_if_eq (tgt := 183) hx hb dX9_layBest_168 (by decide) (fun c6 => ?_) (fun c6 => ?_)
              · have h := h.1 c6
                refine lv_iload hx hb dX9_layBest_183 (lv_at hl 9 rfl) ?_
                refine lv_istore (lv' := [(6, .int x6), (7, .int x7), (10, .int (0 : Int32)), (9, .int r3), (0, .ref (q 0)), (1, .int x1), (2, .int x2), (3, .int x3), (4, .int x4), (5, .int x5), (8, .int x8)]) hx hb dX9_layBest_185 hl (by decide) rfl (fun ls hl => ?_)
                refine lv_iinc (v := (x8 + (1 : Int32))) (lv' := [(8, .int (x8 + (1 : Int32))), (6, .int x6), (7, .int x7), (10, .int (0 : Int32)), (9, .int r3), (0, .ref (q 0)), (1, .int x1), (2, .int x2), (3, .int x3), (4, .int x4), (5, .int x5)]) hx hb dX9_layBest_187 hl (k := 10) rfl rfl (by decide) rfl (fun ls hl => ?_)
                refine lv_goto (tgt := 55) hx hb dX9_layBest_190 (by decide) ?_
                exact ih x1 x2 x3 x4 x5 I F hs _ x6 x7 (x8 + (1 : Int32)) _ _ _  hP hS (lv_sub hl [5, 6, 7, 8, 9, 10, 1, 2, 0] rfl) h K
              · have h := h.2 c6
                refine lv_iload hx hb dX9_layBest_171 (lv_at hl 2 rfl) ?_
                refine lv_iload hx hb dX9_layBest_173 (lv_at hl 9 rfl) ?_
                refine lv_icmp_ge (tgt := 183) hx hb dX9_layBest_175 (by decide) (fun c7 => ?_) (fun c7 => ?_)
                · have h := h.1 c7
                  refine lv_iload hx hb dX9_layBest_183 (lv_at hl 9 rfl) ?_
                  refine lv_istore (lv' := [(6, .int x6), (7, .int x7), (10, .int (0 : Int32)), (9, .int r3), (0, .ref (q 0)), (1, .int x1), (2, .int x2), (3, .int x3), (4, .int x4), (5, .int x5), (8, .int x8)]) hx hb dX9_layBest_185 hl (by decide) rfl (fun ls hl => ?_)
                  refine lv_iinc (v := (x8 + (1 : Int32))) (lv' := [(8, .int (x8 + (1 : Int32))), (6, .int x6), (7, .int x7), (10, .int (0 : Int32)), (9, .int r3), (0, .ref (q 0)), (1, .int x1), (2, .int x2), (3, .int x3), (4, .int x4), (5, .int x5)]) hx hb dX9_layBest_187 hl (k := 10) rfl rfl (by decide) rfl (fun ls hl => ?_)
                  refine lv_goto (tgt := 55) hx hb dX9_layBest_190 (by decide) ?_
                  exact ih x1 x2 x3 x4 x5 I F hs _ x6 x7 (x8 + (1 : Int32)) _ _ _  hP hS (lv_sub hl [5, 6, 7, 8, 9, 10, 1, 2, 0] rfl) h K
                · have h := h.2 c7
                  refine lv_iload hx hb dX9_layBest_178 (lv_at hl 2 rfl) ?_
                  refine lv_goto (tgt := 185) hx hb dX9_layBest_180 (by decide) ?_
                  refine lv_istore (lv' := [(6, .int r3), (7, .int x7), (10, .int (0 : Int32)), (9, .int r3), (0, .ref (q 0)), (1, .int x1), (2, .int x2), (3, .int x3), (4, .int x4), (5, .int x5), (8, .int x8)]) hx hb dX9_layBest_185 hl (by decide) rfl (fun ls hl => ?_)
                  refine lv_iinc (v := (x8 + (1 : Int32))) (lv' := [(8, .int (x8 + (1 : Int32))), (6, .int r3), (7, .int x7), (10, .int (0 : Int32)), (9, .int r3), (0, .ref (q 0)), (1, .int x1), (2, .int x2), (3, .int x3), (4, .int x4), (5, .int x5)]) hx hb dX9_layBest_187 hl (k := 10) rfl rfl (by decide) rfl (fun ls hl => ?_)
                  refine lv_goto (tgt := 55) hx hb dX9_layBest_190 (by decide) ?_
                  exact ih x1 x2 x3 x4 x5 I F hs _ r3 x7 (x8 + (1 : Int32)) _ _ _  hP hS (lv_sub hl [5, 6, 7, 8, 9, 10, 1, 2, 0] rfl) h K
            · have h := h.2 c5
              refine lv_iload hx hb dX9_layBest_146 (lv_at hl 1 rfl) ?_
              refine lv_iload hx hb dX9_layBest_148 (lv_at hl 8 rfl) ?_
              refine lv_icmp_ge (tgt := 162) hx hb dX9_layBest_150 (by decide) (fun c8 => ?_) (fun c8 => ?_)
              · have h := h.1 c8
                refine lv_iload hx hb dX9_layBest_162 (lv_at hl 9 rfl) ?_
                refine lv_istore (lv' := [(7, .int x7), (10, .int (0 : Int32)), (9, .int r3), (0, .ref (q 0)), (1, .int x1), (2, .int x2), (3, .int x3), (4, .int x4), (5, .int x5), (6, .int x6), (8, .int x8)]) hx hb dX9_layBest_164 hl (by decide) rfl (fun ls hl => ?_)
                refine lv_iload hx hb dX9_layBest_166 (lv_at hl 1 rfl) ?_
                refine lv_if_eq (tgt := 183) hx hb dX9_layBest_168 (by decide) (fun c9 => ?_) (fun c9 => ?_)
                · have h := h.1 c9
                  refine lv_iload hx hb dX9_layBest_183 (lv_at hl 9 rfl) ?_
                  refine lv_istore (lv' := [(6, .int x6), (7, .int x7), (10, .int (0 : Int32)), (9, .int r3), (0, .ref (q 0)), (1, .int x1), (2, .int x2), (3, .int x3), (4, .int x4), (5, .int x5), (8, .int x8)]) hx hb dX9_layBest_185 hl (by decide) rfl (fun ls hl => ?_)
                  refine lv_iinc (v := (x8 + (1 : Int32))) (lv' := [(8, .int (x8 + (1 : Int32))), (6, .int x6), (7, .int x7), (10, .int (0 : Int32)), (9, .int r3), (0, .ref (q 0)), (1, .int x1), (2, .int x2), (3, .int x3), (4, .int x4), (5, .int x5)]) hx hb dX9_layBest_187 hl (k := 10) rfl rfl (by decide) rfl (fun ls hl => ?_)
                  refine lv_goto (tgt := 55) hx hb dX9_layBest_190 (by decide) ?_
                  exact ih x1 x2 x3 x4 x5 I F hs _ x6 x7 (x8 + (1 : Int32)) _ _ _  hP hS (lv_sub hl [5, 6, 7, 8, 9, 10, 1, 2, 0] rfl) h K
                · have h := h.2 c9
                  refine lv_iload hx hb dX9_layBest_171 (lv_at hl 2 rfl) ?_
                  refine lv_iload hx hb dX9_layBest_173 (lv_at hl 9 rfl) ?_
                  refine lv_icmp_ge (tgt := 183) hx hb dX9_layBest_175 (by decide) (fun c10 => ?_) (fun c10 => ?_)
                  · have h := h.1 c10
                    refine lv_iload hx hb dX9_layBest_183 (lv_at hl 9 rfl) ?_
                    refine lv_istore (lv' := [(6, .int x6), (7, .int x7), (10, .int (0 : Int32)), (9, .int r3), (0, .ref (q 0)), (1, .int x1), (2, .int x2), (3, .int x3), (4, .int x4), (5, .int x5), (8, .int x8)]) hx hb dX9_layBest_185 hl (by decide) rfl (fun ls hl => ?_)
                    refine lv_iinc (v := (x8 + (1 : Int32))) (lv' := [(8, .int (x8 + (1 : Int32))), (6, .int x6), (7, .int x7), (10, .int (0 : Int32)), (9, .int r3), (0, .ref (q 0)), (1, .int x1), (2, .int x2), (3, .int x3), (4, .int x4), (5, .int x5)]) hx hb dX9_layBest_187 hl (k := 10) rfl rfl (by decide) rfl (fun ls hl => ?_)
                    refine lv_goto (tgt := 55) hx hb dX9_layBest_190 (by decide) ?_
                    exact ih x1 x2 x3 x4 x5 I F hs _ x6 x7 (x8 + (1 : Int32)) _ _ _  hP hS (lv_sub hl [5, 6, 7, 8, 9, 10, 1, 2, 0] rfl) h K
                  · have h := h.2 c10
                    refine lv_iload hx hb dX9_layBest_178 (lv_at hl 2 rfl) ?_
                    refine lv_goto (tgt := 185) hx hb dX9_layBest_180 (by decide) ?_
                    refine lv_istore (lv' := [(6, .int r3), (7, .int x7), (10, .int (0 : Int32)), (9, .int r3), (0, .ref (q 0)), (1, .int x1), (2, .int x2), (3, .int x3), (4, .int x4), (5, .int x5), (8, .int x8)]) hx hb dX9_layBest_185 hl (by decide) rfl (fun ls hl => ?_)
                    refine lv_iinc (v := (x8 + (1 : Int32))) (lv' := [(8, .int (x8 + (1 : Int32))), (6, .int r3), (7, .int x7), (10, .int (0 : Int32)), (9, .int r3), (0, .ref (q 0)), (1, .int x1), (2, .int x2), (3, .int x3), (4, .int x4), (5, .int x5)]) hx hb dX9_layBest_187 hl (k := 10) rfl rfl (by decide) rfl (fun ls hl => ?_)
                    refine lv_goto (tgt := 55) hx hb dX9_layBest_190 (by decide) ?_
                    exact ih x1 x2 x3 x4 x5 I F hs _ r3 x7 (x8 + (1 : Int32)) _ _ _  hP hS (lv_sub hl [5, 6, 7, 8, 9, 10, 1, 2, 0] rfl) h K
              · have h := h.2 c8
                refine lv_aload_n hx hb dX9_layBest_153 rfl (lv_at hl 2 rfl) ?_
                refine lv_iload hx hb dX9_layBest_154 (lv_at hl 10 rfl) ?_
                refine gCallI (D := D) (va_runV (As := [.int x8]) (rest := []) ⟨hx, hb, hml, hown, hts⟩ (c_X9_movedBy l D q cI cO hq x8  I F hs _ h) (cwV 1 hts gX9_layBest_X9_movedBy rfl rfl rfl (by decide +kernel) ⟨Nat.le_trans (Nat.le_of_ble_eq_true rfl) hRf, Nat.le_trans (Nat.le_of_ble_eq_true rfl) hRl⟩) (gPreV (ci := 9) (q0 := 0) mEok hE hK hP hS rfl mAt0) rfl rfl hl.1 rfl (lv_room (Nat.le_of_ble_eq_true rfl)) dX9_layBest_156 ⟨Nat.zero_le _, Nat.zero_le _⟩) hS (fun r11 _ H locs hP hS h => ?_)
                have hP : va_P D vwCl (mW q cI cO I F hs) H := hP
                refine lv_goto (tgt := 164) hx hb dX9_layBest_159 (by decide) ?_
                refine lv_istore (lv' := [(7, .int r11), (10, .int (0 : Int32)), (9, .int r3), (0, .ref (q 0)), (1, .int x1), (2, .int x2), (3, .int x3), (4, .int x4), (5, .int x5), (6, .int x6), (8, .int x8)]) hx hb dX9_layBest_164 hl (by decide) rfl (fun ls hl => ?_)
                refine lv_iload hx hb dX9_layBest_166 (lv_at hl 1 rfl) ?_
                refine lv_if_eq (tgt := 183) hx hb dX9_layBest_168 (by decide) (fun c12 => ?_) (fun c12 => ?_)
                · have h := h.1 c12
                  refine lv_iload hx hb dX9_layBest_183 (lv_at hl 9 rfl) ?_
                  refine lv_istore (lv' := [(6, .int x6), (7, .int r11), (10, .int (0 : Int32)), (9, .int r3), (0, .ref (q 0)), (1, .int x1), (2, .int x2), (3, .int x3), (4, .int x4), (5, .int x5), (8, .int x8)]) hx hb dX9_layBest_185 hl (by decide) rfl (fun ls hl => ?_)
                  refine lv_iinc (v := (x8 + (1 : Int32))) (lv' := [(8, .int (x8 + (1 : Int32))), (6, .int x6), (7, .int r11), (10, .int (0 : Int32)), (9, .int r3), (0, .ref (q 0)), (1, .int x1), (2, .int x2), (3, .int x3), (4, .int x4), (5, .int x5)]) hx hb dX9_layBest_187 hl (k := 10) rfl rfl (by decide) rfl (fun ls hl => ?_)
                  refine lv_goto (tgt := 55) hx hb dX9_layBest_190 (by decide) ?_
                  exact ih x1 x2 x3 x4 x5 I F hs _ x6 r11 (x8 + (1 : Int32)) _ _ _  hP hS (lv_sub hl [5, 6, 7, 8, 9, 10, 1, 2, 0] rfl) h K
                · have h := h.2 c12
                  refine lv_iload hx hb dX9_layBest_171 (lv_at hl 2 rfl) ?_
                  refine lv_iload hx hb dX9_layBest_173 (lv_at hl 9 rfl) ?_
                  refine lv_icmp_ge (tgt := 183) hx hb dX9_layBest_175 (by decide) (fun c13 => ?_) (fun c13 => ?_)
                  · have h := h.1 c13
                    refine lv_iload hx hb dX9_layBest_183 (lv_at hl 9 rfl) ?_
                    refine lv_istore (lv' := [(6, .int x6), (7, .int r11), (10, .int (0 : Int32)), (9, .int r3), (0, .ref (q 0)), (1, .int x1), (2, .int x2), (3, .int x3), (4, .int x4), (5, .int x5), (8, .int x8)]) hx hb dX9_layBest_185 hl (by decide) rfl (fun ls hl => ?_)
                    refine lv_iinc (v := (x8 + (1 : Int32))) (lv' := [(8, .int (x8 + (1 : Int32))), (6, .int x6), (7, .int r11), (10, .int (0 : Int32)), (9, .int r3), (0, .ref (q 0)), (1, .int x1), (2, .int x2), (3, .int x3), (4, .int x4), (5, .int x5)]) hx hb dX9_layBest_187 hl (k := 10) rfl rfl (by decide) rfl (fun ls hl => ?_)
                    refine lv_goto (tgt := 55) hx hb dX9_layBest_190 (by decide) ?_
                    exact ih x1 x2 x3 x4 x5 I F hs _ x6 r11 (x8 + (1 : Int32)) _ _ _  hP hS (lv_sub hl [5, 6, 7, 8, 9, 10, 1, 2, 0] rfl) h K
                  · have h := h.2 c13
                    refine lv_iload hx hb dX9_layBest_178 (lv_at hl 2 rfl) ?_
                    refine lv_goto (tgt := 185) hx hb dX9_layBest_180 (by decide) ?_
                    refine lv_istore (lv' := [(6, .int r3), (7, .int r11), (10, .int (0 : Int32)), (9, .int r3), (0, .ref (q 0)), (1, .int x1), (2, .int x2), (3, .int x3), (4, .int x4), (5, .int x5), (8, .int x8)]) hx hb dX9_layBest_185 hl (by decide) rfl (fun ls hl => ?_)
                    refine lv_iinc (v := (x8 + (1 : Int32))) (lv' := [(8, .int (x8 + (1 : Int32))), (6, .int r3), (7, .int r11), (10, .int (0 : Int32)), (9, .int r3), (0, .ref (q 0)), (1, .int x1), (2, .int x2), (3, .int x3), (4, .int x4), (5, .int x5)]) hx hb dX9_layBest_187 hl (k := 10) rfl rfl (by decide) rfl (fun ls hl => ?_)
                    refine lv_goto (tgt := 55) hx hb dX9_layBest_190 (by decide) ?_
                    exact ih x1 x2 x3 x4 x5 I F hs _ r3 r11 (x8 + (1 : Int32)) _ _ _  hP hS (lv_sub hl [5, 6, 7, 8, 9, 10, 1, 2, 0] rfl) h K
          · have h := h.2 c4
            refine lv_aload_n hx hb dX9_layBest_97 rfl (lv_at hl 1 rfl) ?_
            refine lv_iload hx hb dX9_layBest_98 (lv_at hl 9 rfl) ?_
            refine lv_iload hx hb dX9_layBest_100 (lv_at hl 6 rfl) ?_
            refine lv_iload hx hb dX9_layBest_102 (lv_at hl 5 rfl) ?_
            refine gCallI (D := D) (va_runV (As := [.int x8, .int x5, .int x4]) (rest := []) ⟨hx, hb, hml, hown, hts⟩ (c_X9_can l D q cI cO hq x8 x5 x4  I F hs _ h) (cwV 3 hts gX9_layBest_X9_can rfl rfl rfl (by decide +kernel) ⟨Nat.le_trans (Nat.le_of_ble_eq_true rfl) hRf, Nat.le_trans (Nat.le_of_ble_eq_true rfl) hRl⟩) (gPreV (ci := 9) (q0 := 0) mEok hE hK hP hS rfl mAt0) rfl rfl hl.1 rfl (lv_room (Nat.le_of_ble_eq_true rfl)) dX9_layBest_104 ⟨Nat.zero_le _, Nat.zero_le _⟩) hS (fun r14 _ H locs hP hS h => ?_)
            have hP : va_P D vwCl (mW q cI cO I F hs) H := hP
            refine lv_if_eq (tgt := 138) hx hb dX9_layBest_107 (by decide) (fun c15 => ?_) (fun c15 => ?_)
            · have h := h.1 c15
              refine lv_iconst (v := (0 : Int32)) hx hb dX9_layBest_138 (by decide) ?_
              refine lv_istore (lv' := [(10, .int (0 : Int32)), (9, .int r3), (0, .ref (q 0)), (1, .int x1), (2, .int x2), (3, .int x3), (4, .int x4), (5, .int x5), (6, .int x6), (7, .int x7), (8, .int x8)]) hx hb dX9_layBest_139 hl (by decide) rfl (fun ls hl => ?_)
              refine lv_iload hx hb dX9_layBest_141 (lv_at hl 0 rfl) ?_
              refine lv_if_eq (tgt := 162) hx hb dX9_layBest_143 (by decide) (fun c16 => ?_) (fun c16 => ?_)
              · have h := h.1 c16
                refine lv_iload hx hb dX9_layBest_162 (lv_at hl 9 rfl) ?_
                refine lv_istore (lv' := [(7, .int x7), (10, .int (0 : Int32)), (9, .int r3), (0, .ref (q 0)), (1, .int x1), (2, .int x2), (3, .int x3), (4, .int x4), (5, .int x5), (6, .int x6), (8, .int x8)]) hx hb dX9_layBest_164 hl (by decide) rfl (fun ls hl => ?_)
                refine lv_iload hx hb dX9_layBest_166 (lv_at hl 1 rfl) ?_
                refine lv_if_eq (tgt := 183) hx hb dX9_layBest_168 (by decide) (fun c17 => ?_) (fun c17 => ?_)
                · have h := h.1 c17
                  refine lv_iload hx hb dX9_layBest_183 (lv_at hl 9 rfl) ?_
                  refine lv_istore (lv' := [(6, .int x6), (7, .int x7), (10, .int (0 : Int32)), (9, .int r3), (0, .ref (q 0)), (1, .int x1), (2, .int x2), (3, .int x3), (4, .int x4), (5, .int x5), (8, .int x8)]) hx hb dX9_layBest_185 hl (by decide) rfl (fun ls hl => ?_)
                  refine lv_iinc (v := (x8 + (1 : Int32))) (lv' := [(8, .int (x8 + (1 : Int32))), (6, .int x6), (7, .int x7), (10, .int (0 : Int32)), (9, .int r3), (0, .ref (q 0)), (1, .int x1), (2, .int x2), (3, .int x3), (4, .int x4), (5, .int x5)]) hx hb dX9_layBest_187 hl (k := 10) rfl rfl (by decide) rfl (fun ls hl => ?_)
                  refine lv_goto (tgt := 55) hx hb dX9_layBest_190 (by decide) ?_
                  exact ih x1 x2 x3 x4 x5 I F hs _ x6 x7 (x8 + (1 : Int32)) _ _ _  hP hS (lv_sub hl [5, 6, 7, 8, 9, 10, 1, 2, 0] rfl) h K
                · have h := h.2 c17
                  refine lv_iload hx hb dX9_layBest_171 (lv_at hl 2 rfl) ?_
                  refine lv_iload hx hb dX9_layBest_173 (lv_at hl 9 rfl) ?_
                  refine lv_icmp_ge (tgt := 183) hx hb dX9_layBest_175 (by decide) (fun c18 => ?_) (fun c18 => ?_)
                  · have h := h.1 c18
                    refine lv_iload hx hb dX9_layBest_183 (lv_at hl 9 rfl) ?_
                    refine lv_istore (lv' := [(6, .int x6), (7, .int x7), (10, .int (0 : Int32)), (9, .int r3), (0, .ref (q 0)), (1, .int x1), (2, .int x2), (3, .int x3), (4, .int x4), (5, .int x5), (8, .int x8)]) hx hb dX9_layBest_185 hl (by decide) rfl (fun ls hl => ?_)
                    refine lv_iinc (v := (x8 + (1 : Int32))) (lv' := [(8, .int (x8 + (1 : Int32))), (6, .int x6), (7, .int x7), (10, .int (0 : Int32)), (9, .int r3), (0, .ref (q 0)), (1, .int x1), (2, .int x2), (3, .int x3), (4, .int x4), (5, .int x5)]) hx hb dX9_layBest_187 hl (k := 10) rfl rfl (by decide) rfl (fun ls hl => ?_)
                    refine lv_goto (tgt := 55) hx hb dX9_layBest_190 (by decide) ?_
                    exact ih x1 x2 x3 x4 x5 I F hs _ x6 x7 (x8 + (1 : Int32)) _ _ _  hP hS (lv_sub hl [5, 6, 7, 8, 9, 10, 1, 2, 0] rfl) h K
                  · have h := h.2 c18
                    refine lv_iload hx hb dX9_layBest_178 (lv_at hl 2 rfl) ?_
                    refine lv_goto (tgt := 185) hx hb dX9_layBest_180 (by decide) ?_
                    refine lv_istore (lv' := [(6, .int r3), (7, .int x7), (10, .int (0 : Int32)), (9, .int r3), (0, .ref (q 0)), (1, .int x1), (2, .int x2), (3, .int x3), (4, .int x4), (5, .int x5), (8, .int x8)]) hx hb dX9_layBest_185 hl (by decide) rfl (fun ls hl => ?_)
                    refine lv_iinc (v := (x8 + (1 : Int32))) (lv' := [(8, .int (x8 + (1 : Int32))), (6, .int r3), (7, .int x7), (10, .int (0 : Int32)), (9, .int r3), (0, .ref (q 0)), (1, .int x1), (2, .int x2), (3, .int x3), (4, .int x4), (5, .int x5)]) hx hb dX9_layBest_187 hl (k := 10) rfl rfl (by decide) rfl (fun ls hl => ?_)
                    refine lv_goto (tgt := 55) hx hb dX9_layBest_190 (by decide) ?_
                    exact ih x1 x2 x3 x4 x5 I F hs _ r3 x7 (x8 + (1 : Int32)) _ _ _  hP hS (lv_sub hl [5, 6, 7, 8, 9, 10, 1, 2, 0] rfl) h K
              · have h := h.2 c16
                refine lv_iload hx hb dX9_layBest_146 (lv_at hl 1 rfl) ?_
                refine lv_iload hx hb dX9_layBest_148 (lv_at hl 8 rfl) ?_
                refine lv_icmp_ge (tgt := 162) hx hb dX9_layBest_150 (by decide) (fun c19 => ?_) (fun c19 => ?_)
                · have h := h.1 c19
                  refine lv_iload hx hb dX9_layBest_162 (lv_at hl 9 rfl) ?_
                  refine lv_istore (lv' := [(7, .int x7), (10, .int (0 : Int32)), (9, .int r3), (0, .ref (q 0)), (1, .int x1), (2, .int x2), (3, .int x3), (4, .int x4), (5, .int x5), (6, .int x6), (8, .int x8)]) hx hb dX9_layBest_164 hl (by decide) rfl (fun ls hl => ?_)
                  refine lv_iload hx hb dX9_layBest_166 (lv_at hl 1 rfl) ?_
                  refine lv_if_eq (tgt := 183) hx hb dX9_layBest_168 (by decide) (fun c20 => ?_) (fun c20 => ?_)
                  · have h := h.1 c20
                    refine lv_iload hx hb dX9_layBest_183 (lv_at hl 9 rfl) ?_
                    refine lv_istore (lv' := [(6, .int x6), (7, .int x7), (10, .int (0 : Int32)), (9, .int r3), (0, .ref (q 0)), (1, .int x1), (2, .int x2), (3, .int x3), (4, .int x4), (5, .int x5), (8, .int x8)]) hx hb dX9_layBest_185 hl (by decide) rfl (fun ls hl => ?_)
                    refine lv_iinc (v := (x8 + (1 : Int32))) (lv' := [(8, .int (x8 + (1 : Int32))), (6, .int x6), (7, .int x7), (10, .int (0 : Int32)), (9, .int r3), (0, .ref (q 0)), (1, .int x1), (2, .int x2), (3, .int x3), (4, .int x4), (5, .int x5)]) hx hb dX9_layBest_187 hl (k := 10) rfl rfl (by decide) rfl (fun ls hl => ?_)
                    refine lv_goto (tgt := 55) hx hb dX9_layBest_190 (by decide) ?_
                    exact ih x1 x2 x3 x4 x5 I F hs _ x6 x7 (x8 + (1 : Int32)) _ _ _  hP hS (lv_sub hl [5, 6, 7, 8, 9, 10, 1, 2, 0] rfl) h K
                  · have h := h.2 c20
                    refine lv_iload hx hb dX9_layBest_171 (lv_at hl 2 rfl) ?_
                    refine lv_iload hx hb dX9_layBest_173 (lv_at hl 9 rfl) ?_
                    refine lv_icmp_ge (tgt := 183) hx hb dX9_layBest_175 (by decide) (fun c21 => ?_) (fun c21 => ?_)
                    · have h := h.1 c21
                      refine lv_iload hx hb dX9_layBest_183 (lv_at hl 9 rfl) ?_
                      refine lv_istore (lv' := [(6, .int x6), (7, .int x7), (10, .int (0 : Int32)), (9, .int r3), (0, .ref (q 0)), (1, .int x1), (2, .int x2), (3, .int x3), (4, .int x4), (5, .int x5), (8, .int x8)]) hx hb dX9_layBest_185 hl (by decide) rfl (fun ls hl => ?_)
                      refine lv_iinc (v := (x8 + (1 : Int32))) (lv' := [(8, .int (x8 + (1 : Int32))), (6, .int x6), (7, .int x7), (10, .int (0 : Int32)), (9, .int r3), (0, .ref (q 0)), (1, .int x1), (2, .int x2), (3, .int x3), (4, .int x4), (5, .int x5)]) hx hb dX9_layBest_187 hl (k := 10) rfl rfl (by decide) rfl (fun ls hl => ?_)
                      refine lv_goto (tgt := 55) hx hb dX9_layBest_190 (by decide) ?_
                      exact ih x1 x2 x3 x4 x5 I F hs _ x6 x7 (x8 + (1 : Int32)) _ _ _  hP hS (lv_sub hl [5, 6, 7, 8, 9, 10, 1, 2, 0] rfl) h K
                    · have h := h.2 c21
                      refine lv_iload hx hb dX9_layBest_178 (lv_at hl 2 rfl) ?_
                      refine lv_goto (tgt := 185) hx hb dX9_layBest_180 (by decide) ?_
                      refine lv_istore (lv' := [(6, .int r3), (7, .int x7), (10, .int (0 : Int32)), (9, .int r3), (0, .ref (q 0)), (1, .int x1), (2, .int x2), (3, .int x3), (4, .int x4), (5, .int x5), (8, .int x8)]) hx hb dX9_layBest_185 hl (by decide) rfl (fun ls hl => ?_)
                      refine lv_iinc (v := (x8 + (1 : Int32))) (lv' := [(8, .int (x8 + (1 : Int32))), (6, .int r3), (7, .int x7), (10, .int (0 : Int32)), (9, .int r3), (0, .ref (q 0)), (1, .int x1), (2, .int x2), (3, .int x3), (4, .int x4), (5, .int x5)]) hx hb dX9_layBest_187 hl (k := 10) rfl rfl (by decide) rfl (fun ls hl => ?_)
                      refine lv_goto (tgt := 55) hx hb dX9_layBest_190 (by decide) ?_
                      exact ih x1 x2 x3 x4 x5 I F hs _ r3 x7 (x8 + (1 : Int32)) _ _ _  hP hS (lv_sub hl [5, 6, 7, 8, 9, 10, 1, 2, 0] rfl) h K
                · have h := h.2 c19
                  refine lv_aload_n hx hb dX9_layBest_153 rfl (lv_at hl 2 rfl) ?_
                  refine lv_iload hx hb dX9_layBest_154 (lv_at hl 10 rfl) ?_
                  refine gCallI (D := D) (va_runV (As := [.int x8]) (rest := []) ⟨hx, hb, hml, hown, hts⟩ (c_X9_movedBy l D q cI cO hq x8  I F hs _ h) (cwV 1 hts gX9_layBest_X9_movedBy rfl rfl rfl (by decide +kernel) ⟨Nat.le_trans (Nat.le_of_ble_eq_true rfl) hRf, Nat.le_trans (Nat.le_of_ble_eq_true rfl) hRl⟩) (gPreV (ci := 9) (q0 := 0) mEok hE hK hP hS rfl mAt0) rfl rfl hl.1 rfl (lv_room (Nat.le_of_ble_eq_true rfl)) dX9_layBest_156 ⟨Nat.zero_le _, Nat.zero_le _⟩) hS (fun r22 _ H locs hP hS h => ?_)
                  have hP : va_P D vwCl (mW q cI cO I F hs) H := hP
                  refine lv_goto (tgt := 164) hx hb dX9_layBest_159 (by decide) ?_
                  refine lv_istore (lv' := [(7, .int r22), (10, .int (0 : Int32)), (9, .int r3), (0, .ref (q 0)), (1, .int x1), (2, .int x2), (3, .int x3), (4, .int x4), (5, .int x5), (6, .int x6), (8, .int x8)]) hx hb dX9_layBest_164 hl (by decide) rfl (fun ls hl => ?_)
                  refine lv_iload hx hb dX9_layBest_166 (lv_at hl 1 rfl) ?_
                  refine lv_if_eq (tgt := 183) hx hb dX9_layBest_168 (by decide) (fun c23 => ?_) (fun c23 => ?_)
                  · have h := h.1 c23
                    refine lv_iload hx hb dX9_layBest_183 (lv_at hl 9 rfl) ?_
                    refine lv_istore (lv' := [(6, .int x6), (7, .int r22), (10, .int (0 : Int32)), (9, .int r3), (0, .ref (q 0)), (1, .int x1), (2, .int x2), (3, .int x3), (4, .int x4), (5, .int x5), (8, .int x8)]) hx hb dX9_layBest_185 hl (by decide) rfl (fun ls hl => ?_)
                    refine lv_iinc (v := (x8 + (1 : Int32))) (lv' := [(8, .int (x8 + (1 : Int32))), (6, .int x6), (7, .int r22), (10, .int (0 : Int32)), (9, .int r3), (0, .ref (q 0)), (1, .int x1), (2, .int x2), (3, .int x3), (4, .int x4), (5, .int x5)]) hx hb dX9_layBest_187 hl (k := 10) rfl rfl (by decide) rfl (fun ls hl => ?_)
                    refine lv_goto (tgt := 55) hx hb dX9_layBest_190 (by decide) ?_
                    exact ih x1 x2 x3 x4 x5 I F hs _ x6 r22 (x8 + (1 : Int32)) _ _ _  hP hS (lv_sub hl [5, 6, 7, 8, 9, 10, 1, 2, 0] rfl) h K
                  · have h := h.2 c23
                    refine lv_iload hx hb dX9_layBest_171 (lv_at hl 2 rfl) ?_
                    refine lv_iload hx hb dX9_layBest_173 (lv_at hl 9 rfl) ?_
                    refine lv_icmp_ge (tgt := 183) hx hb dX9_layBest_175 (by decide) (fun c24 => ?_) (fun c24 => ?_)
                    · have h := h.1 c24
                      refine lv_iload hx hb dX9_layBest_183 (lv_at hl 9 rfl) ?_
                      refine lv_istore (lv' := [(6, .int x6), (7, .int r22), (10, .int (0 : Int32)), (9, .int r3), (0, .ref (q 0)), (1, .int x1), (2, .int x2), (3, .int x3), (4, .int x4), (5, .int x5), (8, .int x8)]) hx hb dX9_layBest_185 hl (by decide) rfl (fun ls hl => ?_)
                      refine lv_iinc (v := (x8 + (1 : Int32))) (lv' := [(8, .int (x8 + (1 : Int32))), (6, .int x6), (7, .int r22), (10, .int (0 : Int32)), (9, .int r3), (0, .ref (q 0)), (1, .int x1), (2, .int x2), (3, .int x3), (4, .int x4), (5, .int x5)]) hx hb dX9_layBest_187 hl (k := 10) rfl rfl (by decide) rfl (fun ls hl => ?_)
                      refine lv_goto (tgt := 55) hx hb dX9_layBest_190 (by decide) ?_
                      exact ih x1 x2 x3 x4 x5 I F hs _ x6 r22 (x8 + (1 : Int32)) _ _ _  hP hS (lv_sub hl [5, 6, 7, 8, 9, 10, 1, 2, 0] rfl) h K
                    · have h := h.2 c24
                      refine lv_iload hx hb dX9_layBest_178 (lv_at hl 2 rfl) ?_
                      refine lv_goto (tgt := 185) hx hb dX9_layBest_180 (by decide) ?_
                      refine lv_istore (lv' := [(6, .int r3), (7, .int r22), (10, .int (0 : Int32)), (9, .int r3), (0, .ref (q 0)), (1, .int x1), (2, .int x2), (3, .int x3), (4, .int x4), (5, .int x5), (8, .int x8)]) hx hb dX9_layBest_185 hl (by decide) rfl (fun ls hl => ?_)
                      refine lv_iinc (v := (x8 + (1 : Int32))) (lv' := [(8, .int (x8 + (1 : Int32))), (6, .int r3), (7, .int r22), (10, .int (0 : Int32)), (9, .int r3), (0, .ref (q 0)), (1, .int x1), (2, .int x2), (3, .int x3), (4, .int x4), (5, .int x5)]) hx hb dX9_layBest_187 hl (k := 10) rfl rfl (by decide) rfl (fun ls hl => ?_)
                      refine lv_goto (tgt := 55) hx hb dX9_layBest_190 (by decide) ?_
                      exact ih x1 x2 x3 x4 x5 I F hs _ r3 r22 (x8 + (1 : Int32)) _ _ _  hP hS (lv_sub hl [5, 6, 7, 8, 9, 10, 1, 2, 0] rfl) h K
            · have h := h.2 c15
              refine lv_aload_n hx hb dX9_layBest_110 rfl (lv_at hl 1 rfl) ?_
              refine lv_iload hx hb dX9_layBest_111 (lv_at hl 9 rfl) ?_
              refine gCallI (D := D) (va_runV (As := [.int x8]) (rest := []) ⟨hx, hb, hml, hown, hts⟩ (c_X9_movedBy l D q cI cO hq x8  I F hs _ h) (cwV 1 hts gX9_layBest_X9_movedBy rfl rfl rfl (by decide +kernel) ⟨Nat.le_trans (Nat.le_of_ble_eq_true rfl) hRf, Nat.le_trans (Nat.le_of_ble_eq_true rfl) hRl⟩) (gPreV (ci := 9) (q0 := 0) mEok hE hK hP hS rfl mAt0) rfl rfl hl.1 rfl (lv_room (Nat.le_of_ble_eq_true rfl)) dX9_layBest_113 ⟨Nat.zero_le _, Nat.zero_le _⟩) hS (fun r25 _ H locs hP hS h => ?_)
              have hP : va_P D vwCl (mW q cI cO I F hs) H := hP
              refine lv_aload_n hx hb dX9_layBest_116 rfl (lv_at hl 1 rfl) ?_
              refine va_get (D := D) (ci := 9) (v := .ref (q 17)) (C := RX9) (T := TX9) (N := 44) hx hb hts (fun _ h9 => List.mem_cons_of_mem _ (List.mem_append_right _ h9)) hown hK hP 0 mAt0 rfl 23 (by decide) (hts _ (List.mem_of_getElem? (l := wsX9_layBest) (i := 7) rfl)) (fun _ h9 => h9) rfl dX9_layBest_117 ?_
              refine lv_sipush (v := (2187 : Int32)) hx hb dX9_layBest_120 (by decide) ?_
              refine lv_iload_n hx hb dX9_layBest_123 rfl (lv_at hl 4 rfl) ?_
              refine lv_imul hx hb dX9_layBest_124 ?_
              refine lv_iload hx hb dX9_layBest_125 (lv_at hl 0 rfl) ?_
              refine lv_iadd hx hb dX9_layBest_127 ?_
              refine va_iald (D := D) hx hb hK hP 17 0 mAr17 rfl h.1 dX9_layBest_128 ?_
              have h := h.2
              refine lv_iadd hx hb dX9_layBest_129 ?_
              refine lv_iload_n hx hb dX9_layBest_130 rfl (lv_at hl 3 rfl) ?_
              refine lv_icmp_ne (tgt := 138) hx hb dX9_layBest_131 (by decide) (fun c26 => ?_) (fun c26 => ?_)
              · have h := h.1 c26
                refine lv_iconst (v := (0 : Int32)) hx hb dX9_layBest_138 (by decide) ?_
                refine lv_istore (lv' := [(10, .int (0 : Int32)), (9, .int r3), (0, .ref (q 0)), (1, .int x1), (2, .int x2), (3, .int x3), (4, .int x4), (5, .int x5), (6, .int x6), (7, .int x7), (8, .int x8)]) hx hb dX9_layBest_139 hl (by decide) rfl (fun ls hl => ?_)
                refine lv_iload hx hb dX9_layBest_141 (lv_at hl 0 rfl) ?_
                refine lv_if_eq (tgt := 162) hx hb dX9_layBest_143 (by decide) (fun c27 => ?_) (fun c27 => ?_)
                · have h := h.1 c27
                  refine lv_iload hx hb dX9_layBest_162 (lv_at hl 9 rfl) ?_
                  refine lv_istore (lv' := [(7, .int x7), (10, .int (0 : Int32)), (9, .int r3), (0, .ref (q 0)), (1, .int x1), (2, .int x2), (3, .int x3), (4, .int x4), (5, .int x5), (6, .int x6), (8, .int x8)]) hx hb dX9_layBest_164 hl (by decide) rfl (fun ls hl => ?_)
                  refine lv_iload hx hb dX9_layBest_166 (lv_at hl 1 rfl) ?_
                  refine lv_if_eq (tgt := 183) hx hb dX9_layBest_168 (by decide) (fun c28 => ?_) (fun c28 => ?_)
                  · have h := h.1 c28
                    refine lv_iload hx hb dX9_layBest_183 (lv_at hl 9 rfl) ?_
                    refine lv_istore (lv' := [(6, .int x6), (7, .int x7), (10, .int (0 : Int32)), (9, .int r3), (0, .ref (q 0)), (1, .int x1), (2, .int x2), (3, .int x3), (4, .int x4), (5, .int x5), (8, .int x8)]) hx hb dX9_layBest_185 hl (by decide) rfl (fun ls hl => ?_)
                    refine lv_iinc (v := (x8 + (1 : Int32))) (lv' := [(8, .int (x8 + (1 : Int32))), (6, .int x6), (7, .int x7), (10, .int (0 : Int32)), (9, .int r3), (0, .ref (q 0)), (1, .int x1), (2, .int x2), (3, .int x3), (4, .int x4), (5, .int x5)]) hx hb dX9_layBest_187 hl (k := 10) rfl rfl (by decide) rfl (fun ls hl => ?_)
                    refine lv_goto (tgt := 55) hx hb dX9_layBest_190 (by decide) ?_
                    exact ih x1 x2 x3 x4 x5 I F hs _ x6 x7 (x8 + (1 : Int32)) _ _ _  hP hS (lv_sub hl [5, 6, 7, 8, 9, 10, 1, 2, 0] rfl) h K
                  · have h := h.2 c28
                    refine lv_iload hx hb dX9_layBest_171 (lv_at hl 2 rfl) ?_
                    refine lv_iload hx hb dX9_layBest_173 (lv_at hl 9 rfl) ?_
                    refine lv_icmp_ge (tgt := 183) hx hb dX9_layBest_175 (by decide) (fun c29 => ?_) (fun c29 => ?_)
                    · have h := h.1 c29
                      refine lv_iload hx hb dX9_layBest_183 (lv_at hl 9 rfl) ?_
                      refine lv_istore (lv' := [(6, .int x6), (7, .int x7), (10, .int (0 : Int32)), (9, .int r3), (0, .ref (q 0)), (1, .int x1), (2, .int x2), (3, .int x3), (4, .int x4), (5, .int x5), (8, .int x8)]) hx hb dX9_layBest_185 hl (by decide) rfl (fun ls hl => ?_)
                      refine lv_iinc (v := (x8 + (1 : Int32))) (lv' := [(8, .int (x8 + (1 : Int32))), (6, .int x6), (7, .int x7), (10, .int (0 : Int32)), (9, .int r3), (0, .ref (q 0)), (1, .int x1), (2, .int x2), (3, .int x3), (4, .int x4), (5, .int x5)]) hx hb dX9_layBest_187 hl (k := 10) rfl rfl (by decide) rfl (fun ls hl => ?_)
                      refine lv_goto (tgt := 55) hx hb dX9_layBest_190 (by decide) ?_
                      exact ih x1 x2 x3 x4 x5 I F hs _ x6 x7 (x8 + (1 : Int32)) _ _ _  hP hS (lv_sub hl [5, 6, 7, 8, 9, 10, 1, 2, 0] rfl) h K
                    · have h := h.2 c29
                      refine lv_iload hx hb dX9_layBest_178 (lv_at hl 2 rfl) ?_
                      refine lv_goto (tgt := 185) hx hb dX9_layBest_180 (by decide) ?_
                      refine lv_istore (lv' := [(6, .int r3), (7, .int x7), (10, .int (0 : Int32)), (9, .int r3), (0, .ref (q 0)), (1, .int x1), (2, .int x2), (3, .int x3), (4, .int x4), (5, .int x5), (8, .int x8)]) hx hb dX9_layBest_185 hl (by decide) rfl (fun ls hl => ?_)
                      refine lv_iinc (v := (x8 + (1 : Int32))) (lv' := [(8, .int (x8 + (1 : Int32))), (6, .int r3), (7, .int x7), (10, .int (0 : Int32)), (9, .int r3), (0, .ref (q 0)), (1, .int x1), (2, .int x2), (3, .int x3), (4, .int x4), (5, .int x5)]) hx hb dX9_layBest_187 hl (k := 10) rfl rfl (by decide) rfl (fun ls hl => ?_)
                      refine lv_goto (tgt := 55) hx hb dX9_layBest_190 (by decide) ?_
                      exact ih x1 x2 x3 x4 x5 I F hs _ r3 x7 (x8 + (1 : Int32)) _ _ _  hP hS (lv_sub hl [5, 6, 7, 8, 9, 10, 1, 2, 0] rfl) h K
                · have h := h.2 c27
                  refine lv_iload hx hb dX9_layBest_146 (lv_at hl 1 rfl) ?_
                  refine lv_iload hx hb dX9_layBest_148 (lv_at hl 8 rfl) ?_
                  refine lv_icmp_ge (tgt := 162) hx hb dX9_layBest_150 (by decide) (fun c30 => ?_) (fun c30 => ?_)
                  · have h := h.1 c30
                    refine lv_iload hx hb dX9_layBest_162 (lv_at hl 9 rfl) ?_
                    refine lv_istore (lv' := [(7, .int x7), (10, .int (0 : Int32)), (9, .int r3), (0, .ref (q 0)), (1, .int x1), (2, .int x2), (3, .int x3), (4, .int x4), (5, .int x5), (6, .int x6), (8, .int x8)]) hx hb dX9_layBest_164 hl (by decide) rfl (fun ls hl => ?_)
                    refine lv_iload hx hb dX9_layBest_166 (lv_at hl 1 rfl) ?_
                    refine lv_if_eq (tgt := 183) hx hb dX9_layBest_168 (by decide) (fun c31 => ?_) (fun c31 => ?_)
                    · have h := h.1 c31
                      refine lv_iload hx hb dX9_layBest_183 (lv_at hl 9 rfl) ?_
                      refine lv_istore (lv' := [(6, .int x6), (7, .int x7), (10, .int (0 : Int32)), (9, .int r3), (0, .ref (q 0)), (1, .int x1), (2, .int x2), (3, .int x3), (4, .int x4), (5, .int x5), (8, .int x8)]) hx hb dX9_layBest_185 hl (by decide) rfl (fun ls hl => ?_)
                      refine lv_iinc (v := (x8 + (1 : Int32))) (lv' := [(8, .int (x8 + (1 : Int32))), (6, .int x6), (7, .int x7), (10, .int (0 : Int32)), (9, .int r3), (0, .ref (q 0)), (1, .int x1), (2, .int x2), (3, .int x3), (4, .int x4), (5, .int x5)]) hx hb dX9_layBest_187 hl (k := 10) rfl rfl (by decide) rfl (fun ls hl => ?_)
                      refine lv_goto (tgt := 55) hx hb dX9_layBest_190 (by decide) ?_
                      exact ih x1 x2 x3 x4 x5 I F hs _ x6 x7 (x8 + (1 : Int32)) _ _ _  hP hS (lv_sub hl [5, 6, 7, 8, 9, 10, 1, 2, 0] rfl) h K
                    · have h := h.2 c31
                      refine lv_iload hx hb dX9_layBest_171 (lv_at hl 2 rfl) ?_
                      refine lv_iload hx hb dX9_layBest_173 (lv_at hl 9 rfl) ?_
                      refine lv_icmp_ge (tgt := 183) hx hb dX9_layBest_175 (by decide) (fun c32 => ?_) (fun c32 => ?_)
                      · have h := h.1 c32
                        refine lv_iload hx hb dX9_layBest_183 (lv_at hl 9 rfl) ?_
                        refine lv_istore (lv' := [(6, .int x6), (7, .int x7), (10, .int (0 : Int32)), (9, .int r3), (0, .ref (q 0)), (1, .int x1), (2, .int x2), (3, .int x3), (4, .int x4), (5, .int x5), (8, .int x8)]) hx hb dX9_layBest_185 hl (by decide) rfl (fun ls hl => ?_)
                        refine lv_iinc (v := (x8 + (1 : Int32))) (lv' := [(8, .int (x8 + (1 : Int32))), (6, .int x6), (7, .int x7), (10, .int (0 : Int32)), (9, .int r3), (0, .ref (q 0)), (1, .int x1), (2, .int x2), (3, .int x3), (4, .int x4), (5, .int x5)]) hx hb dX9_layBest_187 hl (k := 10) rfl rfl (by decide) rfl (fun ls hl => ?_)
                        refine lv_goto (tgt := 55) hx hb dX9_layBest_190 (by decide) ?_
                        exact ih x1 x2 x3 x4 x5 I F hs _ x6 x7 (x8 + (1 : Int32)) _ _ _  hP hS (lv_sub hl [5, 6, 7, 8, 9, 10, 1, 2, 0] rfl) h K
                      · have h := h.2 c32
                        refine lv_iload hx hb dX9_layBest_178 (lv_at hl 2 rfl) ?_
                        refine lv_goto (tgt := 185) hx hb dX9_layBest_180 (by decide) ?_
                        refine lv_istore (lv' := [(6, .int r3), (7, .int x7), (10, .int (0 : Int32)), (9, .int r3), (0, .ref (q 0)), (1, .int x1), (2, .int x2), (3, .int x3), (4, .int x4), (5, .int x5), (8, .int x8)]) hx hb dX9_layBest_185 hl (by decide) rfl (fun ls hl => ?_)
                        refine lv_iinc (v := (x8 + (1 : Int32))) (lv' := [(8, .int (x8 + (1 : Int32))), (6, .int r3), (7, .int x7), (10, .int (0 : Int32)), (9, .int r3), (0, .ref (q 0)), (1, .int x1), (2, .int x2), (3, .int x3), (4, .int x4), (5, .int x5)]) hx hb dX9_layBest_187 hl (k := 10) rfl rfl (by decide) rfl (fun ls hl => ?_)
                        refine lv_goto (tgt := 55) hx hb dX9_layBest_190 (by decide) ?_
                        exact ih x1 x2 x3 x4 x5 I F hs _ r3 x7 (x8 + (1 : Int32)) _ _ _  hP hS (lv_sub hl [5, 6, 7, 8, 9, 10, 1, 2, 0] rfl) h K
                  · have h := h.2 c30
                    refine lv_aload_n hx hb dX9_layBest_153 rfl (lv_at hl 2 rfl) ?_
                    refine lv_iload hx hb dX9_layBest_154 (lv_at hl 10 rfl) ?_
                    refine gCallI (D := D) (va_runV (As := [.int x8]) (rest := []) ⟨hx, hb, hml, hown, hts⟩ (c_X9_movedBy l D q cI cO hq x8  I F hs _ h) (cwV 1 hts gX9_layBest_X9_movedBy rfl rfl rfl (by decide +kernel) ⟨Nat.le_trans (Nat.le_of_ble_eq_true rfl) hRf, Nat.le_trans (Nat.le_of_ble_eq_true rfl) hRl⟩) (gPreV (ci := 9) (q0 := 0) mEok hE hK hP hS rfl mAt0) rfl rfl hl.1 rfl (lv_room (Nat.le_of_ble_eq_true rfl)) dX9_layBest_156 ⟨Nat.zero_le _, Nat.zero_le _⟩) hS (fun r33 _ H locs hP hS h => ?_)
                    have hP : va_P D vwCl (mW q cI cO I F hs) H := hP
                    refine lv_goto (tgt := 164) hx hb dX9_layBest_159 (by decide) ?_
                    refine lv_istore (lv' := [(7, .int r33), (10, .int (0 : Int32)), (9, .int r3), (0, .ref (q 0)), (1, .int x1), (2, .int x2), (3, .int x3), (4, .int x4), (5, .int x5), (6, .int x6), (8, .int x8)]) hx hb dX9_layBest_164 hl (by decide) rfl (fun ls hl => ?_)
                    refine lv_iload hx hb dX9_layBest_166 (lv_at hl 1 rfl) ?_
                    refine lv_if_eq (tgt := 183) hx hb dX9_layBest_168 (by decide) (fun c34 => ?_) (fun c34 => ?_)
                    · have h := h.1 c34
                      refine lv_iload hx hb dX9_layBest_183 (lv_at hl 9 rfl) ?_
                      refine lv_istore (lv' := [(6, .int x6), (7, .int r33), (10, .int (0 : Int32)), (9, .int r3), (0, .ref (q 0)), (1, .int x1), (2, .int x2), (3, .int x3), (4, .int x4), (5, .int x5), (8, .int x8)]) hx hb dX9_layBest_185 hl (by decide) rfl (fun ls hl => ?_)
                      refine lv_iinc (v := (x8 + (1 : Int32))) (lv' := [(8, .int (x8 + (1 : Int32))), (6, .int x6), (7, .int r33), (10, .int (0 : Int32)), (9, .int r3), (0, .ref (q 0)), (1, .int x1), (2, .int x2), (3, .int x3), (4, .int x4), (5, .int x5)]) hx hb dX9_layBest_187 hl (k := 10) rfl rfl (by decide) rfl (fun ls hl => ?_)
                      refine lv_goto (tgt := 55) hx hb dX9_layBest_190 (by decide) ?_
                      exact ih x1 x2 x3 x4 x5 I F hs _ x6 r33 (x8 + (1 : Int32)) _ _ _  hP hS (lv_sub hl [5, 6, 7, 8, 9, 10, 1, 2, 0] rfl) h K
                    · have h := h.2 c34
                      refine lv_iload hx hb dX9_layBest_171 (lv_at hl 2 rfl) ?_
                      refine lv_iload hx hb dX9_layBest_173 (lv_at hl 9 rfl) ?_
                      refine lv_icmp_ge (tgt := 183) hx hb dX9_layBest_175 (by decide) (fun c35 => ?_) (fun c35 => ?_)
                      · have h := h.1 c35
                        refine lv_iload hx hb dX9_layBest_183 (lv_at hl 9 rfl) ?_
                        refine lv_istore (lv' := [(6, .int x6), (7, .int r33), (10, .int (0 : Int32)), (9, .int r3), (0, .ref (q 0)), (1, .int x1), (2, .int x2), (3, .int x3), (4, .int x4), (5, .int x5), (8, .int x8)]) hx hb dX9_layBest_185 hl (by decide) rfl (fun ls hl => ?_)
                        refine lv_iinc (v := (x8 + (1 : Int32))) (lv' := [(8, .int (x8 + (1 : Int32))), (6, .int x6), (7, .int r33), (10, .int (0 : Int32)), (9, .int r3), (0, .ref (q 0)), (1, .int x1), (2, .int x2), (3, .int x3), (4, .int x4), (5, .int x5)]) hx hb dX9_layBest_187 hl (k := 10) rfl rfl (by decide) rfl (fun ls hl => ?_)
                        refine lv_goto (tgt := 55) hx hb dX9_layBest_190 (by decide) ?_
                        exact ih x1 x2 x3 x4 x5 I F hs _ x6 r33 (x8 + (1 : Int32)) _ _ _  hP hS (lv_sub hl [5, 6, 7, 8, 9, 10, 1, 2, 0] rfl) h K
                      · have h := h.2 c35
                        refine lv_iload hx hb dX9_layBest_178 (lv_at hl 2 rfl) ?_
                        refine lv_goto (tgt := 185) hx hb dX9_layBest_180 (by decide) ?_
                        refine lv_istore (lv' := [(6, .int r3), (7, .int r33), (10, .int (0 : Int32)), (9, .int r3), (0, .ref (q 0)), (1, .int x1), (2, .int x2), (3, .int x3), (4, .int x4), (5, .int x5), (8, .int x8)]) hx hb dX9_layBest_185 hl (by decide) rfl (fun ls hl => ?_)
                        refine lv_iinc (v := (x8 + (1 : Int32))) (lv' := [(8, .int (x8 + (1 : Int32))), (6, .int r3), (7, .int r33), (10, .int (0 : Int32)), (9, .int r3), (0, .ref (q 0)), (1, .int x1), (2, .int x2), (3, .int x3), (4, .int x4), (5, .int x5)]) hx hb dX9_layBest_187 hl (k := 10) rfl rfl (by decide) rfl (fun ls hl => ?_)
                        refine lv_goto (tgt := 55) hx hb dX9_layBest_190 (by decide) ?_
                        exact ih x1 x2 x3 x4 x5 I F hs _ r3 r33 (x8 + (1 : Int32)) _ _ _  hP hS (lv_sub hl [5, 6, 7, 8, 9, 10, 1, 2, 0] rfl) h K
              · have h := h.2 c26
                refine lv_iconst (v := (1 : Int32)) hx hb dX9_layBest_134 (by decide) ?_
                refine lv_goto (tgt := 139) hx hb dX9_layBest_135 (by decide) ?_
                refine lv_istore (lv' := [(10, .int (1 : Int32)), (9, .int r3), (0, .ref (q 0)), (1, .int x1), (2, .int x2), (3, .int x3), (4, .int x4), (5, .int x5), (6, .int x6), (7, .int x7), (8, .int x8)]) hx hb dX9_layBest_139 hl (by decide) rfl (fun ls hl => ?_)
                refine lv_iload hx hb dX9_layBest_141 (lv_at hl 0 rfl) ?_
                refine lv_if_eq (tgt := 162) hx hb dX9_layBest_143 (by decide) (fun c36 => ?_) (fun c36 => ?_)
                · have h := h.1 c36
                  refine lv_iload hx hb dX9_layBest_162 (lv_at hl 9 rfl) ?_
                  refine lv_istore (lv' := [(7, .int x7), (10, .int (1 : Int32)), (9, .int r3), (0, .ref (q 0)), (1, .int x1), (2, .int x2), (3, .int x3), (4, .int x4), (5, .int x5), (6, .int x6), (8, .int x8)]) hx hb dX9_layBest_164 hl (by decide) rfl (fun ls hl => ?_)
                  refine lv_iload hx hb dX9_layBest_166 (lv_at hl 1 rfl) ?_
                  refine lv_if_eq (tgt := 183) hx hb dX9_layBest_168 (by decide) (fun c37 => ?_) (fun c37 => ?_)
                  · have h := h.1 c37
                    refine lv_iload hx hb dX9_layBest_183 (lv_at hl 9 rfl) ?_
                    refine lv_istore (lv' := [(6, .int x6), (7, .int x7), (10, .int (1 : Int32)), (9, .int r3), (0, .ref (q 0)), (1, .int x1), (2, .int x2), (3, .int x3), (4, .int x4), (5, .int x5), (8, .int x8)]) hx hb dX9_layBest_185 hl (by decide) rfl (fun ls hl => ?_)
                    refine lv_iinc (v := (x8 + (1 : Int32))) (lv' := [(8, .int (x8 + (1 : Int32))), (6, .int x6), (7, .int x7), (10, .int (1 : Int32)), (9, .int r3), (0, .ref (q 0)), (1, .int x1), (2, .int x2), (3, .int x3), (4, .int x4), (5, .int x5)]) hx hb dX9_layBest_187 hl (k := 10) rfl rfl (by decide) rfl (fun ls hl => ?_)
                    refine lv_goto (tgt := 55) hx hb dX9_layBest_190 (by decide) ?_
                    exact ih x1 x2 x3 x4 x5 I F hs _ x6 x7 (x8 + (1 : Int32)) _ _ _  hP hS (lv_sub hl [5, 6, 7, 8, 9, 10, 1, 2, 0] rfl) h K
                  · have h := h.2 c37
                    refine lv_iload hx hb dX9_layBest_171 (lv_at hl 2 rfl) ?_
                    refine lv_iload hx hb dX9_layBest_173 (lv_at hl 9 rfl) ?_
                    refine lv_icmp_ge (tgt := 183) hx hb dX9_layBest_175 (by decide) (fun c38 => ?_) (fun c38 => ?_)
                    · have h := h.1 c38
                      refine lv_iload hx hb dX9_layBest_183 (lv_at hl 9 rfl) ?_
                      refine lv_istore (lv' := [(6, .int x6), (7, .int x7), (10, .int (1 : Int32)), (9, .int r3), (0, .ref (q 0)), (1, .int x1), (2, .int x2), (3, .int x3), (4, .int x4), (5, .int x5), (8, .int x8)]) hx hb dX9_layBest_185 hl (by decide) rfl (fun ls hl => ?_)
                      refine lv_iinc (v := (x8 + (1 : Int32))) (lv' := [(8, .int (x8 + (1 : Int32))), (6, .int x6), (7, .int x7), (10, .int (1 : Int32)), (9, .int r3), (0, .ref (q 0)), (1, .int x1), (2, .int x2), (3, .int x3), (4, .int x4), (5, .int x5)]) hx hb dX9_layBest_187 hl (k := 10) rfl rfl (by decide) rfl (fun ls hl => ?_)
                      refine lv_goto (tgt := 55) hx hb dX9_layBest_190 (by decide) ?_
                      exact ih x1 x2 x3 x4 x5 I F hs _ x6 x7 (x8 + (1 : Int32)) _ _ _  hP hS (lv_sub hl [5, 6, 7, 8, 9, 10, 1, 2, 0] rfl) h K
                    · have h := h.2 c38
                      refine lv_iload hx hb dX9_layBest_178 (lv_at hl 2 rfl) ?_
                      refine lv_goto (tgt := 185) hx hb dX9_layBest_180 (by decide) ?_
                      refine lv_istore (lv' := [(6, .int r3), (7, .int x7), (10, .int (1 : Int32)), (9, .int r3), (0, .ref (q 0)), (1, .int x1), (2, .int x2), (3, .int x3), (4, .int x4), (5, .int x5), (8, .int x8)]) hx hb dX9_layBest_185 hl (by decide) rfl (fun ls hl => ?_)
                      refine lv_iinc (v := (x8 + (1 : Int32))) (lv' := [(8, .int (x8 + (1 : Int32))), (6, .int r3), (7, .int x7), (10, .int (1 : Int32)), (9, .int r3), (0, .ref (q 0)), (1, .int x1), (2, .int x2), (3, .int x3), (4, .int x4), (5, .int x5)]) hx hb dX9_layBest_187 hl (k := 10) rfl rfl (by decide) rfl (fun ls hl => ?_)
                      refine lv_goto (tgt := 55) hx hb dX9_layBest_190 (by decide) ?_
                      exact ih x1 x2 x3 x4 x5 I F hs _ r3 x7 (x8 + (1 : Int32)) _ _ _  hP hS (lv_sub hl [5, 6, 7, 8, 9, 10, 1, 2, 0] rfl) h K
                · have h := h.2 c36
                  refine lv_iload hx hb dX9_layBest_146 (lv_at hl 1 rfl) ?_
                  refine lv_iload hx hb dX9_layBest_148 (lv_at hl 8 rfl) ?_
                  refine lv_icmp_ge (tgt := 162) hx hb dX9_layBest_150 (by decide) (fun c39 => ?_) (fun c39 => ?_)
                  · have h := h.1 c39
                    refine lv_iload hx hb dX9_layBest_162 (lv_at hl 9 rfl) ?_
                    refine lv_istore (lv' := [(7, .int x7), (10, .int (1 : Int32)), (9, .int r3), (0, .ref (q 0)), (1, .int x1), (2, .int x2), (3, .int x3), (4, .int x4), (5, .int x5), (6, .int x6), (8, .int x8)]) hx hb dX9_layBest_164 hl (by decide) rfl (fun ls hl => ?_)
                    refine lv_iload hx hb dX9_layBest_166 (lv_at hl 1 rfl) ?_
                    refine lv_if_eq (tgt := 183) hx hb dX9_layBest_168 (by decide) (fun c40 => ?_) (fun c40 => ?_)
                    · have h := h.1 c40
                      refine lv_iload hx hb dX9_layBest_183 (lv_at hl 9 rfl) ?_
                      refine lv_istore (lv' := [(6, .int x6), (7, .int x7), (10, .int (1 : Int32)), (9, .int r3), (0, .ref (q 0)), (1, .int x1), (2, .int x2), (3, .int x3), (4, .int x4), (5, .int x5), (8, .int x8)]) hx hb dX9_layBest_185 hl (by decide) rfl (fun ls hl => ?_)
                      refine lv_iinc (v := (x8 + (1 : Int32))) (lv' := [(8, .int (x8 + (1 : Int32))), (6, .int x6), (7, .int x7), (10, .int (1 : Int32)), (9, .int r3), (0, .ref (q 0)), (1, .int x1), (2, .int x2), (3, .int x3), (4, .int x4), (5, .int x5)]) hx hb dX9_layBest_187 hl (k := 10) rfl rfl (by decide) rfl (fun ls hl => ?_)
                      refine lv_goto (tgt := 55) hx hb dX9_layBest_190 (by decide) ?_
                      exact ih x1 x2 x3 x4 x5 I F hs _ x6 x7 (x8 + (1 : Int32)) _ _ _  hP hS (lv_sub hl [5, 6, 7, 8, 9, 10, 1, 2, 0] rfl) h K
                    · have h := h.2 c40
                      refine lv_iload hx hb dX9_layBest_171 (lv_at hl 2 rfl) ?_
                      refine lv_iload hx hb dX9_layBest_173 (lv_at hl 9 rfl) ?_
                      refine lv_icmp_ge (tgt := 183) hx hb dX9_layBest_175 (by decide) (fun c41 => ?_) (fun c41 => ?_)
                      · have h := h.1 c41
                        refine lv_iload hx hb dX9_layBest_183 (lv_at hl 9 rfl) ?_
                        refine lv_istore (lv' := [(6, .int x6), (7, .int x7), (10, .int (1 : Int32)), (9, .int r3), (0, .ref (q 0)), (1, .int x1), (2, .int x2), (3, .int x3), (4, .int x4), (5, .int x5), (8, .int x8)]) hx hb dX9_layBest_185 hl (by decide) rfl (fun ls hl => ?_)
                        refine lv_iinc (v := (x8 + (1 : Int32))) (lv' := [(8, .int (x8 + (1 : Int32))), (6, .int x6), (7, .int x7), (10, .int (1 : Int32)), (9, .int r3), (0, .ref (q 0)), (1, .int x1), (2, .int x2), (3, .int x3), (4, .int x4), (5, .int x5)]) hx hb dX9_layBest_187 hl (k := 10) rfl rfl (by decide) rfl (fun ls hl => ?_)
                        refine lv_goto (tgt := 55) hx hb dX9_layBest_190 (by decide) ?_
                        exact ih x1 x2 x3 x4 x5 I F hs _ x6 x7 (x8 + (1 : Int32)) _ _ _  hP hS (lv_sub hl [5, 6, 7, 8, 9, 10, 1, 2, 0] rfl) h K
                      · have h := h.2 c41
                        refine lv_iload hx hb dX9_layBest_178 (lv_at hl 2 rfl) ?_
                        refine lv_goto (tgt := 185) hx hb dX9_layBest_180 (by decide) ?_
                        refine lv_istore (lv' := [(6, .int r3), (7, .int x7), (10, .int (1 : Int32)), (9, .int r3), (0, .ref (q 0)), (1, .int x1), (2, .int x2), (3, .int x3), (4, .int x4), (5, .int x5), (8, .int x8)]) hx hb dX9_layBest_185 hl (by decide) rfl (fun ls hl => ?_)
                        refine lv_iinc (v := (x8 + (1 : Int32))) (lv' := [(8, .int (x8 + (1 : Int32))), (6, .int r3), (7, .int x7), (10, .int (1 : Int32)), (9, .int r3), (0, .ref (q 0)), (1, .int x1), (2, .int x2), (3, .int x3), (4, .int x4), (5, .int x5)]) hx hb dX9_layBest_187 hl (k := 10) rfl rfl (by decide) rfl (fun ls hl => ?_)
                        refine lv_goto (tgt := 55) hx hb dX9_layBest_190 (by decide) ?_
                        exact ih x1 x2 x3 x4 x5 I F hs _ r3 x7 (x8 + (1 : Int32)) _ _ _  hP hS (lv_sub hl [5, 6, 7, 8, 9, 10, 1, 2, 0] rfl) h K
                  · have h := h.2 c39
                    refine lv_aload_n hx hb dX9_layBest_153 rfl (lv_at hl 2 rfl) ?_
                    refine lv_iload hx hb dX9_layBest_154 (lv_at hl 10 rfl) ?_
                    refine gCallI (D := D) (va_runV (As := [.int x8]) (rest := []) ⟨hx, hb, hml, hown, hts⟩ (c_X9_movedBy l D q cI cO hq x8  I F hs _ h) (cwV 1 hts gX9_layBest_X9_movedBy rfl rfl rfl (by decide +kernel) ⟨Nat.le_trans (Nat.le_of_ble_eq_true rfl) hRf, Nat.le_trans (Nat.le_of_ble_eq_true rfl) hRl⟩) (gPreV (ci := 9) (q0 := 0) mEok hE hK hP hS rfl mAt0) rfl rfl hl.1 rfl (lv_room (Nat.le_of_ble_eq_true rfl)) dX9_layBest_156 ⟨Nat.zero_le _, Nat.zero_le _⟩) hS (fun r42 _ H locs hP hS h => ?_)
                    have hP : va_P D vwCl (mW q cI cO I F hs) H := hP
                    refine lv_goto (tgt := 164) hx hb dX9_layBest_159 (by decide) ?_
                    refine lv_istore (lv' := [(7, .int r42), (10, .int (1 : Int32)), (9, .int r3), (0, .ref (q 0)), (1, .int x1), (2, .int x2), (3, .int x3), (4, .int x4), (5, .int x5), (6, .int x6), (8, .int x8)]) hx hb dX9_layBest_164 hl (by decide) rfl (fun ls hl => ?_)
                    refine lv_iload hx hb dX9_layBest_166 (lv_at hl 1 rfl) ?_
                    refine lv_if_eq (tgt := 183) hx hb dX9_layBest_168 (by decide) (fun c43 => ?_) (fun c43 => ?_)
                    · have h := h.1 c43
                      refine lv_iload hx hb dX9_layBest_183 (lv_at hl 9 rfl) ?_
                      refine lv_istore (lv' := [(6, .int x6), (7, .int r42), (10, .int (1 : Int32)), (9, .int r3), (0, .ref (q 0)), (1, .int x1), (2, .int x2), (3, .int x3), (4, .int x4), (5, .int x5), (8, .int x8)]) hx hb dX9_layBest_185 hl (by decide) rfl (fun ls hl => ?_)
                      refine lv_iinc (v := (x8 + (1 : Int32))) (lv' := [(8, .int (x8 + (1 : Int32))), (6, .int x6), (7, .int r42), (10, .int (1 : Int32)), (9, .int r3), (0, .ref (q 0)), (1, .int x1), (2, .int x2), (3, .int x3), (4, .int x4), (5, .int x5)]) hx hb dX9_layBest_187 hl (k := 10) rfl rfl (by decide) rfl (fun ls hl => ?_)
                      refine lv_goto (tgt := 55) hx hb dX9_layBest_190 (by decide) ?_
                      exact ih x1 x2 x3 x4 x5 I F hs _ x6 r42 (x8 + (1 : Int32)) _ _ _  hP hS (lv_sub hl [5, 6, 7, 8, 9, 10, 1, 2, 0] rfl) h K
                    · have h := h.2 c43
                      refine lv_iload hx hb dX9_layBest_171 (lv_at hl 2 rfl) ?_
                      refine lv_iload hx hb dX9_layBest_173 (lv_at hl 9 rfl) ?_
                      refine lv_icmp_ge (tgt := 183) hx hb dX9_layBest_175 (by decide) (fun c44 => ?_) (fun c44 => ?_)
                      · have h := h.1 c44
                        refine lv_iload hx hb dX9_layBest_183 (lv_at hl 9 rfl) ?_
                        refine lv_istore (lv' := [(6, .int x6), (7, .int r42), (10, .int (1 : Int32)), (9, .int r3), (0, .ref (q 0)), (1, .int x1), (2, .int x2), (3, .int x3), (4, .int x4), (5, .int x5), (8, .int x8)]) hx hb dX9_layBest_185 hl (by decide) rfl (fun ls hl => ?_)
                        refine lv_iinc (v := (x8 + (1 : Int32))) (lv' := [(8, .int (x8 + (1 : Int32))), (6, .int x6), (7, .int r42), (10, .int (1 : Int32)), (9, .int r3), (0, .ref (q 0)), (1, .int x1), (2, .int x2), (3, .int x3), (4, .int x4), (5, .int x5)]) hx hb dX9_layBest_187 hl (k := 10) rfl rfl (by decide) rfl (fun ls hl => ?_)
                        refine lv_goto (tgt := 55) hx hb dX9_layBest_190 (by decide) ?_
                        exact ih x1 x2 x3 x4 x5 I F hs _ x6 r42 (x8 + (1 : Int32)) _ _ _  hP hS (lv_sub hl [5, 6, 7, 8, 9, 10, 1, 2, 0] rfl) h K
                      · have h := h.2 c44
                        refine lv_iload hx hb dX9_layBest_178 (lv_at hl 2 rfl) ?_
                        refine lv_goto (tgt := 185) hx hb dX9_layBest_180 (by decide) ?_
                        refine lv_istore (lv' := [(6, .int r3), (7, .int r42), (10, .int (1 : Int32)), (9, .int r3), (0, .ref (q 0)), (1, .int x1), (2, .int x2), (3, .int x3), (4, .int x4), (5, .int x5), (8, .int x8)]) hx hb dX9_layBest_185 hl (by decide) rfl (fun ls hl => ?_)
                        refine lv_iinc (v := (x8 + (1 : Int32))) (lv' := [(8, .int (x8 + (1 : Int32))), (6, .int r3), (7, .int r42), (10, .int (1 : Int32)), (9, .int r3), (0, .ref (q 0)), (1, .int x1), (2, .int x2), (3, .int x3), (4, .int x4), (5, .int x5)]) hx hb dX9_layBest_187 hl (k := 10) rfl rfl (by decide) rfl (fun ls hl => ?_)
                        refine lv_goto (tgt := 55) hx hb dX9_layBest_190 (by decide) ?_
                        exact ih x1 x2 x3 x4 x5 I F hs _ r3 r42 (x8 + (1 : Int32)) _ _ _  hP hS (lv_sub hl [5, 6, 7, 8, 9, 10, 1, 2, 0] rfl) h K
  have L12 : ∀ (n : Nat)  (k : Int32 → Int32 → Int32 → (Nat → Int32) → (Nat → Nat → Int32) → Int64 → Prop) (x1 : Int32) (x2 : Int32) (x3 : Int32) (I : Nat → Int32) (F : Nat → Nat → Int32) (hs : Int64) (H : Heap) (locs : List Loc) (ls : Array Slot), va_P D vwCl (mW q cI cO I F hs) H → va_S (mA q) s.heap H locs → lv_has ls 11 [(0, .ref (q 0)), (1, .int x1), (2, .int x2), (3, .int x3)] → gLN (fun ag v => w_X9_layBest_B12  k (fun b0 b1 b2 b3 b4 b5 => ag (b0, b1, b2, b3, b4, b5)) v.1 v.2.1 v.2.2.1 v.2.2.2.1 v.2.2.2.2.1 v.2.2.2.2.2) n (x1, x2, x3, I, F, hs) → (∀ (x1 : Int32) (x2 : Int32) (x3 : Int32) (I : Nat → Int32) (F : Nat → Nat → Int32) (hs : Int64) (H : Heap) (locs : List Loc) (ls : Array Slot), va_P D vwCl (mW q cI cO I F hs) H → va_S (mA q) s.heap H locs → lv_has ls 11 [] → k x1 x2 x3 I F hs → W p l e R s m args below meth c H locs 0 0 Q (F0 m 239 ls [])) → W p l e R s m args below meth c H locs 0 0 Q (F0 m 12 ls []) := by
    intro n
    induction n with
    | zero =>
      intro  k x1 x2 x3 I F hs H locs ls  hP hS hl h K
      exact False.elim h
    | succ n ih =>
      intro  k x1 x2 x3 I F hs H locs ls  hP hS hl h K
      have h : w_X9_layBest_B12  k (fun b0 b1 b2 b3 b4 b5 => gLN (fun ag v => w_X9_layBest_B12  k (fun b0 b1 b2 b3 b4 b5 => ag (b0, b1, b2, b3, b4, b5)) v.1 v.2.1 v.2.2.1 v.2.2.2.1 v.2.2.2.2.1 v.2.2.2.2.2) n (b0, b1, b2, b3, b4, b5)) x1 x2 x3 I F hs := h
      refine lv_iload_n hx hb dX9_layBest_12 rfl (lv_at hl 3 rfl) ?_
      refine lv_aload_n hx hb dX9_layBest_13 rfl (lv_at hl 0 rfl) ?_
      refine va_get (D := D) (ci := 9) (v := .int (I 3)) (C := RX9) (T := TX9) (N := 44) hx hb hts (fun _ h9 => List.mem_cons_of_mem _ (List.mem_append_right _ h9)) hown hK hP 0 mAt0 rfl 16 (by decide) (hts _ (List.mem_of_getElem? (l := wsX9_layBest) (i := 3) rfl)) (fun _ h9 => h9) rfl dX9_layBest_14 ?_
      refine lv_icmp_ge (tgt := 239) hx hb dX9_layBest_17 (by decide) (fun c45 => ?_) (fun c45 => ?_)
      · have h := h.1 c45
        exact K x1 x2 x3 I F hs _ _ _  hP hS (lv_sub hl [] rfl) h
      · have h := h.2 c45
        refine lv_aload_n hx hb dX9_layBest_20 rfl (lv_at hl 0 rfl) ?_
        refine lv_iload_n hx hb dX9_layBest_21 rfl (lv_at hl 1 rfl) ?_
        refine lv_aload_n hx hb dX9_layBest_22 rfl (lv_at hl 0 rfl) ?_
        refine lv_iload_n hx hb dX9_layBest_23 rfl (lv_at hl 3 rfl) ?_
        refine lv_iconst (v := (0 : Int32)) hx hb dX9_layBest_24 (by decide) ?_
        refine gCallI (D := D) (va_runV (As := [.int x3, .int (0 : Int32)]) (rest := [.int x1, .ref (q 0)]) ⟨hx, hb, hml, hown, hts⟩ (c_X9_heldBy l D q cI cO hq x3 (0 : Int32)  I F hs _ h) (cwV 2 hts gX9_layBest_X9_heldBy rfl rfl rfl (by decide +kernel) ⟨Nat.le_trans (Nat.le_of_ble_eq_true rfl) hRf, Nat.le_trans (Nat.le_of_ble_eq_true rfl) hRl⟩) (gPreV (ci := 9) (q0 := 0) mEok hE hK hP hS rfl mAt0) rfl rfl hl.1 rfl (lv_room (Nat.le_of_ble_eq_true rfl)) dX9_layBest_25 ⟨Nat.zero_le _, Nat.zero_le _⟩) hS (fun r46 _ H locs hP hS h => ?_)
        have hP : va_P D vwCl (mW q cI cO I F hs) H := hP
        refine gCallI (D := D) (va_runV (As := [.int x1, .int r46]) (rest := []) ⟨hx, hb, hml, hown, hts⟩ (c_X9_heldPedals l D q cI cO hq x1 r46  I F hs _ h) (cwV 2 hts gX9_layBest_X9_heldPedals rfl rfl rfl (by decide +kernel) ⟨Nat.le_trans (Nat.le_of_ble_eq_true rfl) hRf, Nat.le_trans (Nat.le_of_ble_eq_true rfl) hRl⟩) (gPreV (ci := 9) (q0 := 0) mEok hE hK hP hS rfl mAt0) rfl rfl hl.1 rfl (lv_room (Nat.le_of_ble_eq_true rfl)) dX9_layBest_28 ⟨Nat.zero_le _, Nat.zero_le _⟩) hS (fun r47 _ H locs hP hS h => ?_)
        have hP : va_P D vwCl (mW q cI cO I F hs) H := hP
        refine lv_istore (lv' := [(4, .int r47), (0, .ref (q 0)), (1, .int x1), (2, .int x2), (3, .int x3)]) hx hb dX9_layBest_31 hl (by decide) rfl (fun ls hl => ?_)
        refine lv_aload_n hx hb dX9_layBest_33 rfl (lv_at hl 1 rfl) ?_
        refine va_get (D := D) (ci := 9) (v := .ref (q 14)) (C := RX9) (T := TX9) (N := 44) hx hb hts (fun _ h9 => List.mem_cons_of_mem _ (List.mem_append_right _ h9)) hown hK hP 0 mAt0 rfl 19 (by decide) (hts _ (List.mem_of_getElem? (l := wsX9_layBest) (i := 4) rfl)) (fun _ h9 => h9) rfl dX9_layBest_34 ?_
        refine lv_iload_n hx hb dX9_layBest_37 rfl (lv_at hl 4 rfl) ?_
        refine va_iald (D := D) hx hb hK hP 14 0 mAr14 rfl h.1 dX9_layBest_38 ?_
        have h := h.2
        refine gCallI (D := D) (va_runS (As := [.int (F 14 (x3).toNatClampNeg)]) (rest := []) ⟨hx, hb, hml, hown, hts⟩ (c_X9_mostOf l D q cI cO hq (F 14 (x3).toNatClampNeg)  I F hs _ h) (va_cwS 1 hts gX9_layBest_X9_mostOf rfl rfl rfl (by decide +kernel) ⟨Nat.le_trans (Nat.le_of_ble_eq_true rfl) hRf, Nat.le_trans (Nat.le_of_ble_eq_true rfl) hRl⟩) (gPreS mEok hE hK hP hS) rfl rfl hl.1 rfl (lv_room (Nat.le_of_ble_eq_true rfl)) dX9_layBest_39 ⟨Nat.zero_le _, Nat.zero_le _⟩) hS (fun r48 _ H locs hP hS h => ?_)
        have hP : va_P D vwCl (mW q cI cO I F hs) H := hP
        refine lv_istore (lv' := [(5, .int r48), (4, .int r47), (0, .ref (q 0)), (1, .int x1), (2, .int x2), (3, .int x3)]) hx hb dX9_layBest_42 hl (by decide) rfl (fun ls hl => ?_)
        refine lv_sipush (v := (2187 : Int32)) hx hb dX9_layBest_44 (by decide) ?_
        refine lv_istore (lv' := [(6, .int (2187 : Int32)), (5, .int r48), (4, .int r47), (0, .ref (q 0)), (1, .int x1), (2, .int x2), (3, .int x3)]) hx hb dX9_layBest_47 hl (by decide) rfl (fun ls hl => ?_)
        refine lv_iconst (v := (0 : Int32)) hx hb dX9_layBest_49 (by decide) ?_
        refine lv_istore (lv' := [(7, .int (0 : Int32)), (6, .int (2187 : Int32)), (5, .int r48), (4, .int r47), (0, .ref (q 0)), (1, .int x1), (2, .int x2), (3, .int x3)]) hx hb dX9_layBest_50 hl (by decide) rfl (fun ls hl => ?_)
        refine lv_iconst (v := (0 : Int32)) hx hb dX9_layBest_52 (by decide) ?_
        refine lv_istore (lv' := [(8, .int (0 : Int32)), (7, .int (0 : Int32)), (6, .int (2187 : Int32)), (5, .int r48), (4, .int r47), (0, .ref (q 0)), (1, .int x1), (2, .int x2), (3, .int x3)]) hx hb dX9_layBest_53 hl (by decide) rfl (fun ls hl => ?_)
        obtain ⟨n, h⟩ := h
        refine L55 n x1 x2 x3 r47 r48 I F hs _ (2187 : Int32) (0 : Int32) (0 : Int32) _ _ _  hP hS (lv_sub hl [5, 6, 7, 8, 4, 3, 2, 1, 0] rfl) h (fun y49 y50 y51 H locs ls  hP hS hl h => ?_)
        refine lv_aload_n hx hb dX9_layBest_193 rfl (lv_at hl 0 rfl) ?_
        refine va_get (D := D) (ci := 9) (v := .ref (q 20)) (C := RX9) (T := TX9) (N := 44) hx hb hts (fun _ h9 => List.mem_cons_of_mem _ (List.mem_append_right _ h9)) hown hK hP 0 mAt0 rfl 29 (by decide) (hts _ (List.mem_of_getElem? (l := wsX9_layBest) (i := 8) rfl)) (fun _ h9 => h9) rfl dX9_layBest_194 ?_
        refine lv_iload_n hx hb dX9_layBest_197 rfl (lv_at hl 3 rfl) ?_
        refine lv_iload hx hb dX9_layBest_198 (lv_at hl 4 rfl) ?_
        refine lv_sipush (v := (2187 : Int32)) hx hb dX9_layBest_200 (by decide) ?_
        refine lv_icmp_ne (tgt := 210) hx hb dX9_layBest_203 (by decide) (fun c52 => ?_) (fun c52 => ?_)
        · have h := h.1 c52
          refine lv_iload hx hb dX9_layBest_210 (lv_at hl 4 rfl) ?_
          refine gAst (D := D) hx hb hK hP (mD hq) hS 20 0 mAr20 rfl h.1 dX9_layBest_212 (mSA20 _) (fun H locs hP hS => ?_)
          obtain ⟨F53, eF53⟩ : ∃ z : Nat → Nat → Int32, z = upF F 20 (upd (F 20) (x3).toNatClampNeg y49) := ⟨_, rfl⟩
          rw [← eF53] at hP
          have h := h.2 F53 eF53
          refine lv_iload hx hb dX9_layBest_213 (lv_at hl 4 rfl) ?_
          refine lv_sipush (v := (2187 : Int32)) hx hb dX9_layBest_215 (by decide) ?_
          refine lv_icmp_ne (tgt := 225) hx hb dX9_layBest_218 (by decide) (fun c54 => ?_) (fun c54 => ?_)
          · have h := h.1 c54
            refine lv_iload hx hb dX9_layBest_225 (lv_at hl 4 rfl) ?_
            refine lv_istore_n (lv' := [(1, .int y49), (0, .ref (q 0)), (2, .int x2), (3, .int x3), (6, .int y49), (7, .int y50)]) hx hb dX9_layBest_227 rfl hl (by decide) rfl (fun ls hl => ?_)
            refine lv_iload_n hx hb dX9_layBest_228 rfl (lv_at hl 2 rfl) ?_
            refine lv_iload hx hb dX9_layBest_229 (lv_at hl 5 rfl) ?_
            refine lv_isub hx hb dX9_layBest_231 ?_
            refine lv_topi (fun v55 ev55 => ?_)
            have h := h v55 ev55
            refine lv_istore_n (lv' := [(2, .int v55), (1, .int y49), (0, .ref (q 0)), (3, .int x3), (6, .int y49), (7, .int y50)]) hx hb dX9_layBest_232 rfl hl (by decide) rfl (fun ls hl => ?_)
            refine lv_iinc (v := (x3 + (1 : Int32))) (lv' := [(3, .int (x3 + (1 : Int32))), (2, .int v55), (1, .int y49), (0, .ref (q 0)), (6, .int y49), (7, .int y50)]) hx hb dX9_layBest_233 hl (k := 3) rfl rfl (by decide) rfl (fun ls hl => ?_)
            refine lv_goto (tgt := 12) hx hb dX9_layBest_236 (by decide) ?_
            exact ih  _ y49 v55 (x3 + (1 : Int32)) I F53 hs _ _ _  hP hS (lv_sub hl [3, 2, 1, 0] rfl) h K
          · have h := h.2 c54
            refine lv_iload_n hx hb dX9_layBest_221 rfl (lv_at hl 1 rfl) ?_
            refine lv_goto (tgt := 227) hx hb dX9_layBest_222 (by decide) ?_
            refine lv_istore_n (lv' := [(1, .int x1), (0, .ref (q 0)), (2, .int x2), (3, .int x3), (6, .int y49), (7, .int y50)]) hx hb dX9_layBest_227 rfl hl (by decide) rfl (fun ls hl => ?_)
            refine lv_iload_n hx hb dX9_layBest_228 rfl (lv_at hl 2 rfl) ?_
            refine lv_iload hx hb dX9_layBest_229 (lv_at hl 5 rfl) ?_
            refine lv_isub hx hb dX9_layBest_231 ?_
            refine lv_topi (fun v56 ev56 => ?_)
            have h := h v56 ev56
            refine lv_istore_n (lv' := [(2, .int v56), (1, .int x1), (0, .ref (q 0)), (3, .int x3), (6, .int y49), (7, .int y50)]) hx hb dX9_layBest_232 rfl hl (by decide) rfl (fun ls hl => ?_)
            refine lv_iinc (v := (x3 + (1 : Int32))) (lv' := [(3, .int (x3 + (1 : Int32))), (2, .int v56), (1, .int x1), (0, .ref (q 0)), (6, .int y49), (7, .int y50)]) hx hb dX9_layBest_233 hl (k := 3) rfl rfl (by decide) rfl (fun ls hl => ?_)
            refine lv_goto (tgt := 12) hx hb dX9_layBest_236 (by decide) ?_
            exact ih  _ x1 v56 (x3 + (1 : Int32)) I F53 hs _ _ _  hP hS (lv_sub hl [3, 2, 1, 0] rfl) h K
        · have h := h.2 c52
          refine lv_iconst (v := (-1 : Int32)) hx hb dX9_layBest_206 (by decide) ?_
          refine lv_goto (tgt := 212) hx hb dX9_layBest_207 (by decide) ?_
          refine gAst (D := D) hx hb hK hP (mD hq) hS 20 0 mAr20 rfl h.1 dX9_layBest_212 (mSA20 _) (fun H locs hP hS => ?_)
          obtain ⟨F57, eF57⟩ : ∃ z : Nat → Nat → Int32, z = upF F 20 (upd (F 20) (x3).toNatClampNeg (-1 : Int32)) := ⟨_, rfl⟩
          rw [← eF57] at hP
          have h := h.2 F57 eF57
          refine lv_iload hx hb dX9_layBest_213 (lv_at hl 4 rfl) ?_
          refine lv_sipush (v := (2187 : Int32)) hx hb dX9_layBest_215 (by decide) ?_
          refine lv_icmp_ne (tgt := 225) hx hb dX9_layBest_218 (by decide) (fun c58 => ?_) (fun c58 => ?_)
          · have h := h.1 c58
            refine lv_iload hx hb dX9_layBest_225 (lv_at hl 4 rfl) ?_
            refine lv_istore_n (lv' := [(1, .int y49), (0, .ref (q 0)), (2, .int x2), (3, .int x3), (6, .int y49), (7, .int y50)]) hx hb dX9_layBest_227 rfl hl (by decide) rfl (fun ls hl => ?_)
            refine lv_iload_n hx hb dX9_layBest_228 rfl (lv_at hl 2 rfl) ?_
            refine lv_iload hx hb dX9_layBest_229 (lv_at hl 5 rfl) ?_
            refine lv_isub hx hb dX9_layBest_231 ?_
            refine lv_topi (fun v59 ev59 => ?_)
            have h := h v59 ev59
            refine lv_istore_n (lv' := [(2, .int v59), (1, .int y49), (0, .ref (q 0)), (3, .int x3), (6, .int y49), (7, .int y50)]) hx hb dX9_layBest_232 rfl hl (by decide) rfl (fun ls hl => ?_)
            refine lv_iinc (v := (x3 + (1 : Int32))) (lv' := [(3, .int (x3 + (1 : Int32))), (2, .int v59), (1, .int y49), (0, .ref (q 0)), (6, .int y49), (7, .int y50)]) hx hb dX9_layBest_233 hl (k := 3) rfl rfl (by decide) rfl (fun ls hl => ?_)
            refine lv_goto (tgt := 12) hx hb dX9_layBest_236 (by decide) ?_
            exact ih  _ y49 v59 (x3 + (1 : Int32)) I F57 hs _ _ _  hP hS (lv_sub hl [3, 2, 1, 0] rfl) h K
          · have h := h.2 c58
            refine lv_iload_n hx hb dX9_layBest_221 rfl (lv_at hl 1 rfl) ?_
            refine lv_goto (tgt := 227) hx hb dX9_layBest_222 (by decide) ?_
            refine lv_istore_n (lv' := [(1, .int x1), (0, .ref (q 0)), (2, .int x2), (3, .int x3), (6, .int y49), (7, .int y50)]) hx hb dX9_layBest_227 rfl hl (by decide) rfl (fun ls hl => ?_)
            refine lv_iload_n hx hb dX9_layBest_228 rfl (lv_at hl 2 rfl) ?_
            refine lv_iload hx hb dX9_layBest_229 (lv_at hl 5 rfl) ?_
            refine lv_isub hx hb dX9_layBest_231 ?_
            refine lv_topi (fun v60 ev60 => ?_)
            have h := h v60 ev60
            refine lv_istore_n (lv' := [(2, .int v60), (1, .int x1), (0, .ref (q 0)), (3, .int x3), (6, .int y49), (7, .int y50)]) hx hb dX9_layBest_232 rfl hl (by decide) rfl (fun ls hl => ?_)
            refine lv_iinc (v := (x3 + (1 : Int32))) (lv' := [(3, .int (x3 + (1 : Int32))), (2, .int v60), (1, .int x1), (0, .ref (q 0)), (6, .int y49), (7, .int y50)]) hx hb dX9_layBest_233 hl (k := 3) rfl rfl (by decide) rfl (fun ls hl => ?_)
            refine lv_goto (tgt := 12) hx hb dX9_layBest_236 (by decide) ?_
            exact ih  _ x1 v60 (x3 + (1 : Int32)) I F57 hs _ _ _  hP hS (lv_sub hl [3, 2, 1, 0] rfl) h K
  refine lv_aload_n hx hb dX9_layBest_0 rfl (lv_at hl 0 rfl) ?_
  refine va_get (D := D) (ci := 9) (v := .int (I 4)) (C := RX9) (T := TX9) (N := 44) hx hb hts (fun _ h9 => List.mem_cons_of_mem _ (List.mem_append_right _ h9)) hown hK hP 0 mAt0 rfl 17 (by decide) (hts _ (List.mem_of_getElem? (l := wsX9_layBest) (i := 1) rfl)) (fun _ h9 => h9) rfl dX9_layBest_1 ?_
  refine lv_topi (fun v61 ev61 => ?_)
  have h := h v61 ev61
  refine lv_istore_n (lv' := [(1, .int v61), (0, .ref (q 0))]) hx hb dX9_layBest_4 rfl hl (by decide) rfl (fun ls hl => ?_)
  refine lv_aload_n hx hb dX9_layBest_5 rfl (lv_at hl 1 rfl) ?_
  refine va_get (D := D) (ci := 9) (v := .int (I 7)) (C := RX9) (T := TX9) (N := 44) hx hb hts (fun _ h9 => List.mem_cons_of_mem _ (List.mem_append_right _ h9)) hown hK hP 0 mAt0 rfl 26 (by decide) (hts _ (List.mem_of_getElem? (l := wsX9_layBest) (i := 2) rfl)) (fun _ h9 => h9) rfl dX9_layBest_6 ?_
  refine lv_topi (fun v62 ev62 => ?_)
  have h := h v62 ev62
  refine lv_istore_n (lv' := [(2, .int v62), (1, .int v61), (0, .ref (q 0))]) hx hb dX9_layBest_9 rfl hl (by decide) rfl (fun ls hl => ?_)
  refine lv_iconst (v := (0 : Int32)) hx hb dX9_layBest_10 (by decide) ?_
  refine lv_istore_n (lv' := [(3, .int (0 : Int32)), (2, .int v62), (1, .int v61), (0, .ref (q 0))]) hx hb dX9_layBest_11 rfl hl (by decide) rfl (fun ls hl => ?_)
  obtain ⟨n, h⟩ := h
  refine L12 n  _ v61 v62 (0 : Int32) I F hs _ _ _  hP hS (lv_sub hl [3, 2, 1, 0] rfl) h (fun y63 y64 y65 I66 F67 hs68 H locs ls  hP hS hl h => ?_)
  exact hret (I66, F67, hs68) _ _ _ _ dX9_layBest_239 hP hS h
