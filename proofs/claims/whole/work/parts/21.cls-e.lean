def w_X3_spreadByRight_9_r_B49 (x1 : Nat) (x2 : Int32) (x3 : Int32) (x4 : Int32) (x5 : Int32) (x6 : Int32) (k again : Int32 → (Nat → Int32) → (Nat → Nat → Int32) → Prop) (x7 : Int32) (I : Nat → Int32) (F : Nat → Nat → Int32) : Prop :=
  (((3 : Int32) ≤ x7 → k x7 I F) ∧ (¬ (3 : Int32) ≤ x7 → ((x7 = x6 → again (x7 + (1 : Int32)) I F) ∧ (¬ x7 = x6 → ((x2 = 0 → w_X0_holds_10 x5 x7 I F (fun (r4 : Int32) => ((¬ r4 = 0 → again (x7 + (1 : Int32)) I F) ∧ (r4 = 0 → vp_in x5 7 ∧ ∀ v6 : Int32, v6 = (x3 + ((x7 - x6) * (tabW (x5).toNatClampNeg))) → vp_in v6 2187 ∧ w_X3_joined (F 30 (v6).toNatClampNeg) x4 I F (fun (r7 : Int32) => vp_in v6 2187 ∧ ∀ F8 : Nat → Nat → Int32, F8 = upF F 30 (upd (F 30) (v6).toNatClampNeg r7) → again (x7 + (1 : Int32)) I F8))))) ∧ (¬ x2 = 0 → w_X0_holds_10 x5 x6 I F (fun (r9 : Int32) => ((¬ r9 = 0 → again (x7 + (1 : Int32)) I F) ∧ (r9 = 0 → vp_in x5 7 ∧ ∀ v11 : Int32, v11 = (x3 + ((x7 - x6) * (tabW (x5).toNatClampNeg))) → vp_in v11 2187 ∧ w_X3_joined (F 30 (v11).toNatClampNeg) x4 I F (fun (r12 : Int32) => vp_in v11 2187 ∧ ∀ F13 : Nat → Nat → Int32, F13 = upF F 30 (upd (F 30) (v11).toNatClampNeg r12) → again (x7 + (1 : Int32)) I F13))))))))))
def w_X3_spreadByRight_9_r_B31 (x1 : Nat) (x2 : Int32) (x3 : Int32) (x4 : Int32) (k again : Int32 → (Nat → Int32) → (Nat → Nat → Int32) → Prop) (x5 : Int32) (I : Nat → Int32) (F : Nat → Nat → Int32) : Prop :=
  (((7 : Int32) ≤ x5 → k x5 I F) ∧ (¬ (7 : Int32) ≤ x5 → w_X7_positionAt x3 x5 I F (fun (r15 : Int32) => gL (fun ag v => w_X3_spreadByRight_9_r_B49 x1 x2 x3 x4 x5 r15 (fun (y16 : Int32) (I17 : Nat → Int32) (F18 : Nat → Nat → Int32) => again (x5 + (1 : Int32)) I17 F18) (fun b0 b1 b2 => ag (b0, b1, b2)) v.1 v.2.1 v.2.2) ((0 : Int32), I, F))))
def w_X3_spreadByRight_9_r_B2 (x1 : Nat) (x2 : Int32) (k again : Int32 → (Nat → Int32) → (Nat → Nat → Int32) → Prop) (x3 : Int32) (I : Nat → Int32) (F : Nat → Nat → Int32) : Prop :=
  (((2187 : Int32) ≤ x3 → k x3 I F) ∧ (¬ (2187 : Int32) ≤ x3 → vp_in x3 2187 ∧ ((¬ (F x1 (x3).toNatClampNeg) = (1073741824 : Int32) → vp_in x3 2187 ∧ ∀ v21 : Int32, v21 = ((F x1 (x3).toNatClampNeg) + (1048576 : Int32)) → gL (fun ag v => w_X3_spreadByRight_9_r_B31 x1 x2 x3 v21 (fun (y22 : Int32) (I23 : Nat → Int32) (F24 : Nat → Nat → Int32) => again (x3 + (1 : Int32)) I23 F24) (fun b0 b1 b2 => ag (b0, b1, b2)) v.1 v.2.1 v.2.2) ((3 : Int32), I, F)) ∧ ((F x1 (x3).toNatClampNeg) = (1073741824 : Int32) → again (x3 + (1 : Int32)) I F))))
def w_X3_spreadByRight_9_r (r2 : Nat) (a2 : Int32) (I : Nat → Int32) (F : Nat → Nat → Int32) (post : (Nat → Int32) → (Nat → Nat → Int32) → Prop) : Prop :=
  gL (fun ag v => w_X3_spreadByRight_9_r_B2 r2 a2 (fun (y25 : Int32) (I26 : Nat → Int32) (F27 : Nat → Nat → Int32) => post I26 F27) (fun b0 b1 b2 => ag (b0, b1, b2)) v.1 v.2.1 v.2.2) ((0 : Int32), I, F)
set_option maxHeartbeats 4000000 in
set_option maxRecDepth 100000 in
theorem c_X3_spreadByRight_9_r (l : Launch) (D : va_G) (q : Nat → Nat) (cI cO : ClassId) (hq : cOk q) (r2 : Nat) (a2 : Int32) (hr2 : 28 ≤ r2 ∧ r2 < 39) (I : Nat → Int32) (F : Nat → Nat → Int32) (post : (Nat → Int32) → (Nat → Nat → Int32) → Prop) (h : w_X3_spreadByRight_9_r r2 a2 I F post) : Met l yX3_spreadByRight wsX3_spreadByRight ({ frames := 1, cells := 0, slots := 0, locals := 22 } : Room) (gPre D (cTys cI cO) (cW q cI cO I F) (cEnv q) [.ref (q 9), .ref (q r2), .int a2]) (va_Qv (fun (u : cS) => post u.1 u.2) (gB D (fun u : cS => cW q cI cO u.1 u.2)) (cA q)) 0 0 (cA q) := by
  refine gMetV (by decide) rfl (Nat.le_of_ble_eq_true rfl) ?_
  intro p e R s m args below meth c Q ls hR hx hb hml hown hts hK hE hP hl hret
  have hRf : 1 ≤ R.frames := by subst hR; exact Nat.le_refl _
  have hRl : 22 ≤ R.locals := by subst hR; exact Nat.le_refl _
  have hown : s.vm.findClass RX3 = some m.cls := hown
  have hl : lv_has ls 9 [(0, .ref (q 9)), (1, .ref (q r2)), (2, .int a2)] := hl
  have hS : va_S (cA q) s.heap s.heap [] := va_S.rf
  have hP : va_P D vwCl (cW q cI cO I F) s.heap := hP
  have L49 : ∀ (n : Nat) (x1 : Nat) (x2 : Int32) (x3 : Int32) (x4 : Int32) (x5 : Int32) (x6 : Int32) (k : Int32 → (Nat → Int32) → (Nat → Nat → Int32) → Prop) (x7 : Int32) (I : Nat → Int32) (F : Nat → Nat → Int32) (H : Heap) (locs : List Loc) (ls : Array Slot), 28 ≤ x1 ∧ x1 < 39 → va_P D vwCl (cW q cI cO I F) H → va_S (cA q) s.heap H locs → lv_has ls 9 [(0, .ref (q 9)), (1, .ref (q x1)), (2, .int x2), (3, .int x3), (4, .int x4), (5, .int x5), (6, .int x6), (7, .int x7)] → gLN (fun ag v => w_X3_spreadByRight_9_r_B49 x1 x2 x3 x4 x5 x6 k (fun b0 b1 b2 => ag (b0, b1, b2)) v.1 v.2.1 v.2.2) n (x7, I, F) → (∀ (x7 : Int32) (I : Nat → Int32) (F : Nat → Nat → Int32) (H : Heap) (locs : List Loc) (ls : Array Slot), va_P D vwCl (cW q cI cO I F) H → va_S (cA q) s.heap H locs → lv_has ls 9 [(0, .ref (q 9)), (1, .ref (q x1)), (2, .int x2), (3, .int x3), (4, .int x4), (5, .int x5)] → k x7 I F → W p l e R s m args below meth c H locs 0 0 Q (F0 m 126 ls [])) → W p l e R s m args below meth c H locs 0 0 Q (F0 m 49 ls []) := by
    intro n
    induction n with
    | zero =>
      intro x1 x2 x3 x4 x5 x6 k x7 I F H locs ls hx1 hP hS hl h K
      exact False.elim h
    | succ n ih =>
      intro x1 x2 x3 x4 x5 x6 k x7 I F H locs ls hx1 hP hS hl h K
      have h : w_X3_spreadByRight_9_r_B49 x1 x2 x3 x4 x5 x6 k (fun b0 b1 b2 => gLN (fun ag v => w_X3_spreadByRight_9_r_B49 x1 x2 x3 x4 x5 x6 k (fun b0 b1 b2 => ag (b0, b1, b2)) v.1 v.2.1 v.2.2) n (b0, b1, b2)) x7 I F := h
      refine lv_iload hx hb dX3_spreadByRight_49 (lv_at hl 7 rfl) ?_
      refine lv_iconst (v := (3 : Int32)) hx hb dX3_spreadByRight_51 (by decide) ?_
      refine lv_icmp_ge (tgt := 126) hx hb dX3_spreadByRight_52 (by decide) (fun c1 => ?_) (fun c1 => ?_)
      · have h := h.1 c1
        exact K x7 I F _ _ _  hP hS (lv_sub hl [0, 1, 2, 3, 4, 5] rfl) h
      · have h := h.2 c1
        refine lv_iload hx hb dX3_spreadByRight_55 (lv_at hl 7 rfl) ?_
        refine lv_iload hx hb dX3_spreadByRight_57 (lv_at hl 6 rfl) ?_
        refine lv_icmp_eq (tgt := 120) hx hb dX3_spreadByRight_59 (by decide) (fun c2 => ?_) (fun c2 => ?_)
        · have h := h.1 c2
          refine lv_iinc (v := (x7 + (1 : Int32))) (lv' := [(7, .int (x7 + (1 : Int32))), (0, .ref (q 9)), (1, .ref (q x1)), (2, .int x2), (3, .int x3), (4, .int x4), (5, .int x5), (6, .int x6)]) hx hb dX3_spreadByRight_120 hl (k := 7) rfl rfl (by decide) rfl (fun ls hl => ?_)
          refine lv_goto (tgt := 49) hx hb dX3_spreadByRight_123 (by decide) ?_
          exact ih x1 x2 x3 x4 x5 x6 _ (x7 + (1 : Int32)) I F _ _ _ hx1 hP hS (lv_sub hl [1, 2, 3, 4, 5, 6, 7, 0] rfl) h K
        · have h := h.2 c2
          refine lv_aload_n hx hb dX3_spreadByRight_62 rfl (lv_at hl 0 rfl) ?_
          refine va_get (D := D) (ci := 3) (v := .ref (q 10)) (C := RX3) (T := TX3) (N := 12) hx hb hts (fun _ h9 => List.mem_cons_of_mem _ (List.mem_append_left _ (List.mem_append_right _ h9))) hown hK hP 9 cAt9 rfl 1 (by decide) (hts _ (List.mem_of_getElem? (l := wsX3_spreadByRight) (i := 3) rfl)) (fun _ h9 => h9) rfl dX3_spreadByRight_63 ?_
          refine lv_iload hx hb dX3_spreadByRight_66 (lv_at hl 5 rfl) ?_
          refine lv_iload_n hx hb dX3_spreadByRight_68 rfl (lv_at hl 2 rfl) ?_
          refine lv_if_eq (tgt := 77) hx hb dX3_spreadByRight_69 (by decide) (fun c3 => ?_) (fun c3 => ?_)
          · have h := h.1 c3
            refine lv_iload hx hb dX3_spreadByRight_77 (lv_at hl 7 rfl) ?_
            refine gCallI (D := D) (va_runV (As := [.int x5, .int x7]) (rest := []) ⟨hx, hb, hml, hown, hts⟩ (c_X0_holds_10 l D q cI cO hq x5 x7  I F _ h) (cwV 2 hts gX3_spreadByRight_X0_holds rfl rfl rfl (by decide +kernel) ⟨Nat.le_trans (Nat.le_of_ble_eq_true rfl) hRf, Nat.le_trans (Nat.le_of_ble_eq_true rfl) hRl⟩) (gPreV (ci := 0) (q0 := 10) cEok hE hK hP hS rfl cAt10) rfl rfl hl.1 rfl (lv_room (Nat.le_of_ble_eq_true rfl)) dX3_spreadByRight_79 ⟨Nat.zero_le _, Nat.zero_le _⟩) hS (fun r4 _ H locs hP hS h => ?_)
            have hP : va_P D vwCl (cW q cI cO I F) H := hP
            refine lv_if_ne (tgt := 120) hx hb dX3_spreadByRight_82 (by decide) (fun c5 => ?_) (fun c5 => ?_)
            · have h := h.1 c5
              refine lv_iinc (v := (x7 + (1 : Int32))) (lv' := [(7, .int (x7 + (1 : Int32))), (0, .ref (q 9)), (1, .ref (q x1)), (2, .int x2), (3, .int x3), (4, .int x4), (5, .int x5), (6, .int x6)]) hx hb dX3_spreadByRight_120 hl (k := 7) rfl rfl (by decide) rfl (fun ls hl => ?_)
              refine lv_goto (tgt := 49) hx hb dX3_spreadByRight_123 (by decide) ?_
              exact ih x1 x2 x3 x4 x5 x6 _ (x7 + (1 : Int32)) I F _ _ _ hx1 hP hS (lv_sub hl [1, 2, 3, 4, 5, 6, 7, 0] rfl) h K
            · have h := h.2 c5
              refine lv_iload_n hx hb dX3_spreadByRight_85 rfl (lv_at hl 3 rfl) ?_
              refine lv_iload hx hb dX3_spreadByRight_86 (lv_at hl 7 rfl) ?_
              refine lv_iload hx hb dX3_spreadByRight_88 (lv_at hl 6 rfl) ?_
              refine lv_isub hx hb dX3_spreadByRight_90 ?_
              refine va_getsN (C := "HarpPedals$Settings") (v := .ref (q 40)) hx hb hE.2.2.1.1 hS hown (va_Nw.use rfl (hE.1.1 _ (List.mem_of_getElem? (l := cNF) (i := 18) rfl))) (fun _ h9 => h9) dX3_spreadByRight_91 ?_
              refine lv_iload hx hb dX3_spreadByRight_94 (lv_at hl 5 rfl) ?_
              refine va_ti (v := .int (tabW (x5).toNatClampNeg)) hx hb hE.2.2.1.2 hS h.1 rfl dX3_spreadByRight_96 ?_
              have h := h.2
              refine lv_imul hx hb dX3_spreadByRight_97 ?_
              refine lv_iadd hx hb dX3_spreadByRight_98 ?_
              refine lv_topi (fun v6 ev6 => ?_)
              have h := h v6 ev6
              refine lv_istore (lv' := [(8, .int v6), (0, .ref (q 9)), (1, .ref (q x1)), (2, .int x2), (3, .int x3), (4, .int x4), (5, .int x5), (6, .int x6), (7, .int x7)]) hx hb dX3_spreadByRight_99 hl (by decide) rfl (fun ls hl => ?_)
              refine lv_aload_n hx hb dX3_spreadByRight_101 rfl (lv_at hl 1 rfl) ?_
              refine va_get (D := D) (ci := 3) (v := .ref (q 30)) (C := RX3) (T := TX3) (N := 12) hx hb hts (fun _ h9 => List.mem_cons_of_mem _ (List.mem_append_left _ (List.mem_append_right _ h9))) hown hK hP 9 cAt9 rfl 4 (by decide) (hts _ (List.mem_of_getElem? (l := wsX3_spreadByRight) (i := 4) rfl)) (fun _ h9 => h9) rfl dX3_spreadByRight_102 ?_
              refine lv_iload hx hb dX3_spreadByRight_105 (lv_at hl 0 rfl) ?_
              refine lv_aload_n hx hb dX3_spreadByRight_107 rfl (lv_at hl 1 rfl) ?_
              refine va_get (D := D) (ci := 3) (v := .ref (q 30)) (C := RX3) (T := TX3) (N := 12) hx hb hts (fun _ h9 => List.mem_cons_of_mem _ (List.mem_append_left _ (List.mem_append_right _ h9))) hown hK hP 9 cAt9 rfl 4 (by decide) (hts _ (List.mem_of_getElem? (l := wsX3_spreadByRight) (i := 4) rfl)) (fun _ h9 => h9) rfl dX3_spreadByRight_108 ?_
              refine lv_iload hx hb dX3_spreadByRight_111 (lv_at hl 0 rfl) ?_
              refine va_iald (D := D) hx hb hK hP 30 0 cAr30 rfl h.1 dX3_spreadByRight_113 ?_
              have h := h.2
              refine lv_iload hx hb dX3_spreadByRight_114 (lv_at hl 5 rfl) ?_
              refine gCallI (D := D) (va_runS (As := [.int (F 30 (v6).toNatClampNeg), .int x4]) (rest := [.int v6, .ref (q 30)]) ⟨hx, hb, hml, hown, hts⟩ (c_X3_joined l D q cI cO hq (F 30 (v6).toNatClampNeg) x4  I F _ h) (va_cwS 2 hts gX3_spreadByRight_X3_joined rfl rfl rfl (by decide +kernel) ⟨Nat.le_trans (Nat.le_of_ble_eq_true rfl) hRf, Nat.le_trans (Nat.le_of_ble_eq_true rfl) hRl⟩) (gPreS cEok hE hK hP hS) rfl rfl hl.1 rfl (lv_room (Nat.le_of_ble_eq_true rfl)) dX3_spreadByRight_116 ⟨Nat.zero_le _, Nat.zero_le _⟩) hS (fun r7 _ H locs hP hS h => ?_)
              have hP : va_P D vwCl (cW q cI cO I F) H := hP
              refine gAst (D := D) hx hb hK hP (cD hq) hS 30 0 cAr30 rfl h.1 dX3_spreadByRight_119 (cSA30 _) (fun H locs hP hS => ?_)
              obtain ⟨F8, eF8⟩ : ∃ z : Nat → Nat → Int32, z = upF F 30 (upd (F 30) (v6).toNatClampNeg r7) := ⟨_, rfl⟩
              rw [← eF8] at hP
              have h := h.2 F8 eF8
              refine lv_iinc (v := (x7 + (1 : Int32))) (lv' := [(7, .int (x7 + (1 : Int32))), (8, .int v6), (0, .ref (q 9)), (1, .ref (q x1)), (2, .int x2), (3, .int x3), (4, .int x4), (5, .int x5), (6, .int x6)]) hx hb dX3_spreadByRight_120 hl (k := 8) rfl rfl (by decide) rfl (fun ls hl => ?_)
              refine lv_goto (tgt := 49) hx hb dX3_spreadByRight_123 (by decide) ?_
              exact ih x1 x2 x3 x4 x5 x6 _ (x7 + (1 : Int32)) I F8 _ _ _ hx1 hP hS (lv_sub hl [2, 3, 4, 5, 6, 7, 8, 0] rfl) h K
          · have h := h.2 c3
            refine lv_iload hx hb dX3_spreadByRight_72 (lv_at hl 6 rfl) ?_
            refine lv_goto (tgt := 79) hx hb dX3_spreadByRight_74 (by decide) ?_
            refine gCallI (D := D) (va_runV (As := [.int x5, .int x6]) (rest := []) ⟨hx, hb, hml, hown, hts⟩ (c_X0_holds_10 l D q cI cO hq x5 x6  I F _ h) (cwV 2 hts gX3_spreadByRight_X0_holds rfl rfl rfl (by decide +kernel) ⟨Nat.le_trans (Nat.le_of_ble_eq_true rfl) hRf, Nat.le_trans (Nat.le_of_ble_eq_true rfl) hRl⟩) (gPreV (ci := 0) (q0 := 10) cEok hE hK hP hS rfl cAt10) rfl rfl hl.1 rfl (lv_room (Nat.le_of_ble_eq_true rfl)) dX3_spreadByRight_79 ⟨Nat.zero_le _, Nat.zero_le _⟩) hS (fun r9 _ H locs hP hS h => ?_)
            have hP : va_P D vwCl (cW q cI cO I F) H := hP
            refine lv_if_ne (tgt := 120) hx hb dX3_spreadByRight_82 (by decide) (fun c10 => ?_) (fun c10 => ?_)
            · have h := h.1 c10
              refine lv_iinc (v := (x7 + (1 : Int32))) (lv' := [(7, .int (x7 + (1 : Int32))), (0, .ref (q 9)), (1, .ref (q x1)), (2, .int x2), (3, .int x3), (4, .int x4), (5, .int x5), (6, .int x6)]) hx hb dX3_spreadByRight_120 hl (k := 7) rfl rfl (by decide) rfl (fun ls hl => ?_)
              refine lv_goto (tgt := 49) hx hb dX3_spreadByRight_123 (by decide) ?_
              exact ih x1 x2 x3 x4 x5 x6 _ (x7 + (1 : Int32)) I F _ _ _ hx1 hP hS (lv_sub hl [1, 2, 3, 4, 5, 6, 7, 0] rfl) h K
            · have h := h.2 c10
              refine lv_iload_n hx hb dX3_spreadByRight_85 rfl (lv_at hl 3 rfl) ?_
              refine lv_iload hx hb dX3_spreadByRight_86 (lv_at hl 7 rfl) ?_
              refine lv_iload hx hb dX3_spreadByRight_88 (lv_at hl 6 rfl) ?_
              refine lv_isub hx hb dX3_spreadByRight_90 ?_
              refine va_getsN (C := "HarpPedals$Settings") (v := .ref (q 40)) hx hb hE.2.2.1.1 hS hown (va_Nw.use rfl (hE.1.1 _ (List.mem_of_getElem? (l := cNF) (i := 18) rfl))) (fun _ h9 => h9) dX3_spreadByRight_91 ?_
              refine lv_iload hx hb dX3_spreadByRight_94 (lv_at hl 5 rfl) ?_
              refine va_ti (v := .int (tabW (x5).toNatClampNeg)) hx hb hE.2.2.1.2 hS h.1 rfl dX3_spreadByRight_96 ?_
              have h := h.2
              refine lv_imul hx hb dX3_spreadByRight_97 ?_
              refine lv_iadd hx hb dX3_spreadByRight_98 ?_
              refine lv_topi (fun v11 ev11 => ?_)
              have h := h v11 ev11
              refine lv_istore (lv' := [(8, .int v11), (0, .ref (q 9)), (1, .ref (q x1)), (2, .int x2), (3, .int x3), (4, .int x4), (5, .int x5), (6, .int x6), (7, .int x7)]) hx hb dX3_spreadByRight_99 hl (by decide) rfl (fun ls hl => ?_)
              refine lv_aload_n hx hb dX3_spreadByRight_101 rfl (lv_at hl 1 rfl) ?_
              refine va_get (D := D) (ci := 3) (v := .ref (q 30)) (C := RX3) (T := TX3) (N := 12) hx hb hts (fun _ h9 => List.mem_cons_of_mem _ (List.mem_append_left _ (List.mem_append_right _ h9))) hown hK hP 9 cAt9 rfl 4 (by decide) (hts _ (List.mem_of_getElem? (l := wsX3_spreadByRight) (i := 4) rfl)) (fun _ h9 => h9) rfl dX3_spreadByRight_102 ?_
              refine lv_iload hx hb dX3_spreadByRight_105 (lv_at hl 0 rfl) ?_
              refine lv_aload_n hx hb dX3_spreadByRight_107 rfl (lv_at hl 1 rfl) ?_
              refine va_get (D := D) (ci := 3) (v := .ref (q 30)) (C := RX3) (T := TX3) (N := 12) hx hb hts (fun _ h9 => List.mem_cons_of_mem _ (List.mem_append_left _ (List.mem_append_right _ h9))) hown hK hP 9 cAt9 rfl 4 (by decide) (hts _ (List.mem_of_getElem? (l := wsX3_spreadByRight) (i := 4) rfl)) (fun _ h9 => h9) rfl dX3_spreadByRight_108 ?_
              refine lv_iload hx hb dX3_spreadByRight_111 (lv_at hl 0 rfl) ?_
              refine va_iald (D := D) hx hb hK hP 30 0 cAr30 rfl h.1 dX3_spreadByRight_113 ?_
              have h := h.2
              refine lv_iload hx hb dX3_spreadByRight_114 (lv_at hl 5 rfl) ?_
              refine gCallI (D := D) (va_runS (As := [.int (F 30 (v11).toNatClampNeg), .int x4]) (rest := [.int v11, .ref (q 30)]) ⟨hx, hb, hml, hown, hts⟩ (c_X3_joined l D q cI cO hq (F 30 (v11).toNatClampNeg) x4  I F _ h) (va_cwS 2 hts gX3_spreadByRight_X3_joined rfl rfl rfl (by decide +kernel) ⟨Nat.le_trans (Nat.le_of_ble_eq_true rfl) hRf, Nat.le_trans (Nat.le_of_ble_eq_true rfl) hRl⟩) (gPreS cEok hE hK hP hS) rfl rfl hl.1 rfl (lv_room (Nat.le_of_ble_eq_true rfl)) dX3_spreadByRight_116 ⟨Nat.zero_le _, Nat.zero_le _⟩) hS (fun r12 _ H locs hP hS h => ?_)
              have hP : va_P D vwCl (cW q cI cO I F) H := hP
              refine gAst (D := D) hx hb hK hP (cD hq) hS 30 0 cAr30 rfl h.1 dX3_spreadByRight_119 (cSA30 _) (fun H locs hP hS => ?_)
              obtain ⟨F13, eF13⟩ : ∃ z : Nat → Nat → Int32, z = upF F 30 (upd (F 30) (v11).toNatClampNeg r12) := ⟨_, rfl⟩
              rw [← eF13] at hP
              have h := h.2 F13 eF13
              refine lv_iinc (v := (x7 + (1 : Int32))) (lv' := [(7, .int (x7 + (1 : Int32))), (8, .int v11), (0, .ref (q 9)), (1, .ref (q x1)), (2, .int x2), (3, .int x3), (4, .int x4), (5, .int x5), (6, .int x6)]) hx hb dX3_spreadByRight_120 hl (k := 8) rfl rfl (by decide) rfl (fun ls hl => ?_)
              refine lv_goto (tgt := 49) hx hb dX3_spreadByRight_123 (by decide) ?_
              exact ih x1 x2 x3 x4 x5 x6 _ (x7 + (1 : Int32)) I F13 _ _ _ hx1 hP hS (lv_sub hl [2, 3, 4, 5, 6, 7, 8, 0] rfl) h K
  have L31 : ∀ (n : Nat) (x1 : Nat) (x2 : Int32) (x3 : Int32) (x4 : Int32) (k : Int32 → (Nat → Int32) → (Nat → Nat → Int32) → Prop) (x5 : Int32) (I : Nat → Int32) (F : Nat → Nat → Int32) (H : Heap) (locs : List Loc) (ls : Array Slot), 28 ≤ x1 ∧ x1 < 39 → va_P D vwCl (cW q cI cO I F) H → va_S (cA q) s.heap H locs → lv_has ls 9 [(0, .ref (q 9)), (1, .ref (q x1)), (2, .int x2), (3, .int x3), (4, .int x4), (5, .int x5)] → gLN (fun ag v => w_X3_spreadByRight_9_r_B31 x1 x2 x3 x4 k (fun b0 b1 b2 => ag (b0, b1, b2)) v.1 v.2.1 v.2.2) n (x5, I, F) → (∀ (x5 : Int32) (I : Nat → Int32) (F : Nat → Nat → Int32) (H : Heap) (locs : List Loc) (ls : Array Slot), va_P D vwCl (cW q cI cO I F) H → va_S (cA q) s.heap H locs → lv_has ls 9 [(0, .ref (q 9)), (1, .ref (q x1)), (2, .int x2), (3, .int x3)] → k x5 I F → W p l e R s m args below meth c H locs 0 0 Q (F0 m 132 ls [])) → W p l e R s m args below meth c H locs 0 0 Q (F0 m 31 ls []) := by
    intro n
    induction n with
    | zero =>
      intro x1 x2 x3 x4 k x5 I F H locs ls hx1 hP hS hl h K
      exact False.elim h
    | succ n ih =>
      intro x1 x2 x3 x4 k x5 I F H locs ls hx1 hP hS hl h K
      have h : w_X3_spreadByRight_9_r_B31 x1 x2 x3 x4 k (fun b0 b1 b2 => gLN (fun ag v => w_X3_spreadByRight_9_r_B31 x1 x2 x3 x4 k (fun b0 b1 b2 => ag (b0, b1, b2)) v.1 v.2.1 v.2.2) n (b0, b1, b2)) x5 I F := h
      refine lv_iload hx hb dX3_spreadByRight_31 (lv_at hl 5 rfl) ?_
      refine lv_bipush (v := (7 : Int32)) hx hb dX3_spreadByRight_33 (by decide) ?_
      refine lv_icmp_ge (tgt := 132) hx hb dX3_spreadByRight_35 (by decide) (fun c14 => ?_) (fun c14 => ?_)
      · have h := h.1 c14
        exact K x5 I F _ _ _  hP hS (lv_sub hl [0, 1, 2, 3] rfl) h
      · have h := h.2 c14
        refine lv_iload_n hx hb dX3_spreadByRight_38 rfl (lv_at hl 3 rfl) ?_
        refine lv_iload hx hb dX3_spreadByRight_39 (lv_at hl 5 rfl) ?_
        refine gCallI (D := D) (va_runS (As := [.int x3, .int x5]) (rest := []) ⟨hx, hb, hml, hown, hts⟩ (c_X7_positionAt l D q cI cO hq x3 x5  I F _ h) (va_cwS 2 hts gX3_spreadByRight_X7_positionAt rfl rfl rfl (by decide +kernel) ⟨Nat.le_trans (Nat.le_of_ble_eq_true rfl) hRf, Nat.le_trans (Nat.le_of_ble_eq_true rfl) hRl⟩) (gPreS cEok hE hK hP hS) rfl rfl hl.1 rfl (lv_room (Nat.le_of_ble_eq_true rfl)) dX3_spreadByRight_41 ⟨Nat.zero_le _, Nat.zero_le _⟩) hS (fun r15 _ H locs hP hS h => ?_)
        have hP : va_P D vwCl (cW q cI cO I F) H := hP
        refine lv_istore (lv' := [(6, .int r15), (0, .ref (q 9)), (1, .ref (q x1)), (2, .int x2), (3, .int x3), (4, .int x4), (5, .int x5)]) hx hb dX3_spreadByRight_44 hl (by decide) rfl (fun ls hl => ?_)
        refine lv_iconst (v := (0 : Int32)) hx hb dX3_spreadByRight_46 (by decide) ?_
        refine lv_istore (lv' := [(7, .int (0 : Int32)), (6, .int r15), (0, .ref (q 9)), (1, .ref (q x1)), (2, .int x2), (3, .int x3), (4, .int x4), (5, .int x5)]) hx hb dX3_spreadByRight_47 hl (by decide) rfl (fun ls hl => ?_)
        obtain ⟨n, h⟩ := h
        refine L49 n x1 x2 x3 x4 x5 r15 _ (0 : Int32) I F _ _ _ hx1 hP hS (lv_sub hl [2, 3, 4, 5, 6, 7, 1, 0] rfl) h (fun y16 I17 F18 H locs ls  hP hS hl h => ?_)
        refine lv_iinc (v := (x5 + (1 : Int32))) (lv' := [(5, .int (x5 + (1 : Int32))), (0, .ref (q 9)), (1, .ref (q x1)), (2, .int x2), (3, .int x3), (4, .int x4)]) hx hb dX3_spreadByRight_126 hl (k := 5) rfl rfl (by decide) rfl (fun ls hl => ?_)
        refine lv_goto (tgt := 31) hx hb dX3_spreadByRight_129 (by decide) ?_
        exact ih x1 x2 x3 x4 _ (x5 + (1 : Int32)) I17 F18 _ _ _ hx1 hP hS (lv_sub hl [1, 2, 3, 4, 5, 0] rfl) h K
  have L2 : ∀ (n : Nat) (x1 : Nat) (x2 : Int32) (k : Int32 → (Nat → Int32) → (Nat → Nat → Int32) → Prop) (x3 : Int32) (I : Nat → Int32) (F : Nat → Nat → Int32) (H : Heap) (locs : List Loc) (ls : Array Slot), 28 ≤ x1 ∧ x1 < 39 → va_P D vwCl (cW q cI cO I F) H → va_S (cA q) s.heap H locs → lv_has ls 9 [(0, .ref (q 9)), (1, .ref (q x1)), (2, .int x2), (3, .int x3)] → gLN (fun ag v => w_X3_spreadByRight_9_r_B2 x1 x2 k (fun b0 b1 b2 => ag (b0, b1, b2)) v.1 v.2.1 v.2.2) n (x3, I, F) → (∀ (x3 : Int32) (I : Nat → Int32) (F : Nat → Nat → Int32) (H : Heap) (locs : List Loc) (ls : Array Slot), va_P D vwCl (cW q cI cO I F) H → va_S (cA q) s.heap H locs → lv_has ls 9 [] → k x3 I F → W p l e R s m args below meth c H locs 0 0 Q (F0 m 138 ls [])) → W p l e R s m args below meth c H locs 0 0 Q (F0 m 2 ls []) := by
    intro n
    induction n with
    | zero =>
      intro x1 x2 k x3 I F H locs ls hx1 hP hS hl h K
      exact False.elim h
    | succ n ih =>
      intro x1 x2 k x3 I F H locs ls hx1 hP hS hl h K
      have h : w_X3_spreadByRight_9_r_B2 x1 x2 k (fun b0 b1 b2 => gLN (fun ag v => w_X3_spreadByRight_9_r_B2 x1 x2 k (fun b0 b1 b2 => ag (b0, b1, b2)) v.1 v.2.1 v.2.2) n (b0, b1, b2)) x3 I F := h
      refine lv_iload_n hx hb dX3_spreadByRight_2 rfl (lv_at hl 3 rfl) ?_
      refine lv_sipush (v := (2187 : Int32)) hx hb dX3_spreadByRight_3 (by decide) ?_
      refine lv_icmp_ge (tgt := 138) hx hb dX3_spreadByRight_6 (by decide) (fun c19 => ?_) (fun c19 => ?_)
      · have h := h.1 c19
        exact K x3 I F _ _ _  hP hS (lv_sub hl [] rfl) h
      · have h := h.2 c19
        refine lv_aload_n hx hb dX3_spreadByRight_9 rfl (lv_at hl 1 rfl) ?_
        refine lv_iload_n hx hb dX3_spreadByRight_10 rfl (lv_at hl 3 rfl) ?_
        refine va_iald (D := D) hx hb hK hP x1 0 (cRow hx1) rfl h.1 dX3_spreadByRight_11 ?_
        have h := h.2
        refine lv_ldc (v := (1073741824 : Int32)) hx hb hown (hts _ (List.mem_of_getElem? (l := wsX3_spreadByRight) (i := 1) rfl)) dX3_spreadByRight_12 ?_
        refine lv_icmp_ne (tgt := 20) hx hb dX3_spreadByRight_14 (by decide) (fun c20 => ?_) (fun c20 => ?_)
        · have h := h.1 c20
          refine lv_aload_n hx hb dX3_spreadByRight_20 rfl (lv_at hl 1 rfl) ?_
          refine lv_iload_n hx hb dX3_spreadByRight_21 rfl (lv_at hl 3 rfl) ?_
          refine va_iald (D := D) hx hb hK hP x1 0 (cRow hx1) rfl h.1 dX3_spreadByRight_22 ?_
          have h := h.2
          refine lv_ldc (v := (1048576 : Int32)) hx hb hown (hts _ (List.mem_of_getElem? (l := wsX3_spreadByRight) (i := 2) rfl)) dX3_spreadByRight_23 ?_
          refine lv_iadd hx hb dX3_spreadByRight_25 ?_
          refine lv_topi (fun v21 ev21 => ?_)
          have h := h v21 ev21
          refine lv_istore (lv' := [(4, .int v21), (0, .ref (q 9)), (1, .ref (q x1)), (2, .int x2), (3, .int x3)]) hx hb dX3_spreadByRight_26 hl (by decide) rfl (fun ls hl => ?_)
          refine lv_iconst (v := (3 : Int32)) hx hb dX3_spreadByRight_28 (by decide) ?_
          refine lv_istore (lv' := [(5, .int (3 : Int32)), (4, .int v21), (0, .ref (q 9)), (1, .ref (q x1)), (2, .int x2), (3, .int x3)]) hx hb dX3_spreadByRight_29 hl (by decide) rfl (fun ls hl => ?_)
          obtain ⟨n, h⟩ := h
          refine L31 n x1 x2 x3 v21 _ (3 : Int32) I F _ _ _ hx1 hP hS (lv_sub hl [2, 3, 4, 5, 1, 0] rfl) h (fun y22 I23 F24 H locs ls  hP hS hl h => ?_)
          refine lv_iinc (v := (x3 + (1 : Int32))) (lv' := [(3, .int (x3 + (1 : Int32))), (0, .ref (q 9)), (1, .ref (q x1)), (2, .int x2)]) hx hb dX3_spreadByRight_132 hl (k := 3) rfl rfl (by decide) rfl (fun ls hl => ?_)
          refine lv_goto (tgt := 2) hx hb dX3_spreadByRight_135 (by decide) ?_
          exact ih x1 x2 _ (x3 + (1 : Int32)) I23 F24 _ _ _ hx1 hP hS (lv_sub hl [1, 2, 3, 0] rfl) h K
        · have h := h.2 c20
          refine lv_goto (tgt := 132) hx hb dX3_spreadByRight_17 (by decide) ?_
          refine lv_iinc (v := (x3 + (1 : Int32))) (lv' := [(3, .int (x3 + (1 : Int32))), (0, .ref (q 9)), (1, .ref (q x1)), (2, .int x2)]) hx hb dX3_spreadByRight_132 hl (k := 3) rfl rfl (by decide) rfl (fun ls hl => ?_)
          refine lv_goto (tgt := 2) hx hb dX3_spreadByRight_135 (by decide) ?_
          exact ih x1 x2 _ (x3 + (1 : Int32)) I F _ _ _ hx1 hP hS (lv_sub hl [1, 2, 3, 0] rfl) h K
  refine lv_iconst (v := (0 : Int32)) hx hb dX3_spreadByRight_0 (by decide) ?_
  refine lv_istore_n (lv' := [(3, .int (0 : Int32)), (0, .ref (q 9)), (1, .ref (q r2)), (2, .int a2)]) hx hb dX3_spreadByRight_1 rfl hl (by decide) rfl (fun ls hl => ?_)
  obtain ⟨n, h⟩ := h
  refine L2 n r2 a2 _ (0 : Int32) I F _ _ _ hr2 hP hS (lv_sub hl [1, 2, 3, 0] rfl) h (fun y25 I26 F27 H locs ls  hP hS hl h => ?_)
  exact hret (I26, F27) _ _ _ _ dX3_spreadByRight_138 hP hS h
def w_X3_cross_9_r_r_B70 (x2 : Nat) (x3 : Int32) (x4 : Int32) (x5 : Int32) (x7 : Nat) (x8 : Int32) (k again : Int32 → (Nat → Int32) → (Nat → Nat → Int32) → Prop) (x9 : Int32) (I : Nat → Int32) (F : Nat → Nat → Int32) : Prop :=
  (((2187 : Int32) ≤ x9 → k x9 I F) ∧ (¬ (2187 : Int32) ≤ x9 → w_X7_fits_8 x9 x3 x4 I F (fun (r2 : Int32) => ((r2 = 0 → vp_in x9 2187 ∧ ∀ F4 : Nat → Nat → Int32, F4 = upF F x2 (upd (F x2) (x9).toNatClampNeg (1073741824 : Int32)) → again (x9 + (1 : Int32)) I F4) ∧ (¬ r2 = 0 → w_X3_gathered_9_r x7 x9 x8 x5 I F (fun (r5 : Int32) => vp_in x9 2187 ∧ ∀ F6 : Nat → Nat → Int32, F6 = upF F x2 (upd (F x2) (x9).toNatClampNeg r5) → again (x9 + (1 : Int32)) I F6))))))
def w_X3_cross_9_r_r_J65 (x2 : Nat) (x3 : Int32) (x4 : Int32) (x5 : Int32) (x7 : Nat) (z0 : Int32) (I : Nat → Int32) (F : Nat → Nat → Int32) (post : (Nat → Int32) → (Nat → Nat → Int32) → Prop) : Prop :=
  gL (fun ag v => w_X3_cross_9_r_r_B70 x2 x3 x4 x5 x7 z0 (fun (y7 : Int32) (I8 : Nat → Int32) (F9 : Nat → Nat → Int32) => post I8 F9) (fun b0 b1 b2 => ag (b0, b1, b2)) v.1 v.2.1 v.2.2) ((0 : Int32), I, F)
def w_X3_cross_9_r_r_J44 (x2 : Nat) (x3 : Int32) (x4 : Int32) (x5 : Int32) (x6 : Int32) (x7 : Nat) (I : Nat → Int32) (F : Nat → Nat → Int32) (post : (Nat → Int32) → (Nat → Nat → Int32) → Prop) : Prop :=
  ((¬ x6 = 0 → ((¬ x6 = (1 : Int32) → w_X3_cross_9_r_r_J65 x2 x3 x4 x5 x7 (3 : Int32) I F post) ∧ (x6 = (1 : Int32) → w_X3_cross_9_r_r_J65 x2 x3 x4 x5 x7 (7 : Int32) I F post))) ∧ (x6 = 0 → w_X3_cross_9_r_r_J65 x2 x3 x4 x5 x7 (0 : Int32) I F post))
def w_X3_cross_9_r_r (r2 : Nat) (r3 : Nat) (a3 : Int32) (a4 : Int32) (a5 : Int32) (I : Nat → Int32) (F : Nat → Nat → Int32) (post : (Nat → Int32) → (Nat → Nat → Int32) → Prop) : Prop :=
  ∀ v12 : Int32, v12 = (I 17) → ((¬ v12 = (2 : Int32) → w_X3_cross_9_r_r_J44 r3 a3 a4 a5 v12 r2 I F post) ∧ (v12 = (2 : Int32) → ∀ F14 : Nat → Nat → Int32, F14 = upF F 30 (va_cpy (F r2) (F 30) ((0 : Int32)).toNatClampNeg ((0 : Int32)).toNatClampNeg ((2187 : Int32)).toNatClampNeg) → w_X3_spreadByRight_9_r r2 a5 I F14 (fun (I15 : Nat → Int32) (F16 : Nat → Nat → Int32) => w_X3_cross_9_r_r_J44 r3 a3 a4 a5 v12 30 I15 F16 post)))
set_option maxHeartbeats 4000000 in
set_option maxRecDepth 100000 in
theorem c_X3_cross_9_r_r (l : Launch) (D : va_G) (q : Nat → Nat) (cI cO : ClassId) (hq : cOk q) (r2 : Nat) (r3 : Nat) (a3 : Int32) (a4 : Int32) (a5 : Int32) (hr2 : 28 ≤ r2 ∧ r2 < 39) (hr3 : 28 ≤ r3 ∧ r3 < 39) (I : Nat → Int32) (F : Nat → Nat → Int32) (post : (Nat → Int32) → (Nat → Nat → Int32) → Prop) (h : w_X3_cross_9_r_r r2 r3 a3 a4 a5 I F post) : Met l yX3_cross wsX3_cross ({ frames := 2, cells := 0, slots := 0, locals := 51 } : Room) (gPre D (cTys cI cO) (cW q cI cO I F) (cEnv q) [.ref (q 9), .ref (q r2), .ref (q r3), .int a3, .int a4, .int a5]) (va_Qv (fun (u : cS) => post u.1 u.2) (gB D (fun u : cS => cW q cI cO u.1 u.2)) (cA q)) 0 0 (cA q) := by
  refine gMetV (by decide) rfl (Nat.le_of_ble_eq_true rfl) ?_
  intro p e R s m args below meth c Q ls hR hx hb hml hown hts hK hE hP hl hret
  have hRf : 2 ≤ R.frames := by subst hR; exact Nat.le_refl _
  have hRl : 51 ≤ R.locals := by subst hR; exact Nat.le_refl _
  have hown : s.vm.findClass RX3 = some m.cls := hown
  have hl : lv_has ls 11 [(0, .ref (q 9)), (1, .ref (q r2)), (2, .ref (q r3)), (3, .int a3), (4, .int a4), (5, .int a5)] := hl
  have hS : va_S (cA q) s.heap s.heap [] := va_S.rf
  have hP : va_P D vwCl (cW q cI cO I F) s.heap := hP
  have L70 : ∀ (n : Nat) (x2 : Nat) (x3 : Int32) (x4 : Int32) (x5 : Int32) (x7 : Nat) (x8 : Int32) (k : Int32 → (Nat → Int32) → (Nat → Nat → Int32) → Prop) (x9 : Int32) (I : Nat → Int32) (F : Nat → Nat → Int32) (H : Heap) (locs : List Loc) (ls : Array Slot), 28 ≤ x2 ∧ x2 < 39 → 28 ≤ x7 ∧ x7 < 39 → va_P D vwCl (cW q cI cO I F) H → va_S (cA q) s.heap H locs → lv_has ls 11 [(0, .ref (q 9)), (2, .ref (q x2)), (3, .int x3), (4, .int x4), (5, .int x5), (7, .ref (q x7)), (8, .int x8), (9, .int x9)] → gLN (fun ag v => w_X3_cross_9_r_r_B70 x2 x3 x4 x5 x7 x8 k (fun b0 b1 b2 => ag (b0, b1, b2)) v.1 v.2.1 v.2.2) n (x9, I, F) → (∀ (x9 : Int32) (I : Nat → Int32) (F : Nat → Nat → Int32) (H : Heap) (locs : List Loc) (ls : Array Slot), va_P D vwCl (cW q cI cO I F) H → va_S (cA q) s.heap H locs → lv_has ls 11 [] → k x9 I F → W p l e R s m args below meth c H locs 0 0 Q (F0 m 124 ls [])) → W p l e R s m args below meth c H locs 0 0 Q (F0 m 70 ls []) := by
    intro n
    induction n with
    | zero =>
      intro x2 x3 x4 x5 x7 x8 k x9 I F H locs ls hx2 hx7 hP hS hl h K
      exact False.elim h
    | succ n ih =>
      intro x2 x3 x4 x5 x7 x8 k x9 I F H locs ls hx2 hx7 hP hS hl h K
      have h : w_X3_cross_9_r_r_B70 x2 x3 x4 x5 x7 x8 k (fun b0 b1 b2 => gLN (fun ag v => w_X3_cross_9_r_r_B70 x2 x3 x4 x5 x7 x8 k (fun b0 b1 b2 => ag (b0, b1, b2)) v.1 v.2.1 v.2.2) n (b0, b1, b2)) x9 I F := h
      refine lv_iload hx hb dX3_cross_70 (lv_at hl 7 rfl) ?_
      refine lv_sipush (v := (2187 : Int32)) hx hb dX3_cross_72 (by decide) ?_
      refine lv_icmp_ge (tgt := 124) hx hb dX3_cross_75 (by decide) (fun c1 => ?_) (fun c1 => ?_)
      · have h := h.1 c1
        exact K x9 I F _ _ _  hP hS (lv_sub hl [] rfl) h
      · have h := h.2 c1
        refine lv_aload_n hx hb dX3_cross_78 rfl (lv_at hl 0 rfl) ?_
        refine va_get (D := D) (ci := 3) (v := .ref (q 8)) (C := RX3) (T := TX3) (N := 12) hx hb hts (fun _ h9 => List.mem_cons_of_mem _ (List.mem_append_left _ (List.mem_append_left _ (List.mem_append_right _ h9)))) hown hK hP 9 cAt9 rfl 0 (by decide) (hts _ (List.mem_of_getElem? (l := wsX3_cross) (i := 7) rfl)) (fun _ h9 => h9) rfl dX3_cross_79 ?_
        refine lv_iload hx hb dX3_cross_82 (lv_at hl 7 rfl) ?_
        refine lv_iload_n hx hb dX3_cross_84 rfl (lv_at hl 2 rfl) ?_
        refine lv_iload hx hb dX3_cross_85 (lv_at hl 3 rfl) ?_
        refine gCallI (D := D) (va_runV (As := [.int x9, .int x3, .int x4]) (rest := []) ⟨hx, hb, hml, hown, hts⟩ (c_X7_fits_8 l D q cI cO hq x9 x3 x4  I F _ h) (cwV 3 hts gX3_cross_X7_fits rfl rfl rfl (by decide +kernel) ⟨Nat.le_trans (Nat.le_of_ble_eq_true rfl) hRf, Nat.le_trans (Nat.le_of_ble_eq_true rfl) hRl⟩) (gPreV (ci := 7) (q0 := 8) cEok hE hK hP hS rfl cAt8) rfl rfl hl.1 rfl (lv_room (Nat.le_of_ble_eq_true rfl)) dX3_cross_87 ⟨Nat.zero_le _, Nat.zero_le _⟩) hS (fun r2 _ H locs hP hS h => ?_)
        have hP : va_P D vwCl (cW q cI cO I F) H := hP
        refine lv_istore (lv' := [(10, .int r2), (0, .ref (q 9)), (2, .ref (q x2)), (3, .int x3), (4, .int x4), (5, .int x5), (7, .ref (q x7)), (8, .int x8), (9, .int x9)]) hx hb dX3_cross_90 hl (by decide) rfl (fun ls hl => ?_)
        refine lv_aload_n hx hb dX3_cross_92 rfl (lv_at hl 2 rfl) ?_
        refine lv_iload hx hb dX3_cross_93 (lv_at hl 8 rfl) ?_
        refine lv_iload hx hb dX3_cross_95 (lv_at hl 0 rfl) ?_
        refine lv_if_eq (tgt := 115) hx hb dX3_cross_97 (by decide) (fun c3 => ?_) (fun c3 => ?_)
        · have h := h.1 c3
          refine lv_ldc (v := (1073741824 : Int32)) hx hb hown (hts _ (List.mem_of_getElem? (l := wsX3_cross) (i := 8) rfl)) dX3_cross_115 ?_
          refine gAst (D := D) hx hb hK hP (cD hq) hS x2 0 (cRow hx2) rfl h.1 dX3_cross_117 (cSetRow hx2 _) (fun H locs hP hS => ?_)
          obtain ⟨F4, eF4⟩ : ∃ z : Nat → Nat → Int32, z = upF F x2 (upd (F x2) (x9).toNatClampNeg (1073741824 : Int32)) := ⟨_, rfl⟩
          rw [← eF4] at hP
          have h := h.2 F4 eF4
          refine lv_iinc (v := (x9 + (1 : Int32))) (lv' := [(9, .int (x9 + (1 : Int32))), (10, .int r2), (0, .ref (q 9)), (2, .ref (q x2)), (3, .int x3), (4, .int x4), (5, .int x5), (7, .ref (q x7)), (8, .int x8)]) hx hb dX3_cross_118 hl (k := 8) rfl rfl (by decide) rfl (fun ls hl => ?_)
          refine lv_goto (tgt := 70) hx hb dX3_cross_121 (by decide) ?_
          exact ih x2 x3 x4 x5 x7 x8 _ (x9 + (1 : Int32)) I F4 _ _ _ hx2 hx7 hP hS (lv_sub hl [2, 3, 4, 5, 6, 7, 8, 0] rfl) h K
        · have h := h.2 c3
          refine lv_aload_n hx hb dX3_cross_100 rfl (lv_at hl 1 rfl) ?_
          refine lv_aload hx hb dX3_cross_101 (lv_at hl 6 rfl) ?_
          refine lv_iload hx hb dX3_cross_103 (lv_at hl 8 rfl) ?_
          refine lv_iload hx hb dX3_cross_105 (lv_at hl 7 rfl) ?_
          refine lv_iload hx hb dX3_cross_107 (lv_at hl 5 rfl) ?_
          refine gCallI (D := D) (va_runV (As := [.ref (q x7), .int x9, .int x8, .int x5]) (rest := [.int x9, .ref (q x2)]) ⟨hx, hb, hml, hown, hts⟩ (c_X3_gathered_9_r l D q cI cO hq x7 x9 x8 x5 hx7 I F _ h) (cwV 4 hts gX3_cross_X3_gathered rfl rfl rfl (by decide +kernel) ⟨Nat.le_trans (Nat.le_of_ble_eq_true rfl) hRf, Nat.le_trans (Nat.le_of_ble_eq_true rfl) hRl⟩) (gPreV (ci := 3) (q0 := 9) cEok hE hK hP hS rfl cAt9) rfl rfl hl.1 rfl (lv_room (Nat.le_of_ble_eq_true rfl)) dX3_cross_109 ⟨Nat.zero_le _, Nat.zero_le _⟩) hS (fun r5 _ H locs hP hS h => ?_)
          have hP : va_P D vwCl (cW q cI cO I F) H := hP
          refine lv_goto (tgt := 117) hx hb dX3_cross_112 (by decide) ?_
          refine gAst (D := D) hx hb hK hP (cD hq) hS x2 0 (cRow hx2) rfl h.1 dX3_cross_117 (cSetRow hx2 _) (fun H locs hP hS => ?_)
          obtain ⟨F6, eF6⟩ : ∃ z : Nat → Nat → Int32, z = upF F x2 (upd (F x2) (x9).toNatClampNeg r5) := ⟨_, rfl⟩
          rw [← eF6] at hP
          have h := h.2 F6 eF6
          refine lv_iinc (v := (x9 + (1 : Int32))) (lv' := [(9, .int (x9 + (1 : Int32))), (10, .int r2), (0, .ref (q 9)), (2, .ref (q x2)), (3, .int x3), (4, .int x4), (5, .int x5), (7, .ref (q x7)), (8, .int x8)]) hx hb dX3_cross_118 hl (k := 8) rfl rfl (by decide) rfl (fun ls hl => ?_)
          refine lv_goto (tgt := 70) hx hb dX3_cross_121 (by decide) ?_
          exact ih x2 x3 x4 x5 x7 x8 _ (x9 + (1 : Int32)) I F6 _ _ _ hx2 hx7 hP hS (lv_sub hl [2, 3, 4, 5, 6, 7, 8, 0] rfl) h K
  have J65 : ∀ (x2 : Nat) (x3 : Int32) (x4 : Int32) (x5 : Int32) (x7 : Nat) (z0 : Int32) (I : Nat → Int32) (F : Nat → Nat → Int32) (H : Heap) (locs : List Loc) (ls : Array Slot), 28 ≤ x2 ∧ x2 < 39 → 28 ≤ x7 ∧ x7 < 39 → va_P D vwCl (cW q cI cO I F) H → va_S (cA q) s.heap H locs → lv_has ls 11 [(0, .ref (q 9)), (2, .ref (q x2)), (3, .int x3), (4, .int x4), (5, .int x5), (7, .ref (q x7))] → w_X3_cross_9_r_r_J65 x2 x3 x4 x5 x7 z0 I F post → W p l e R s m args below meth c H locs 0 0 Q (F0 m 65 ls [.int z0]) := by
    intro x2 x3 x4 x5 x7 z0 I F H locs ls hx2 hx7 hP hS hl h
    refine lv_istore (lv' := [(8, .int z0), (0, .ref (q 9)), (2, .ref (q x2)), (3, .int x3), (4, .int x4), (5, .int x5), (7, .ref (q x7))]) hx hb dX3_cross_65 hl (by decide) rfl (fun ls hl => ?_)
    refine lv_iconst (v := (0 : Int32)) hx hb dX3_cross_67 (by decide) ?_
    refine lv_istore (lv' := [(9, .int (0 : Int32)), (8, .int z0), (0, .ref (q 9)), (2, .ref (q x2)), (3, .int x3), (4, .int x4), (5, .int x5), (7, .ref (q x7))]) hx hb dX3_cross_68 hl (by decide) rfl (fun ls hl => ?_)
    obtain ⟨n, h⟩ := h
    refine L70 n x2 x3 x4 x5 x7 z0 _ (0 : Int32) I F _ _ _ hx2 hx7 hP hS (lv_sub hl [2, 3, 4, 5, 6, 7, 1, 0] rfl) h (fun y7 I8 F9 H locs ls  hP hS hl h => ?_)
    exact hret (I8, F9) _ _ _ _ dX3_cross_124 hP hS h
  have J44 : ∀ (x2 : Nat) (x3 : Int32) (x4 : Int32) (x5 : Int32) (x6 : Int32) (x7 : Nat) (I : Nat → Int32) (F : Nat → Nat → Int32) (H : Heap) (locs : List Loc) (ls : Array Slot), 28 ≤ x2 ∧ x2 < 39 → 28 ≤ x7 ∧ x7 < 39 → va_P D vwCl (cW q cI cO I F) H → va_S (cA q) s.heap H locs → lv_has ls 11 [(0, .ref (q 9)), (2, .ref (q x2)), (3, .int x3), (4, .int x4), (5, .int x5), (6, .int x6), (7, .ref (q x7))] → w_X3_cross_9_r_r_J44 x2 x3 x4 x5 x6 x7 I F post → W p l e R s m args below meth c H locs 0 0 Q (F0 m 44 ls []) := by
    intro x2 x3 x4 x5 x6 x7 I F H locs ls hx2 hx7 hP hS hl h
    refine lv_iload hx hb dX3_cross_44 (lv_at hl 5 rfl) ?_
    refine lv_if_ne (tgt := 53) hx hb dX3_cross_46 (by decide) (fun c10 => ?_) (fun c10 => ?_)
    · have h := h.1 c10
      refine lv_iload hx hb dX3_cross_53 (lv_at hl 5 rfl) ?_
      refine lv_iconst (v := (1 : Int32)) hx hb dX3_cross_55 (by decide) ?_
      refine lv_icmp_ne (tgt := 64) hx hb dX3_cross_56 (by decide) (fun c11 => ?_) (fun c11 => ?_)
      · have h := h.1 c11
        refine lv_iconst (v := (3 : Int32)) hx hb dX3_cross_64 (by decide) ?_
        exact J65 x2 x3 x4 x5 x7 (3 : Int32) I F _ _ _ hx2 hx7 hP hS (lv_sub hl [0, 1, 2, 3, 4, 6] rfl) h
      · have h := h.2 c11
        refine lv_bipush (v := (7 : Int32)) hx hb dX3_cross_59 (by decide) ?_
        refine lv_goto (tgt := 65) hx hb dX3_cross_61 (by decide) ?_
        exact J65 x2 x3 x4 x5 x7 (7 : Int32) I F _ _ _ hx2 hx7 hP hS (lv_sub hl [0, 1, 2, 3, 4, 6] rfl) h
    · have h := h.2 c10
      refine lv_iconst (v := (0 : Int32)) hx hb dX3_cross_49 (by decide) ?_
      refine lv_goto (tgt := 65) hx hb dX3_cross_50 (by decide) ?_
      exact J65 x2 x3 x4 x5 x7 (0 : Int32) I F _ _ _ hx2 hx7 hP hS (lv_sub hl [0, 1, 2, 3, 4, 6] rfl) h
  refine lv_aload_n hx hb dX3_cross_0 rfl (lv_at hl 0 rfl) ?_
  refine va_get (D := D) (ci := 3) (v := .ref (q 10)) (C := RX3) (T := TX3) (N := 12) hx hb hts (fun _ h9 => List.mem_cons_of_mem _ (List.mem_append_left _ (List.mem_append_left _ (List.mem_append_right _ h9)))) hown hK hP 9 cAt9 rfl 1 (by decide) (hts _ (List.mem_of_getElem? (l := wsX3_cross) (i := 1) rfl)) (fun _ h9 => h9) rfl dX3_cross_1 ?_
  refine va_getN (D := D) (ci := 0) (v := .int (I 17)) (C := RX0) (T := TX0) (N := 2) hx hb hts (fun _ h9 => List.mem_cons_of_mem _ (List.mem_append_left _ (List.mem_append_right _ h9))) hown hK hP 10 cAt10 rfl 0 (by decide) (va_Nw.use rfl (hE.1.1 _ (List.mem_of_getElem? (l := cNF) (i := 14) rfl))) (fun _ h9 => h9) rfl dX3_cross_4 ?_
  refine lv_topi (fun v12 ev12 => ?_)
  have h := h v12 ev12
  refine lv_istore (lv' := [(6, .int v12), (0, .ref (q 9)), (1, .ref (q r2)), (2, .ref (q r3)), (3, .int a3), (4, .int a4), (5, .int a5)]) hx hb dX3_cross_7 hl (by decide) rfl (fun ls hl => ?_)
  refine lv_aload_n hx hb dX3_cross_9 rfl (lv_at hl 2 rfl) ?_
  refine lv_astore (lv' := [(7, .ref (q r2)), (6, .int v12), (0, .ref (q 9)), (1, .ref (q r2)), (2, .ref (q r3)), (3, .int a3), (4, .int a4), (5, .int a5)]) hx hb dX3_cross_10 hl (by decide) rfl (fun ls hl => ?_)
  refine lv_iload hx hb dX3_cross_12 (lv_at hl 1 rfl) ?_
  refine lv_iconst (v := (2 : Int32)) hx hb dX3_cross_14 (by decide) ?_
  refine lv_icmp_ne (tgt := 44) hx hb dX3_cross_15 (by decide) (fun c13 => ?_) (fun c13 => ?_)
  · have h := h.1 c13
    exact J44 r3 a3 a4 a5 v12 r2 I F _ _ _ hr3 hr2 hP hS (lv_sub hl [2, 4, 5, 6, 7, 1, 0] rfl) h
  · have h := h.2 c13
    refine lv_aload_n hx hb dX3_cross_18 rfl (lv_at hl 3 rfl) ?_
    refine lv_iconst (v := (0 : Int32)) hx hb dX3_cross_19 (by decide) ?_
    refine lv_aload_n hx hb dX3_cross_20 rfl (lv_at hl 2 rfl) ?_
    refine va_get (D := D) (ci := 3) (v := .ref (q 30)) (C := RX3) (T := TX3) (N := 12) hx hb hts (fun _ h9 => List.mem_cons_of_mem _ (List.mem_append_left _ (List.mem_append_left _ (List.mem_append_right _ h9)))) hown hK hP 9 cAt9 rfl 4 (by decide) (hts _ (List.mem_of_getElem? (l := wsX3_cross) (i := 2) rfl)) (fun _ h9 => h9) rfl dX3_cross_21 ?_
    refine lv_iconst (v := (0 : Int32)) hx hb dX3_cross_24 (by decide) ?_
    refine lv_sipush (v := (2187 : Int32)) hx hb dX3_cross_25 (by decide) ?_
    refine gCopy (D := D) hx hb (hml.trans hl.1.symm) hown (hts _ (List.mem_of_getElem? (l := wsX3_cross) (i := 3) rfl)) (hts _ (List.mem_of_getElem? (l := wsX3_cross) (i := 4) rfl)) (hts _ (List.mem_of_getElem? (l := wsX3_cross) (i := 5) rfl)) (hts _ (List.mem_of_getElem? (l := wsX3_cross) (i := 6) rfl)) hK hP (cD hq) hS r2 30 0 (cRow hr2) cAr30 rfl (by decide) (by decide) (by decide) (by decide) (by decide) (Nat.le_trans (by decide) hRf) (Nat.le_trans (by decide) hRl) dX3_cross_28 (cSA30 _) (fun H locs hP hS => ?_)
    obtain ⟨F14, eF14⟩ : ∃ z : Nat → Nat → Int32, z = upF F 30 (va_cpy (F r2) (F 30) ((0 : Int32)).toNatClampNeg ((0 : Int32)).toNatClampNeg ((2187 : Int32)).toNatClampNeg) := ⟨_, rfl⟩
    rw [← eF14] at hP
    have h := h F14 eF14
    refine lv_aload_n hx hb dX3_cross_31 rfl (lv_at hl 2 rfl) ?_
    refine lv_aload_n hx hb dX3_cross_32 rfl (lv_at hl 3 rfl) ?_
    refine lv_iload hx hb dX3_cross_33 (lv_at hl 7 rfl) ?_
    refine gCallV (D := D) (va_runV (As := [.ref (q r2), .int a5]) (rest := []) ⟨hx, hb, hml, hown, hts⟩ (c_X3_spreadByRight_9_r l D q cI cO hq r2 a5 hr2 I F14 _ h) (cwV 2 hts gX3_cross_X3_spreadByRight rfl rfl rfl (by decide +kernel) ⟨Nat.le_trans (Nat.le_of_ble_eq_true rfl) hRf, Nat.le_trans (Nat.le_of_ble_eq_true rfl) hRl⟩) (gPreV (ci := 3) (q0 := 9) cEok hE hK hP hS rfl cAt9) rfl rfl hl.1 rfl (lv_room (Nat.le_of_ble_eq_true rfl)) dX3_cross_35 ⟨Nat.zero_le _, Nat.zero_le _⟩) hS (fun u H locs hP hS h => ?_)
    obtain ⟨I15, F16⟩ := u
    have hP : va_P D vwCl (cW q cI cO I15 F16) H := hP
    refine lv_aload_n hx hb dX3_cross_38 rfl (lv_at hl 2 rfl) ?_
    refine va_get (D := D) (ci := 3) (v := .ref (q 30)) (C := RX3) (T := TX3) (N := 12) hx hb hts (fun _ h9 => List.mem_cons_of_mem _ (List.mem_append_left _ (List.mem_append_left _ (List.mem_append_right _ h9)))) hown hK hP 9 cAt9 rfl 4 (by decide) (hts _ (List.mem_of_getElem? (l := wsX3_cross) (i := 2) rfl)) (fun _ h9 => h9) rfl dX3_cross_39 ?_
    refine lv_astore (lv' := [(7, .ref (q 30)), (6, .int v12), (0, .ref (q 9)), (1, .ref (q r2)), (2, .ref (q r3)), (3, .int a3), (4, .int a4), (5, .int a5)]) hx hb dX3_cross_42 hl (by decide) rfl (fun ls hl => ?_)
    exact J44 r3 a3 a4 a5 v12 30 I15 F16 _ _ _ hr3 (by decide) hP hS (lv_sub hl [2, 4, 5, 6, 7, 1, 0] rfl) h
def w_X3_howManyScored_r_B4 (x0 : Nat) (I : Nat → Int32) (F : Nat → Nat → Int32) (k again : Int32 → Int32 → Prop) (x1 : Int32) (x2 : Int32) : Prop :=
  (((2187 : Int32) ≤ x2 → k x1 x2) ∧ (¬ (2187 : Int32) ≤ x2 → vp_in x2 2187 ∧ (((F x0 (x2).toNatClampNeg) = (1073741824 : Int32) → again x1 (x2 + (1 : Int32))) ∧ (¬ (F x0 (x2).toNatClampNeg) = (1073741824 : Int32) → again (x1 + (1 : Int32)) (x2 + (1 : Int32))))))
def w_X3_howManyScored_r (r1 : Nat) (I : Nat → Int32) (F : Nat → Nat → Int32) (post : Int32 → Prop) : Prop :=
  gL (fun ag v => w_X3_howManyScored_r_B4 r1 I F (fun (y3 : Int32) (y4 : Int32) => post y3) (fun b0 b1 => ag (b0, b1)) v.1 v.2) ((0 : Int32), (0 : Int32))
set_option maxHeartbeats 4000000 in
set_option maxRecDepth 100000 in
theorem c_X3_howManyScored_r (l : Launch) (D : va_G) (q : Nat → Nat) (cI cO : ClassId) (hq : cOk q) (r1 : Nat) (hr1 : 28 ≤ r1 ∧ r1 < 39) (I : Nat → Int32) (F : Nat → Nat → Int32) (post : Int32 → Prop) (h : w_X3_howManyScored_r r1 I F post) : Met l yX3_howManyScored wsX3_howManyScored ({ frames := 0, cells := 0, slots := 0, locals := 0 } : Room) (gPre D (cTys cI cO) (cW q cI cO I F) (cEnv q) [.ref (q r1)]) (va_Qi (fun r (_ : Unit) => post r) (gB D (fun _ : Unit => cW q cI cO I F)) (cA q)) 0 0 (cA q) := by
  refine gMetI (by decide) rfl (Nat.le_of_ble_eq_true rfl) ?_
  intro p e R s m args below meth c Q ls hR hx hb hml hown hts hK hE hP hl hret
  have hRf : 0 ≤ R.frames := by subst hR; exact Nat.le_refl _
  have hRl : 0 ≤ R.locals := by subst hR; exact Nat.le_refl _
  have hown : s.vm.findClass RX3 = some m.cls := hown
  have hl : lv_has ls 3 [(0, .ref (q r1))] := hl
  have hS : va_S (cA q) s.heap s.heap [] := va_S.rf
  have hP : va_P D vwCl (cW q cI cO I F) s.heap := hP
  have L4 : ∀ (n : Nat) (x0 : Nat) (k : Int32 → Int32 → Prop) (x1 : Int32) (x2 : Int32) (H : Heap) (locs : List Loc) (ls : Array Slot), 28 ≤ x0 ∧ x0 < 39 → va_P D vwCl (cW q cI cO I F) H → va_S (cA q) s.heap H locs → lv_has ls 3 [(0, .ref (q x0)), (1, .int x1), (2, .int x2)] → gLN (fun ag v => w_X3_howManyScored_r_B4 x0 I F k (fun b0 b1 => ag (b0, b1)) v.1 v.2) n (x1, x2) → (∀ (x1 : Int32) (x2 : Int32) (H : Heap) (locs : List Loc) (ls : Array Slot), va_P D vwCl (cW q cI cO I F) H → va_S (cA q) s.heap H locs → lv_has ls 3 [(1, .int x1)] → k x1 x2 → W p l e R s m args below meth c H locs 0 0 Q (F0 m 28 ls [])) → W p l e R s m args below meth c H locs 0 0 Q (F0 m 4 ls []) := by
    intro n
    induction n with
    | zero =>
      intro x0 k x1 x2 H locs ls hx0 hP hS hl h K
      exact False.elim h
    | succ n ih =>
      intro x0 k x1 x2 H locs ls hx0 hP hS hl h K
      have h : w_X3_howManyScored_r_B4 x0 I F k (fun b0 b1 => gLN (fun ag v => w_X3_howManyScored_r_B4 x0 I F k (fun b0 b1 => ag (b0, b1)) v.1 v.2) n (b0, b1)) x1 x2 := h
      refine lv_iload_n hx hb dX3_howManyScored_4 rfl (lv_at hl 2 rfl) ?_
      refine lv_sipush (v := (2187 : Int32)) hx hb dX3_howManyScored_5 (by decide) ?_
      refine lv_icmp_ge (tgt := 28) hx hb dX3_howManyScored_8 (by decide) (fun c1 => ?_) (fun c1 => ?_)
      · have h := h.1 c1
        exact K x1 x2 _ _ _  hP hS (lv_sub hl [1] rfl) h
      · have h := h.2 c1
        refine lv_aload_n hx hb dX3_howManyScored_11 rfl (lv_at hl 0 rfl) ?_
        refine lv_iload_n hx hb dX3_howManyScored_12 rfl (lv_at hl 2 rfl) ?_
        refine va_iald (D := D) hx hb hK hP x0 0 (cRow hx0) rfl h.1 dX3_howManyScored_13 ?_
        have h := h.2
        refine lv_ldc (v := (1073741824 : Int32)) hx hb hown (hts _ (List.mem_of_getElem? (l := wsX3_howManyScored) (i := 1) rfl)) dX3_howManyScored_14 ?_
        refine lv_icmp_eq (tgt := 22) hx hb dX3_howManyScored_16 (by decide) (fun c2 => ?_) (fun c2 => ?_)
        · have h := h.1 c2
          refine lv_iinc (v := (x2 + (1 : Int32))) (lv' := [(2, .int (x2 + (1 : Int32))), (0, .ref (q x0)), (1, .int x1)]) hx hb dX3_howManyScored_22 hl (k := 2) rfl rfl (by decide) rfl (fun ls hl => ?_)
          refine lv_goto (tgt := 4) hx hb dX3_howManyScored_25 (by decide) ?_
          exact ih x0 _ x1 (x2 + (1 : Int32)) _ _ _ hx0 hP hS (lv_sub hl [1, 2, 0] rfl) h K
        · have h := h.2 c2
          refine lv_iinc (v := (x1 + (1 : Int32))) (lv' := [(1, .int (x1 + (1 : Int32))), (0, .ref (q x0)), (2, .int x2)]) hx hb dX3_howManyScored_19 hl (k := 1) rfl rfl (by decide) rfl (fun ls hl => ?_)
          refine lv_iinc (v := (x2 + (1 : Int32))) (lv' := [(2, .int (x2 + (1 : Int32))), (1, .int (x1 + (1 : Int32))), (0, .ref (q x0))]) hx hb dX3_howManyScored_22 hl (k := 2) rfl rfl (by decide) rfl (fun ls hl => ?_)
          refine lv_goto (tgt := 4) hx hb dX3_howManyScored_25 (by decide) ?_
          exact ih x0 _ (x1 + (1 : Int32)) (x2 + (1 : Int32)) _ _ _ hx0 hP hS (lv_sub hl [2, 1, 0] rfl) h K
  refine lv_iconst (v := (0 : Int32)) hx hb dX3_howManyScored_0 (by decide) ?_
  refine lv_istore_n (lv' := [(1, .int (0 : Int32)), (0, .ref (q r1))]) hx hb dX3_howManyScored_1 rfl hl (by decide) rfl (fun ls hl => ?_)
  refine lv_iconst (v := (0 : Int32)) hx hb dX3_howManyScored_2 (by decide) ?_
  refine lv_istore_n (lv' := [(2, .int (0 : Int32)), (1, .int (0 : Int32)), (0, .ref (q r1))]) hx hb dX3_howManyScored_3 rfl hl (by decide) rfl (fun ls hl => ?_)
  obtain ⟨n, h⟩ := h
  refine L4 n r1 _ (0 : Int32) (0 : Int32) _ _ _ hr1 hP hS (lv_sub hl [2, 1, 0] rfl) h (fun y3 y4 H locs ls  hP hS hl h => ?_)
  refine lv_iload_n hx hb dX3_howManyScored_28 rfl (lv_at hl 0 rfl) ?_
  exact hret y3 () _ _ _ _ dX3_howManyScored_29 hP hS h
def w_X3_bestScore_r_B5 (x0 : Nat) (I : Nat → Int32) (F : Nat → Nat → Int32) (k again : Int32 → Int32 → Prop) (x1 : Int32) (x2 : Int32) : Prop :=
  (((2187 : Int32) ≤ x2 → k x1 x2) ∧ (¬ (2187 : Int32) ≤ x2 → vp_in x2 2187 ∧ (((F x0 (x2).toNatClampNeg) = (1073741824 : Int32) → again x1 (x2 + (1 : Int32))) ∧ (¬ (F x0 (x2).toNatClampNeg) = (1073741824 : Int32) → vp_in x2 2187 ∧ w_X3_joined x1 (F x0 (x2).toNatClampNeg) I F (fun (r3 : Int32) => again r3 (x2 + (1 : Int32)))))))
def w_X3_bestScore_r (r1 : Nat) (I : Nat → Int32) (F : Nat → Nat → Int32) (post : Int32 → Prop) : Prop :=
  gL (fun ag v => w_X3_bestScore_r_B5 r1 I F (fun (y4 : Int32) (y5 : Int32) => post y4) (fun b0 b1 => ag (b0, b1)) v.1 v.2) ((1073741824 : Int32), (0 : Int32))
set_option maxHeartbeats 4000000 in
set_option maxRecDepth 100000 in
theorem c_X3_bestScore_r (l : Launch) (D : va_G) (q : Nat → Nat) (cI cO : ClassId) (hq : cOk q) (r1 : Nat) (hr1 : 28 ≤ r1 ∧ r1 < 39) (I : Nat → Int32) (F : Nat → Nat → Int32) (post : Int32 → Prop) (h : w_X3_bestScore_r r1 I F post) : Met l yX3_bestScore wsX3_bestScore ({ frames := 1, cells := 0, slots := 0, locals := 22 } : Room) (gPre D (cTys cI cO) (cW q cI cO I F) (cEnv q) [.ref (q r1)]) (va_Qi (fun r (_ : Unit) => post r) (gB D (fun _ : Unit => cW q cI cO I F)) (cA q)) 0 0 (cA q) := by
  refine gMetI (by decide) rfl (Nat.le_of_ble_eq_true rfl) ?_
  intro p e R s m args below meth c Q ls hR hx hb hml hown hts hK hE hP hl hret
  have hRf : 1 ≤ R.frames := by subst hR; exact Nat.le_refl _
  have hRl : 22 ≤ R.locals := by subst hR; exact Nat.le_refl _
  have hown : s.vm.findClass RX3 = some m.cls := hown
  have hl : lv_has ls 3 [(0, .ref (q r1))] := hl
  have hS : va_S (cA q) s.heap s.heap [] := va_S.rf
  have hP : va_P D vwCl (cW q cI cO I F) s.heap := hP
  have L5 : ∀ (n : Nat) (x0 : Nat) (k : Int32 → Int32 → Prop) (x1 : Int32) (x2 : Int32) (H : Heap) (locs : List Loc) (ls : Array Slot), 28 ≤ x0 ∧ x0 < 39 → va_P D vwCl (cW q cI cO I F) H → va_S (cA q) s.heap H locs → lv_has ls 3 [(0, .ref (q x0)), (1, .int x1), (2, .int x2)] → gLN (fun ag v => w_X3_bestScore_r_B5 x0 I F k (fun b0 b1 => ag (b0, b1)) v.1 v.2) n (x1, x2) → (∀ (x1 : Int32) (x2 : Int32) (H : Heap) (locs : List Loc) (ls : Array Slot), va_P D vwCl (cW q cI cO I F) H → va_S (cA q) s.heap H locs → lv_has ls 3 [(1, .int x1)] → k x1 x2 → W p l e R s m args below meth c H locs 0 0 Q (F0 m 34 ls [])) → W p l e R s m args below meth c H locs 0 0 Q (F0 m 5 ls []) := by
    intro n
    induction n with
    | zero =>
      intro x0 k x1 x2 H locs ls hx0 hP hS hl h K
      exact False.elim h
    | succ n ih =>
      intro x0 k x1 x2 H locs ls hx0 hP hS hl h K
      have h : w_X3_bestScore_r_B5 x0 I F k (fun b0 b1 => gLN (fun ag v => w_X3_bestScore_r_B5 x0 I F k (fun b0 b1 => ag (b0, b1)) v.1 v.2) n (b0, b1)) x1 x2 := h
      refine lv_iload_n hx hb dX3_bestScore_5 rfl (lv_at hl 2 rfl) ?_
      refine lv_sipush (v := (2187 : Int32)) hx hb dX3_bestScore_6 (by decide) ?_
      refine lv_icmp_ge (tgt := 34) hx hb dX3_bestScore_9 (by decide) (fun c1 => ?_) (fun c1 => ?_)
      · have h := h.1 c1
        exact K x1 x2 _ _ _  hP hS (lv_sub hl [1] rfl) h
      · have h := h.2 c1
        refine lv_aload_n hx hb dX3_bestScore_12 rfl (lv_at hl 0 rfl) ?_
        refine lv_iload_n hx hb dX3_bestScore_13 rfl (lv_at hl 2 rfl) ?_
        refine va_iald (D := D) hx hb hK hP x0 0 (cRow hx0) rfl h.1 dX3_bestScore_14 ?_
        have h := h.2
        refine lv_ldc (v := (1073741824 : Int32)) hx hb hown (hts _ (List.mem_of_getElem? (l := wsX3_bestScore) (i := 1) rfl)) dX3_bestScore_15 ?_
        refine lv_icmp_eq (tgt := 28) hx hb dX3_bestScore_17 (by decide) (fun c2 => ?_) (fun c2 => ?_)
        · have h := h.1 c2
          refine lv_iinc (v := (x2 + (1 : Int32))) (lv' := [(2, .int (x2 + (1 : Int32))), (0, .ref (q x0)), (1, .int x1)]) hx hb dX3_bestScore_28 hl (k := 2) rfl rfl (by decide) rfl (fun ls hl => ?_)
          refine lv_goto (tgt := 5) hx hb dX3_bestScore_31 (by decide) ?_
          exact ih x0 _ x1 (x2 + (1 : Int32)) _ _ _ hx0 hP hS (lv_sub hl [1, 2, 0] rfl) h K
        · have h := h.2 c2
          refine lv_iload_n hx hb dX3_bestScore_20 rfl (lv_at hl 1 rfl) ?_
          refine lv_aload_n hx hb dX3_bestScore_21 rfl (lv_at hl 0 rfl) ?_
          refine lv_iload_n hx hb dX3_bestScore_22 rfl (lv_at hl 2 rfl) ?_
          refine va_iald (D := D) hx hb hK hP x0 0 (cRow hx0) rfl h.1 dX3_bestScore_23 ?_
          have h := h.2
          refine gCallI (D := D) (va_runS (As := [.int x1, .int (F x0 (x2).toNatClampNeg)]) (rest := []) ⟨hx, hb, hml, hown, hts⟩ (c_X3_joined l D q cI cO hq x1 (F x0 (x2).toNatClampNeg)  I F _ h) (va_cwS 2 hts gX3_bestScore_X3_joined rfl rfl rfl (by decide +kernel) ⟨Nat.le_trans (Nat.le_of_ble_eq_true rfl) hRf, Nat.le_trans (Nat.le_of_ble_eq_true rfl) hRl⟩) (gPreS cEok hE hK hP hS) rfl rfl hl.1 rfl (lv_room (Nat.le_of_ble_eq_true rfl)) dX3_bestScore_24 ⟨Nat.zero_le _, Nat.zero_le _⟩) hS (fun r3 _ H locs hP hS h => ?_)
          have hP : va_P D vwCl (cW q cI cO I F) H := hP
          refine lv_istore_n (lv' := [(1, .int r3), (0, .ref (q x0)), (2, .int x2)]) hx hb dX3_bestScore_27 rfl hl (by decide) rfl (fun ls hl => ?_)
          refine lv_iinc (v := (x2 + (1 : Int32))) (lv' := [(2, .int (x2 + (1 : Int32))), (1, .int r3), (0, .ref (q x0))]) hx hb dX3_bestScore_28 hl (k := 2) rfl rfl (by decide) rfl (fun ls hl => ?_)
          refine lv_goto (tgt := 5) hx hb dX3_bestScore_31 (by decide) ?_
          exact ih x0 _ r3 (x2 + (1 : Int32)) _ _ _ hx0 hP hS (lv_sub hl [2, 1, 0] rfl) h K
  refine lv_ldc (v := (1073741824 : Int32)) hx hb hown (hts _ (List.mem_of_getElem? (l := wsX3_bestScore) (i := 1) rfl)) dX3_bestScore_0 ?_
  refine lv_istore_n (lv' := [(1, .int (1073741824 : Int32)), (0, .ref (q r1))]) hx hb dX3_bestScore_2 rfl hl (by decide) rfl (fun ls hl => ?_)
  refine lv_iconst (v := (0 : Int32)) hx hb dX3_bestScore_3 (by decide) ?_
  refine lv_istore_n (lv' := [(2, .int (0 : Int32)), (1, .int (1073741824 : Int32)), (0, .ref (q r1))]) hx hb dX3_bestScore_4 rfl hl (by decide) rfl (fun ls hl => ?_)
  obtain ⟨n, h⟩ := h
  refine L5 n r1 _ (1073741824 : Int32) (0 : Int32) _ _ _ hr1 hP hS (lv_sub hl [2, 1, 0] rfl) h (fun y4 y5 H locs ls  hP hS hl h => ?_)
  refine lv_iload_n hx hb dX3_bestScore_34 rfl (lv_at hl 0 rfl) ?_
  exact hret y4 () _ _ _ _ dX3_bestScore_35 hP hS h
def w_J7_fill_53178_r_B5 (x0 : Nat) (x1 : Int32) (x3 : Int32) (k again : Int32 → (Nat → Int32) → (Nat → Nat → Int32) → Prop) (x2 : Int32) (I : Nat → Int32) (F : Nat → Nat → Int32) : Prop :=
  ((x3 ≤ x2 → k x2 I F) ∧ (¬ x3 ≤ x2 → vp_in x2 2187 ∧ ∀ F2 : Nat → Nat → Int32, F2 = upF F x0 (upd (F x0) (x2).toNatClampNeg x1) → again (x2 + (1 : Int32)) I F2))
def w_J7_fill_53178_r (r1 : Nat) (a1 : Int32) (I : Nat → Int32) (F : Nat → Nat → Int32) (post : (Nat → Int32) → (Nat → Nat → Int32) → Prop) : Prop :=
  gL (fun ag v => w_J7_fill_53178_r_B5 r1 a1 (2187 : Int32) (fun (y3 : Int32) (I4 : Nat → Int32) (F5 : Nat → Nat → Int32) => post I4 F5) (fun b0 b1 b2 => ag (b0, b1, b2)) v.1 v.2.1 v.2.2) ((0 : Int32), I, F)
set_option maxHeartbeats 4000000 in
set_option maxRecDepth 100000 in
theorem c_J7_fill_53178_r (l : Launch) (D : va_G) (q : Nat → Nat) (cI cO : ClassId) (hq : cOk q) (r1 : Nat) (a1 : Int32) (hr1 : 28 ≤ r1 ∧ r1 < 39) (I : Nat → Int32) (F : Nat → Nat → Int32) (post : (Nat → Int32) → (Nat → Nat → Int32) → Prop) (h : w_J7_fill_53178_r r1 a1 I F post) : Met l yJ7_fill_53178 wsJ7_fill_53178 ({ frames := 0, cells := 0, slots := 0, locals := 0 } : Room) (gPre D (cTys cI cO) (cW q cI cO I F) (cEnv q) [.ref (q r1), .int a1]) (va_Qv (fun (u : cS) => post u.1 u.2) (gB D (fun u : cS => cW q cI cO u.1 u.2)) (cA q)) 0 0 (cA q) := by
  refine gMetV (by decide) rfl (Nat.le_of_ble_eq_true rfl) ?_
  intro p e R s m args below meth c Q ls hR hx hb hml hown hts hK hE hP hl hret
  have hRf : 0 ≤ R.frames := by subst hR; exact Nat.le_refl _
  have hRl : 0 ≤ R.locals := by subst hR; exact Nat.le_refl _
  have hown : s.vm.findClass RJ7 = some m.cls := hown
  have hl : lv_has ls 4 [(0, .ref (q r1)), (1, .int a1)] := hl
  have hS : va_S (cA q) s.heap s.heap [] := va_S.rf
  have hP : va_P D vwCl (cW q cI cO I F) s.heap := hP
  have L5 : ∀ (n : Nat) (x0 : Nat) (x1 : Int32) (x3 : Int32) (k : Int32 → (Nat → Int32) → (Nat → Nat → Int32) → Prop) (x2 : Int32) (I : Nat → Int32) (F : Nat → Nat → Int32) (H : Heap) (locs : List Loc) (ls : Array Slot), 28 ≤ x0 ∧ x0 < 39 → va_P D vwCl (cW q cI cO I F) H → va_S (cA q) s.heap H locs → lv_has ls 4 [(0, .ref (q x0)), (1, .int x1), (2, .int x2), (3, .int x3)] → gLN (fun ag v => w_J7_fill_53178_r_B5 x0 x1 x3 k (fun b0 b1 b2 => ag (b0, b1, b2)) v.1 v.2.1 v.2.2) n (x2, I, F) → (∀ (x2 : Int32) (I : Nat → Int32) (F : Nat → Nat → Int32) (H : Heap) (locs : List Loc) (ls : Array Slot), va_P D vwCl (cW q cI cO I F) H → va_S (cA q) s.heap H locs → lv_has ls 4 [] → k x2 I F → W p l e R s m args below meth c H locs 0 0 Q (F0 m 20 ls [])) → W p l e R s m args below meth c H locs 0 0 Q (F0 m 5 ls []) := by
    intro n
    induction n with
    | zero =>
      intro x0 x1 x3 k x2 I F H locs ls hx0 hP hS hl h K
      exact False.elim h
    | succ n ih =>
      intro x0 x1 x3 k x2 I F H locs ls hx0 hP hS hl h K
      have h : w_J7_fill_53178_r_B5 x0 x1 x3 k (fun b0 b1 b2 => gLN (fun ag v => w_J7_fill_53178_r_B5 x0 x1 x3 k (fun b0 b1 b2 => ag (b0, b1, b2)) v.1 v.2.1 v.2.2) n (b0, b1, b2)) x2 I F := h
      refine lv_iload_n hx hb dJ7_fill_53178_5 rfl (lv_at hl 2 rfl) ?_
      refine lv_iload_n hx hb dJ7_fill_53178_6 rfl (lv_at hl 3 rfl) ?_
      refine lv_icmp_ge (tgt := 20) hx hb dJ7_fill_53178_7 (by decide) (fun c1 => ?_) (fun c1 => ?_)
      · have h := h.1 c1
        exact K x2 I F _ _ _  hP hS (lv_sub hl [] rfl) h
      · have h := h.2 c1
        refine lv_aload_n hx hb dJ7_fill_53178_10 rfl (lv_at hl 0 rfl) ?_
        refine lv_iload_n hx hb dJ7_fill_53178_11 rfl (lv_at hl 2 rfl) ?_
        refine lv_iload_n hx hb dJ7_fill_53178_12 rfl (lv_at hl 1 rfl) ?_
        refine gAst (D := D) hx hb hK hP (cD hq) hS x0 0 (cRow hx0) rfl h.1 dJ7_fill_53178_13 (cSetRow hx0 _) (fun H locs hP hS => ?_)
        obtain ⟨F2, eF2⟩ : ∃ z : Nat → Nat → Int32, z = upF F x0 (upd (F x0) (x2).toNatClampNeg x1) := ⟨_, rfl⟩
        rw [← eF2] at hP
        have h := h.2 F2 eF2
        refine lv_iinc (v := (x2 + (1 : Int32))) (lv' := [(2, .int (x2 + (1 : Int32))), (0, .ref (q x0)), (1, .int x1), (3, .int x3)]) hx hb dJ7_fill_53178_14 hl (k := 2) rfl rfl (by decide) rfl (fun ls hl => ?_)
        refine lv_goto (tgt := 5) hx hb dJ7_fill_53178_17 (by decide) ?_
        exact ih x0 x1 x3 _ (x2 + (1 : Int32)) I F2 _ _ _ hx0 hP hS (lv_sub hl [1, 2, 0, 3] rfl) h K
  refine lv_iconst (v := (0 : Int32)) hx hb dJ7_fill_53178_0 (by decide) ?_
  refine lv_istore_n (lv' := [(2, .int (0 : Int32)), (0, .ref (q r1)), (1, .int a1)]) hx hb dJ7_fill_53178_1 rfl hl (by decide) rfl (fun ls hl => ?_)
  refine lv_aload_n hx hb dJ7_fill_53178_2 rfl (lv_at hl 1 rfl) ?_
  refine va_alen (D := D) (v := (2187 : Int32)) hx hb hK hP r1 0 (cRow hr1) rfl rfl dJ7_fill_53178_3 ?_
  refine lv_istore_n (lv' := [(3, .int (2187 : Int32)), (2, .int (0 : Int32)), (0, .ref (q r1)), (1, .int a1)]) hx hb dJ7_fill_53178_4 rfl hl (by decide) rfl (fun ls hl => ?_)
  obtain ⟨n, h⟩ := h
  refine L5 n r1 a1 (2187 : Int32) _ (0 : Int32) I F _ _ _ hr1 hP hS (lv_sub hl [2, 3, 1, 0] rfl) h (fun y3 I4 F5 H locs ls  hP hS hl h => ?_)
  exact hret (I4, F5) _ _ _ _ dJ7_fill_53178_20 hP hS h
def w_X7_isSetting (a0 : Int32) (I : Nat → Int32) (F : Nat → Nat → Int32) (post : Int32 → Prop) : Prop :=
  ((a0 < 0 → post (0 : Int32)) ∧ (¬ a0 < 0 → (((2187 : Int32) ≤ a0 → post (0 : Int32)) ∧ (¬ (2187 : Int32) ≤ a0 → post (1 : Int32)))))
set_option maxHeartbeats 4000000 in
set_option maxRecDepth 100000 in
theorem c_X7_isSetting (l : Launch) (D : va_G) (q : Nat → Nat) (cI cO : ClassId) (hq : cOk q) (a0 : Int32)  (I : Nat → Int32) (F : Nat → Nat → Int32) (post : Int32 → Prop) (h : w_X7_isSetting a0 I F post) : Met l yX7_isSetting wsX7_isSetting ({ frames := 0, cells := 0, slots := 0, locals := 0 } : Room) (gPre D (cTys cI cO) (cW q cI cO I F) (cEnv q) [.int a0]) (va_Qi (fun r (_ : Unit) => post r) (gB D (fun _ : Unit => cW q cI cO I F)) (cA q)) 0 0 (cA q) := by
  refine gMetZ (by decide) rfl (Nat.le_of_ble_eq_true rfl) ?_
  intro p e R s m args below meth c Q ls hR hx hb hml hown hts hK hE hP hl hret
  have hRf : 0 ≤ R.frames := by subst hR; exact Nat.le_refl _
  have hRl : 0 ≤ R.locals := by subst hR; exact Nat.le_refl _
  have hown : s.vm.findClass RX7 = some m.cls := hown
  have hl : lv_has ls 1 [(0, .int a0)] := hl
  have hS : va_S (cA q) s.heap s.heap [] := va_S.rf
  have hP : va_P D vwCl (cW q cI cO I F) s.heap := hP
  refine lv_iload_n hx hb dX7_isSetting_0 rfl (lv_at hl 0 rfl) ?_
  refine lv_if_lt (tgt := 15) hx hb dX7_isSetting_1 (by decide) (fun c1 => ?_) (fun c1 => ?_)
  · have h := h.1 c1
    refine lv_iconst (v := (0 : Int32)) hx hb dX7_isSetting_15 (by decide) ?_
    exact hret (0 : Int32) () _ _ _ _ dX7_isSetting_16 hP hS (by decide) h
  · have h := h.2 c1
    refine lv_iload_n hx hb dX7_isSetting_4 rfl (lv_at hl 0 rfl) ?_
    refine lv_sipush (v := (2187 : Int32)) hx hb dX7_isSetting_5 (by decide) ?_
    refine lv_icmp_ge (tgt := 15) hx hb dX7_isSetting_8 (by decide) (fun c2 => ?_) (fun c2 => ?_)
    · have h := h.1 c2
      refine lv_iconst (v := (0 : Int32)) hx hb dX7_isSetting_15 (by decide) ?_
      exact hret (0 : Int32) () _ _ _ _ dX7_isSetting_16 hP hS (by decide) h
    · have h := h.2 c2
      refine lv_iconst (v := (1 : Int32)) hx hb dX7_isSetting_11 (by decide) ?_
      refine lv_goto (tgt := 16) hx hb dX7_isSetting_12 (by decide) ?_
      exact hret (1 : Int32) () _ _ _ _ dX7_isSetting_16 hP hS (by decide) h
def w_X3_goForward_9_4_B46 (x2 : Int32) (k again : Nat → Nat → Int32 → (Nat → Int32) → (Nat → Nat → Int32) → Prop) (x3 : Nat) (x4 : Nat) (x5 : Int32) (I : Nat → Int32) (F : Nat → Nat → Int32) : Prop :=
  (((I 8) ≤ x5 → k x3 x4 x5 I F) ∧ (¬ (I 8) ≤ x5 → w_X3_setGapAheadOf_9_4 x5 x2 I F (fun (I2 : Nat → Int32) (F3 : Nat → Nat → Int32) => vp_in x5 8 ∧ vp_in x5 8 ∧ w_X8_raised (F3 18 (x5).toNatClampNeg) x2 I2 F3 (fun (r4 : Int32) => w_X3_cross_9_r_r x3 x4 (F3 17 (x5).toNatClampNeg) r4 (1 : Int32) I2 F3 (fun (I5 : Nat → Int32) (F6 : Nat → Nat → Int32) => w_X3_howManyScored_r x4 I5 F6 (fun (r7 : Int32) => vp_in x5 8 ∧ ∀ F8 : Nat → Nat → Int32, F8 = upF F6 26 (upd (F6 26) (x5).toNatClampNeg r7) → again x4 x3 (x5 + (1 : Int32)) I5 F8))))))
def w_X3_goForward_9_4_J43 (x2 : Int32) (I : Nat → Int32) (F : Nat → Nat → Int32) (post : (Nat → Int32) → (Nat → Nat → Int32) → Prop) : Prop :=
  gL (fun ag v => w_X3_goForward_9_4_B46 x2 (fun (y9 : Nat) (y10 : Nat) (y11 : Int32) (I12 : Nat → Int32) (F13 : Nat → Nat → Int32) => w_X3_bestScore_r y9 I12 F13 (fun (r14 : Int32) => ∀ I15 : Nat → Int32, I15 = upd I12 14 r14 → ∀ I16 : Nat → Int32, I16 = upd I15 15 x2 → post I16 F13)) (fun b0 b1 b2 b3 b4 => ag (b0, b1, b2, b3, b4)) v.1 v.2.1 v.2.2.1 v.2.2.2.1 v.2.2.2.2) (28, 29, (0 : Int32), I, F)
def w_X3_goForward_9_4 (a2 : Int32) (I : Nat → Int32) (F : Nat → Nat → Int32) (post : (Nat → Int32) → (Nat → Nat → Int32) → Prop) : Prop :=
  ((¬ (I 15) = a2 → w_J7_fill_53178_r 28 (1073741824 : Int32) I F (fun (I18 : Nat → Int32) (F19 : Nat → Nat → Int32) => w_X7_isSetting (I18 7) I18 F19 (fun (r20 : Int32) => ((r20 = 0 → w_X3_goForward_9_4_J43 a2 I18 F19 post) ∧ (¬ r20 = 0 → vp_in (I18 7) 2187 ∧ ∀ F22 : Nat → Nat → Int32, F22 = upF F19 28 (upd (F19 28) ((I18 7)).toNatClampNeg (1 : Int32)) → w_X3_goForward_9_4_J43 a2 I18 F22 post))))) ∧ ((I 15) = a2 → post I F))
set_option maxHeartbeats 4000000 in
set_option maxRecDepth 100000 in
theorem c_X3_goForward_9_4 (l : Launch) (D : va_G) (q : Nat → Nat) (cI cO : ClassId) (hq : cOk q) (a2 : Int32)  (I : Nat → Int32) (F : Nat → Nat → Int32) (post : (Nat → Int32) → (Nat → Nat → Int32) → Prop) (h : w_X3_goForward_9_4 a2 I F post) : Met l yX3_goForward wsX3_goForward ({ frames := 3, cells := 0, slots := 0, locals := 81 } : Room) (gPre D (cTys cI cO) (cW q cI cO I F) (cEnv q) [.ref (q 9), .ref (q 4), .int a2]) (va_Qv (fun (u : cS) => post u.1 u.2) (gB D (fun u : cS => cW q cI cO u.1 u.2)) (cA q)) 0 0 (cA q) := by
  refine gMetV (by decide) rfl (Nat.le_of_ble_eq_true rfl) ?_
  intro p e R s m args below meth c Q ls hR hx hb hml hown hts hK hE hP hl hret
  have hRf : 3 ≤ R.frames := by subst hR; exact Nat.le_refl _
  have hRl : 81 ≤ R.locals := by subst hR; exact Nat.le_refl _
  have hown : s.vm.findClass RX3 = some m.cls := hown
  have hl : lv_has ls 7 [(0, .ref (q 9)), (1, .ref (q 4)), (2, .int a2)] := hl
  have hS : va_S (cA q) s.heap s.heap [] := va_S.rf
  have hP : va_P D vwCl (cW q cI cO I F) s.heap := hP
  have L46 : ∀ (n : Nat) (x2 : Int32) (k : Nat → Nat → Int32 → (Nat → Int32) → (Nat → Nat → Int32) → Prop) (x3 : Nat) (x4 : Nat) (x5 : Int32) (I : Nat → Int32) (F : Nat → Nat → Int32) (H : Heap) (locs : List Loc) (ls : Array Slot), 28 ≤ x3 ∧ x3 < 39 → 28 ≤ x4 ∧ x4 < 39 → va_P D vwCl (cW q cI cO I F) H → va_S (cA q) s.heap H locs → lv_has ls 7 [(0, .ref (q 9)), (1, .ref (q 4)), (2, .int x2), (3, .ref (q x3)), (4, .ref (q x4)), (5, .int x5)] → gLN (fun ag v => w_X3_goForward_9_4_B46 x2 k (fun b0 b1 b2 b3 b4 => ag (b0, b1, b2, b3, b4)) v.1 v.2.1 v.2.2.1 v.2.2.2.1 v.2.2.2.2) n (x3, x4, x5, I, F) → (∀ (x3 : Nat) (x4 : Nat) (x5 : Int32) (I : Nat → Int32) (F : Nat → Nat → Int32) (H : Heap) (locs : List Loc) (ls : Array Slot), 28 ≤ x3 ∧ x3 < 39 → 28 ≤ x4 ∧ x4 < 39 → va_P D vwCl (cW q cI cO I F) H → va_S (cA q) s.heap H locs → lv_has ls 7 [(0, .ref (q 9)), (2, .int x2), (3, .ref (q x3))] → k x3 x4 x5 I F → W p l e R s m args below meth c H locs 0 0 Q (F0 m 117 ls [])) → W p l e R s m args below meth c H locs 0 0 Q (F0 m 46 ls []) := by
    intro n
    induction n with
    | zero =>
      intro x2 k x3 x4 x5 I F H locs ls hx3 hx4 hP hS hl h K
      exact False.elim h
    | succ n ih =>
      intro x2 k x3 x4 x5 I F H locs ls hx3 hx4 hP hS hl h K
      have h : w_X3_goForward_9_4_B46 x2 k (fun b0 b1 b2 b3 b4 => gLN (fun ag v => w_X3_goForward_9_4_B46 x2 k (fun b0 b1 b2 b3 b4 => ag (b0, b1, b2, b3, b4)) v.1 v.2.1 v.2.2.1 v.2.2.2.1 v.2.2.2.2) n (b0, b1, b2, b3, b4)) x3 x4 x5 I F := h
      refine lv_iload hx hb dX3_goForward_46 (lv_at hl 5 rfl) ?_
      refine lv_aload_n hx hb dX3_goForward_48 rfl (lv_at hl 1 rfl) ?_
      refine va_getN (D := D) (ci := 2) (v := .int (I 8)) (C := RX2) (T := TX2) (N := 4) hx hb hts (fun _ h9 => List.mem_cons_of_mem _ (List.mem_append_left _ (List.mem_append_left _ (List.mem_append_right _ h9)))) hown hK hP 4 cAt4 rfl 1 (by decide) (va_Nw.use rfl (hE.1.1 _ (List.mem_of_getElem? (l := cNF) (i := 5) rfl))) (fun _ h9 => h9) rfl dX3_goForward_49 ?_
      refine lv_icmp_ge (tgt := 117) hx hb dX3_goForward_52 (by decide) (fun c1 => ?_) (fun c1 => ?_)
      · have h := h.1 c1
        exact K x3 x4 x5 I F _ _ _ hx3 hx4 hP hS (lv_sub hl [0, 2, 3] rfl) h
      · have h := h.2 c1
        refine lv_aload_n hx hb dX3_goForward_55 rfl (lv_at hl 0 rfl) ?_
        refine lv_aload_n hx hb dX3_goForward_56 rfl (lv_at hl 1 rfl) ?_
        refine lv_iload hx hb dX3_goForward_57 (lv_at hl 5 rfl) ?_
        refine lv_iload_n hx hb dX3_goForward_59 rfl (lv_at hl 2 rfl) ?_
        refine gCallV (D := D) (va_runV (As := [.ref (q 4), .int x5, .int x2]) (rest := []) ⟨hx, hb, hml, hown, hts⟩ (c_X3_setGapAheadOf_9_4 l D q cI cO hq x5 x2  I F _ h) (cwV 3 hts gX3_goForward_X3_setGapAheadOf rfl rfl rfl (by decide +kernel) ⟨Nat.le_trans (Nat.le_of_ble_eq_true rfl) hRf, Nat.le_trans (Nat.le_of_ble_eq_true rfl) hRl⟩) (gPreV (ci := 3) (q0 := 9) cEok hE hK hP hS rfl cAt9) rfl rfl hl.1 rfl (lv_room (Nat.le_of_ble_eq_true rfl)) dX3_goForward_60 ⟨Nat.zero_le _, Nat.zero_le _⟩) hS (fun u H locs hP hS h => ?_)
        obtain ⟨I2, F3⟩ := u
        have hP : va_P D vwCl (cW q cI cO I2 F3) H := hP
        refine lv_aload_n hx hb dX3_goForward_63 rfl (lv_at hl 0 rfl) ?_
        refine lv_aload_n hx hb dX3_goForward_64 rfl (lv_at hl 3 rfl) ?_
        refine lv_aload hx hb dX3_goForward_65 (lv_at hl 4 rfl) ?_
        refine lv_aload_n hx hb dX3_goForward_67 rfl (lv_at hl 1 rfl) ?_
        refine va_getN (D := D) (ci := 2) (v := .ref (q 17)) (C := RX2) (T := TX2) (N := 4) hx hb hts (fun _ h9 => List.mem_cons_of_mem _ (List.mem_append_left _ (List.mem_append_left _ (List.mem_append_right _ h9)))) hown hK hP 4 cAt4 rfl 2 (by decide) (va_Nw.use rfl (hE.1.1 _ (List.mem_of_getElem? (l := cNF) (i := 9) rfl))) (fun _ h9 => h9) rfl dX3_goForward_68 ?_
        refine lv_iload hx hb dX3_goForward_71 (lv_at hl 5 rfl) ?_
        refine va_iald (D := D) hx hb hK hP 17 0 cAr17 rfl h.1 dX3_goForward_73 ?_
        have h := h.2
        refine lv_aload_n hx hb dX3_goForward_74 rfl (lv_at hl 1 rfl) ?_
        refine va_getN (D := D) (ci := 2) (v := .ref (q 18)) (C := RX2) (T := TX2) (N := 4) hx hb hts (fun _ h9 => List.mem_cons_of_mem _ (List.mem_append_left _ (List.mem_append_left _ (List.mem_append_right _ h9)))) hown hK hP 4 cAt4 rfl 3 (by decide) (va_Nw.use rfl (hE.1.1 _ (List.mem_of_getElem? (l := cNF) (i := 11) rfl))) (fun _ h9 => h9) rfl dX3_goForward_75 ?_
        refine lv_iload hx hb dX3_goForward_78 (lv_at hl 5 rfl) ?_
        refine va_iald (D := D) hx hb hK hP 18 0 cAr18 rfl h.1 dX3_goForward_80 ?_
        have h := h.2
        refine lv_iload_n hx hb dX3_goForward_81 rfl (lv_at hl 2 rfl) ?_
        refine gCallI (D := D) (va_runSN (As := [.int (F3 18 (x5).toNatClampNeg), .int x2]) (rest := [.int (F3 17 (x5).toNatClampNeg), .ref (q x4), .ref (q x3), .ref (q 9)]) ⟨hx, hb, hml, hown, hts⟩ (c_X8_raised l D q cI cO hq (F3 18 (x5).toNatClampNeg) x2  I2 F3 _ h) ⟨va_cnB 2 hts gX3_goForward_X8_raised_n102 rfl rfl rfl (hE.1.2 _ (List.mem_of_getElem? (l := cNM) (i := 9) rfl)) (hts _ (List.mem_of_getElem? (l := wsX3_goForward) (i := 22) rfl)) (by decide +kernel) ⟨Nat.le_trans (Nat.le_of_ble_eq_true rfl) hRf, Nat.le_trans (Nat.le_of_ble_eq_true rfl) hRl⟩, (hts _ (List.mem_of_getElem? (l := wsX3_goForward) (i := 24) rfl)), trivial⟩ (gPreS cEok hE hK hP hS) rfl rfl hl.1 rfl (lv_room (Nat.le_of_ble_eq_true rfl)) dX3_goForward_82 ⟨Nat.zero_le _, Nat.zero_le _⟩) hS (fun r4 _ H locs hP hS h => ?_)
        have hP : va_P D vwCl (cW q cI cO I2 F3) H := hP
        refine lv_iconst (v := (1 : Int32)) hx hb dX3_goForward_85 (by decide) ?_
        refine gCallV (D := D) (va_runV (As := [.ref (q x3), .ref (q x4), .int (F3 17 (x5).toNatClampNeg), .int r4, .int (1 : Int32)]) (rest := []) ⟨hx, hb, hml, hown, hts⟩ (c_X3_cross_9_r_r l D q cI cO hq x3 x4 (F3 17 (x5).toNatClampNeg) r4 (1 : Int32) hx3 hx4 I2 F3 _ h) (cwV 5 hts gX3_goForward_X3_cross rfl rfl rfl (by decide +kernel) ⟨Nat.le_trans (Nat.le_of_ble_eq_true rfl) hRf, Nat.le_trans (Nat.le_of_ble_eq_true rfl) hRl⟩) (gPreV (ci := 3) (q0 := 9) cEok hE hK hP hS rfl cAt9) rfl rfl hl.1 rfl (lv_room (Nat.le_of_ble_eq_true rfl)) dX3_goForward_86 ⟨Nat.zero_le _, Nat.zero_le _⟩) hS (fun u H locs hP hS h => ?_)
        obtain ⟨I5, F6⟩ := u
        have hP : va_P D vwCl (cW q cI cO I5 F6) H := hP
        refine lv_aload_n hx hb dX3_goForward_89 rfl (lv_at hl 0 rfl) ?_
        refine va_get (D := D) (ci := 3) (v := .ref (q 26)) (C := RX3) (T := TX3) (N := 12) hx hb hts (fun _ h9 => List.mem_cons_of_mem _ (List.mem_append_left _ (List.mem_append_left _ (List.mem_append_left _ (List.mem_append_right _ h9))))) hown hK hP 9 cAt9 rfl 6 (by decide) (hts _ (List.mem_of_getElem? (l := wsX3_goForward) (i := 5) rfl)) (fun _ h9 => h9) rfl dX3_goForward_90 ?_
        refine lv_iload hx hb dX3_goForward_93 (lv_at hl 5 rfl) ?_
        refine lv_aload hx hb dX3_goForward_95 (lv_at hl 4 rfl) ?_
        refine gCallI (D := D) (va_runS (As := [.ref (q x4)]) (rest := [.int x5, .ref (q 26)]) ⟨hx, hb, hml, hown, hts⟩ (c_X3_howManyScored_r l D q cI cO hq x4 hx4 I5 F6 _ h) (va_cwS 1 hts gX3_goForward_X3_howManyScored rfl rfl rfl (by decide +kernel) ⟨Nat.le_trans (Nat.le_of_ble_eq_true rfl) hRf, Nat.le_trans (Nat.le_of_ble_eq_true rfl) hRl⟩) (gPreS cEok hE hK hP hS) rfl rfl hl.1 rfl (lv_room (Nat.le_of_ble_eq_true rfl)) dX3_goForward_97 ⟨Nat.zero_le _, Nat.zero_le _⟩) hS (fun r7 _ H locs hP hS h => ?_)
        have hP : va_P D vwCl (cW q cI cO I5 F6) H := hP
        refine gAst (D := D) hx hb hK hP (cD hq) hS 26 0 cAr26 rfl h.1 dX3_goForward_100 (cSA26 _) (fun H locs hP hS => ?_)
        obtain ⟨F8, eF8⟩ : ∃ z : Nat → Nat → Int32, z = upF F6 26 (upd (F6 26) (x5).toNatClampNeg r7) := ⟨_, rfl⟩
        rw [← eF8] at hP
        have h := h.2 F8 eF8
        refine lv_aload_n hx hb dX3_goForward_101 rfl (lv_at hl 3 rfl) ?_
        refine lv_astore (lv' := [(6, .ref (q x3)), (0, .ref (q 9)), (1, .ref (q 4)), (2, .int x2), (3, .ref (q x3)), (4, .ref (q x4)), (5, .int x5)]) hx hb dX3_goForward_102 hl (by decide) rfl (fun ls hl => ?_)
        refine lv_aload hx hb dX3_goForward_104 (lv_at hl 5 rfl) ?_
        refine lv_astore_n (lv' := [(3, .ref (q x4)), (6, .ref (q x3)), (0, .ref (q 9)), (1, .ref (q 4)), (2, .int x2), (4, .ref (q x4)), (5, .int x5)]) hx hb dX3_goForward_106 rfl hl (by decide) rfl (fun ls hl => ?_)
        refine lv_aload hx hb dX3_goForward_107 (lv_at hl 1 rfl) ?_
        refine lv_astore (lv' := [(4, .ref (q x3)), (3, .ref (q x4)), (6, .ref (q x3)), (0, .ref (q 9)), (1, .ref (q 4)), (2, .int x2), (5, .int x5)]) hx hb dX3_goForward_109 hl (by decide) rfl (fun ls hl => ?_)
        refine lv_iinc (v := (x5 + (1 : Int32))) (lv' := [(5, .int (x5 + (1 : Int32))), (4, .ref (q x3)), (3, .ref (q x4)), (6, .ref (q x3)), (0, .ref (q 9)), (1, .ref (q 4)), (2, .int x2)]) hx hb dX3_goForward_111 hl (k := 6) rfl rfl (by decide) rfl (fun ls hl => ?_)
        refine lv_goto (tgt := 46) hx hb dX3_goForward_114 (by decide) ?_
        exact ih x2 _ x4 x3 (x5 + (1 : Int32)) I5 F8 _ _ _ hx4 hx3 hP hS (lv_sub hl [4, 5, 6, 2, 1, 0] rfl) h K
  have J43 : ∀ (x2 : Int32) (I : Nat → Int32) (F : Nat → Nat → Int32) (H : Heap) (locs : List Loc) (ls : Array Slot), va_P D vwCl (cW q cI cO I F) H → va_S (cA q) s.heap H locs → lv_has ls 7 [(0, .ref (q 9)), (1, .ref (q 4)), (2, .int x2), (3, .ref (q 28)), (4, .ref (q 29))] → w_X3_goForward_9_4_J43 x2 I F post → W p l e R s m args below meth c H locs 0 0 Q (F0 m 43 ls []) := by
    intro x2 I F H locs ls  hP hS hl h
    refine lv_iconst (v := (0 : Int32)) hx hb dX3_goForward_43 (by decide) ?_
    refine lv_istore (lv' := [(5, .int (0 : Int32)), (0, .ref (q 9)), (1, .ref (q 4)), (2, .int x2), (3, .ref (q 28)), (4, .ref (q 29))]) hx hb dX3_goForward_44 hl (by decide) rfl (fun ls hl => ?_)
    obtain ⟨n, h⟩ := h
    refine L46 n x2 _ 28 29 (0 : Int32) I F _ _ _ (by decide) (by decide) hP hS (lv_sub hl [1, 2, 3, 4, 5, 0] rfl) h (fun y9 y10 y11 I12 F13 H locs ls hy9 hy10 hP hS hl h => ?_)
    refine lv_aload_n hx hb dX3_goForward_117 rfl (lv_at hl 0 rfl) ?_
    refine lv_aload_n hx hb dX3_goForward_118 rfl (lv_at hl 2 rfl) ?_
    refine gCallI (D := D) (va_runS (As := [.ref (q y9)]) (rest := [.ref (q 9)]) ⟨hx, hb, hml, hown, hts⟩ (c_X3_bestScore_r l D q cI cO hq y9 hy9 I12 F13 _ h) (va_cwS 1 hts gX3_goForward_X3_bestScore rfl rfl rfl (by decide +kernel) ⟨Nat.le_trans (Nat.le_of_ble_eq_true rfl) hRf, Nat.le_trans (Nat.le_of_ble_eq_true rfl) hRl⟩) (gPreS cEok hE hK hP hS) rfl rfl hl.1 rfl (lv_room (Nat.le_of_ble_eq_true rfl)) dX3_goForward_119 ⟨Nat.zero_le _, Nat.zero_le _⟩) hS (fun r14 _ H locs hP hS h => ?_)
    have hP : va_P D vwCl (cW q cI cO I12 F13) H := hP
    refine gPut (D := D) (ci := 3) (ty := .int) (C := RX3) (T := TX3) (N := 12) hx hb hts (fun _ h9 => List.mem_cons_of_mem _ (List.mem_append_left _ (List.mem_append_left _ (List.mem_append_left _ (List.mem_append_right _ h9))))) tyX3 tyX3_ok nmX3 hown hK hP (cD hq) hS 9 cAt9 rfl 9 (by decide) (hts _ (List.mem_of_getElem? (l := wsX3_goForward) (i := 6) rfl)) (fun _ h9 => h9) rfl (by decide +kernel) rfl rfl (Nat.le_of_ble_eq_true rfl) dX3_goForward_122 (cSet14 r14) (fun H locs hP hS => ?_)
    obtain ⟨I15, eI15⟩ : ∃ z : Nat → Int32, z = upd I12 14 r14 := ⟨_, rfl⟩
    rw [← eI15] at hP
    have h := h I15 eI15
    refine lv_aload_n hx hb dX3_goForward_125 rfl (lv_at hl 0 rfl) ?_
    refine lv_iload_n hx hb dX3_goForward_126 rfl (lv_at hl 1 rfl) ?_
    refine gPut (D := D) (ci := 3) (ty := .int) (C := RX3) (T := TX3) (N := 12) hx hb hts (fun _ h9 => List.mem_cons_of_mem _ (List.mem_append_left _ (List.mem_append_left _ (List.mem_append_left _ (List.mem_append_right _ h9))))) tyX3 tyX3_ok nmX3 hown hK hP (cD hq) hS 9 cAt9 rfl 10 (by decide) (hts _ (List.mem_of_getElem? (l := wsX3_goForward) (i := 1) rfl)) (fun _ h9 => h9) rfl (by decide +kernel) rfl rfl (Nat.le_of_ble_eq_true rfl) dX3_goForward_127 (cSet15 x2) (fun H locs hP hS => ?_)
    obtain ⟨I16, eI16⟩ : ∃ z : Nat → Int32, z = upd I15 15 x2 := ⟨_, rfl⟩
    rw [← eI16] at hP
    have h := h I16 eI16
    exact hret (I16, F13) _ _ _ _ dX3_goForward_130 hP hS h
  refine lv_aload_n hx hb dX3_goForward_0 rfl (lv_at hl 0 rfl) ?_
  refine va_get (D := D) (ci := 3) (v := .int (I 15)) (C := RX3) (T := TX3) (N := 12) hx hb hts (fun _ h9 => List.mem_cons_of_mem _ (List.mem_append_left _ (List.mem_append_left _ (List.mem_append_left _ (List.mem_append_right _ h9))))) hown hK hP 9 cAt9 rfl 10 (by decide) (hts _ (List.mem_of_getElem? (l := wsX3_goForward) (i := 1) rfl)) (fun _ h9 => h9) rfl dX3_goForward_1 ?_
  refine lv_iload_n hx hb dX3_goForward_4 rfl (lv_at hl 2 rfl) ?_
  refine lv_icmp_ne (tgt := 9) hx hb dX3_goForward_5 (by decide) (fun c17 => ?_) (fun c17 => ?_)
  · have h := h.1 c17
    refine lv_aload_n hx hb dX3_goForward_9 rfl (lv_at hl 0 rfl) ?_
    refine va_get (D := D) (ci := 3) (v := .ref (q 28)) (C := RX3) (T := TX3) (N := 12) hx hb hts (fun _ h9 => List.mem_cons_of_mem _ (List.mem_append_left _ (List.mem_append_left _ (List.mem_append_left _ (List.mem_append_right _ h9))))) hown hK hP 9 cAt9 rfl 2 (by decide) (hts _ (List.mem_of_getElem? (l := wsX3_goForward) (i := 2) rfl)) (fun _ h9 => h9) rfl dX3_goForward_10 ?_
    refine lv_astore_n (lv' := [(3, .ref (q 28)), (0, .ref (q 9)), (1, .ref (q 4)), (2, .int a2)]) hx hb dX3_goForward_13 rfl hl (by decide) rfl (fun ls hl => ?_)
    refine lv_aload_n hx hb dX3_goForward_14 rfl (lv_at hl 1 rfl) ?_
    refine va_get (D := D) (ci := 3) (v := .ref (q 29)) (C := RX3) (T := TX3) (N := 12) hx hb hts (fun _ h9 => List.mem_cons_of_mem _ (List.mem_append_left _ (List.mem_append_left _ (List.mem_append_left _ (List.mem_append_right _ h9))))) hown hK hP 9 cAt9 rfl 3 (by decide) (hts _ (List.mem_of_getElem? (l := wsX3_goForward) (i := 3) rfl)) (fun _ h9 => h9) rfl dX3_goForward_15 ?_
    refine lv_astore (lv' := [(4, .ref (q 29)), (3, .ref (q 28)), (0, .ref (q 9)), (1, .ref (q 4)), (2, .int a2)]) hx hb dX3_goForward_18 hl (by decide) rfl (fun ls hl => ?_)
    refine lv_aload_n hx hb dX3_goForward_20 rfl (lv_at hl 1 rfl) ?_
    refine lv_ldc (v := (1073741824 : Int32)) hx hb hown (hts _ (List.mem_of_getElem? (l := wsX3_goForward) (i := 4) rfl)) dX3_goForward_21 ?_
    refine gCallV (D := D) (va_runS (As := [.ref (q 28), .int (1073741824 : Int32)]) (rest := []) ⟨hx, hb, hml, hown, hts⟩ (c_J7_fill_53178_r l D q cI cO hq 28 (1073741824 : Int32) (by decide) I F _ h) (va_cwS 2 hts gX3_goForward_J7_fill_53178 rfl rfl rfl (by decide +kernel) ⟨Nat.le_trans (Nat.le_of_ble_eq_true rfl) hRf, Nat.le_trans (Nat.le_of_ble_eq_true rfl) hRl⟩) (gPreS cEok hE hK hP hS) rfl rfl hl.1 rfl (lv_room (Nat.le_of_ble_eq_true rfl)) dX3_goForward_23 ⟨Nat.zero_le _, Nat.zero_le _⟩) hS (fun u H locs hP hS h => ?_)
    obtain ⟨I18, F19⟩ := u
    have hP : va_P D vwCl (cW q cI cO I18 F19) H := hP
    refine lv_aload_n hx hb dX3_goForward_26 rfl (lv_at hl 3 rfl) ?_
    refine va_getN (D := D) (ci := 2) (v := .int (I18 7)) (C := RX2) (T := TX2) (N := 4) hx hb hts (fun _ h9 => List.mem_cons_of_mem _ (List.mem_append_left _ (List.mem_append_left _ (List.mem_append_right _ h9)))) hown hK hP 4 cAt4 rfl 0 (by decide) (va_Nw.use rfl (hE.1.1 _ (List.mem_of_getElem? (l := cNF) (i := 3) rfl))) (fun _ h9 => h9) rfl dX3_goForward_27 ?_
    refine gCallI (D := D) (va_runS (As := [.int (I18 7)]) (rest := []) ⟨hx, hb, hml, hown, hts⟩ (c_X7_isSetting l D q cI cO hq (I18 7)  I18 F19 _ h) (va_cwS 1 hts gX3_goForward_X7_isSetting rfl rfl rfl (by decide +kernel) ⟨Nat.le_trans (Nat.le_of_ble_eq_true rfl) hRf, Nat.le_trans (Nat.le_of_ble_eq_true rfl) hRl⟩) (gPreS cEok hE hK hP hS) rfl rfl hl.1 rfl (lv_room (Nat.le_of_ble_eq_true rfl)) dX3_goForward_30 ⟨Nat.zero_le _, Nat.zero_le _⟩) hS (fun r20 _ H locs hP hS h => ?_)
    have hP : va_P D vwCl (cW q cI cO I18 F19) H := hP
    refine lv_if_eq (tgt := 43) hx hb dX3_goForward_33 (by decide) (fun c21 => ?_) (fun c21 => ?_)
    · have h := h.1 c21
      exact J43 a2 I18 F19 _ _ _  hP hS (lv_sub hl [2, 3, 4, 1, 0] rfl) h
    · have h := h.2 c21
      refine lv_aload_n hx hb dX3_goForward_36 rfl (lv_at hl 1 rfl) ?_
      refine lv_aload_n hx hb dX3_goForward_37 rfl (lv_at hl 3 rfl) ?_
      refine va_getN (D := D) (ci := 2) (v := .int (I18 7)) (C := RX2) (T := TX2) (N := 4) hx hb hts (fun _ h9 => List.mem_cons_of_mem _ (List.mem_append_left _ (List.mem_append_left _ (List.mem_append_right _ h9)))) hown hK hP 4 cAt4 rfl 0 (by decide) (va_Nw.use rfl (hE.1.1 _ (List.mem_of_getElem? (l := cNF) (i := 3) rfl))) (fun _ h9 => h9) rfl dX3_goForward_38 ?_
      refine lv_iconst (v := (1 : Int32)) hx hb dX3_goForward_41 (by decide) ?_
      refine gAst (D := D) hx hb hK hP (cD hq) hS 28 0 cAr28 rfl h.1 dX3_goForward_42 (cSA28 _) (fun H locs hP hS => ?_)
      obtain ⟨F22, eF22⟩ : ∃ z : Nat → Nat → Int32, z = upF F19 28 (upd (F19 28) ((I18 7)).toNatClampNeg (1 : Int32)) := ⟨_, rfl⟩
      rw [← eF22] at hP
      have h := h.2 F22 eF22
      exact J43 a2 I18 F22 _ _ _  hP hS (lv_sub hl [2, 3, 4, 1, 0] rfl) h
  · have h := h.2 c17
    exact hret (I, F) _ _ _ _ dX3_goForward_8 hP hS h
def w_X3_fewest_9_4 (a2 : Int32) (I : Nat → Int32) (F : Nat → Nat → Int32) (post : Int32 → (Nat → Int32) → (Nat → Nat → Int32) → Prop) : Prop :=
  w_X3_goForward_9_4 a2 I F (fun (I1 : Nat → Int32) (F2 : Nat → Nat → Int32) => ((¬ (I1 14) = (1073741824 : Int32) → post ((I1 14) >>> ((20 : Int32) &&& 31)) I1 F2) ∧ ((I1 14) = (1073741824 : Int32) → post (-1 : Int32) I1 F2)))
set_option maxHeartbeats 4000000 in
set_option maxRecDepth 100000 in
theorem c_X3_fewest_9_4 (l : Launch) (D : va_G) (q : Nat → Nat) (cI cO : ClassId) (hq : cOk q) (a2 : Int32)  (I : Nat → Int32) (F : Nat → Nat → Int32) (post : Int32 → (Nat → Int32) → (Nat → Nat → Int32) → Prop) (h : w_X3_fewest_9_4 a2 I F post) : Met l yX3_fewest wsX3_fewest ({ frames := 4, cells := 0, slots := 0, locals := 107 } : Room) (gPre D (cTys cI cO) (cW q cI cO I F) (cEnv q) [.ref (q 9), .ref (q 4), .int a2]) (va_Qi (fun r (u : cS) => post r u.1 u.2) (gB D (fun u : cS => cW q cI cO u.1 u.2)) (cA q)) 0 0 (cA q) := by
  refine gMetI (by decide) rfl (Nat.le_of_ble_eq_true rfl) ?_
  intro p e R s m args below meth c Q ls hR hx hb hml hown hts hK hE hP hl hret
  have hRf : 4 ≤ R.frames := by subst hR; exact Nat.le_refl _
  have hRl : 107 ≤ R.locals := by subst hR; exact Nat.le_refl _
  have hown : s.vm.findClass RX3 = some m.cls := hown
  have hl : lv_has ls 3 [(0, .ref (q 9)), (1, .ref (q 4)), (2, .int a2)] := hl
  have hS : va_S (cA q) s.heap s.heap [] := va_S.rf
  have hP : va_P D vwCl (cW q cI cO I F) s.heap := hP
  refine lv_aload_n hx hb dX3_fewest_0 rfl (lv_at hl 0 rfl) ?_
  refine lv_aload_n hx hb dX3_fewest_1 rfl (lv_at hl 1 rfl) ?_
  refine lv_iload_n hx hb dX3_fewest_2 rfl (lv_at hl 2 rfl) ?_
  refine gCallV (D := D) (va_runV (As := [.ref (q 4), .int a2]) (rest := []) ⟨hx, hb, hml, hown, hts⟩ (c_X3_goForward_9_4 l D q cI cO hq a2  I F _ h) (cwV 2 hts gX3_fewest_X3_goForward rfl rfl rfl (by decide +kernel) ⟨Nat.le_trans (Nat.le_of_ble_eq_true rfl) hRf, Nat.le_trans (Nat.le_of_ble_eq_true rfl) hRl⟩) (gPreV (ci := 3) (q0 := 9) cEok hE hK hP hS rfl cAt9) rfl rfl hl.1 rfl (lv_room (Nat.le_of_ble_eq_true rfl)) dX3_fewest_3 ⟨Nat.zero_le _, Nat.zero_le _⟩) hS (fun u H locs hP hS h => ?_)
  obtain ⟨I1, F2⟩ := u
  have hP : va_P D vwCl (cW q cI cO I1 F2) H := hP
  refine lv_aload_n hx hb dX3_fewest_6 rfl (lv_at hl 0 rfl) ?_
  refine va_get (D := D) (ci := 3) (v := .int (I1 14)) (C := RX3) (T := TX3) (N := 12) hx hb hts (fun _ h9 => List.mem_cons_of_mem _ (List.mem_append_left _ (List.mem_append_left _ (List.mem_append_left _ (List.mem_append_right _ h9))))) hown hK hP 9 cAt9 rfl 9 (by decide) (hts _ (List.mem_of_getElem? (l := wsX3_fewest) (i := 1) rfl)) (fun _ h9 => h9) rfl dX3_fewest_7 ?_
  refine lv_ldc (v := (1073741824 : Int32)) hx hb hown (hts _ (List.mem_of_getElem? (l := wsX3_fewest) (i := 2) rfl)) dX3_fewest_10 ?_
  refine lv_icmp_ne (tgt := 19) hx hb dX3_fewest_12 (by decide) (fun c3 => ?_) (fun c3 => ?_)
  · have h := h.1 c3
    refine lv_aload_n hx hb dX3_fewest_19 rfl (lv_at hl 0 rfl) ?_
    refine va_get (D := D) (ci := 3) (v := .int (I1 14)) (C := RX3) (T := TX3) (N := 12) hx hb hts (fun _ h9 => List.mem_cons_of_mem _ (List.mem_append_left _ (List.mem_append_left _ (List.mem_append_left _ (List.mem_append_right _ h9))))) hown hK hP 9 cAt9 rfl 9 (by decide) (hts _ (List.mem_of_getElem? (l := wsX3_fewest) (i := 1) rfl)) (fun _ h9 => h9) rfl dX3_fewest_20 ?_
    refine lv_bipush (v := (20 : Int32)) hx hb dX3_fewest_23 (by decide) ?_
    refine lv_ishr hx hb dX3_fewest_25 ?_
    exact hret ((I1 14) >>> ((20 : Int32) &&& 31)) (I1, F2) _ _ _ _ dX3_fewest_26 hP hS h
  · have h := h.2 c3
    refine lv_iconst (v := (-1 : Int32)) hx hb dX3_fewest_15 (by decide) ?_
    refine lv_goto (tgt := 26) hx hb dX3_fewest_16 (by decide) ?_
    exact hret (-1 : Int32) (I1, F2) _ _ _ _ dX3_fewest_26 hP hS h
