def w_X9_drawn_B61 (x1 : Int32) (x3 : Int32) (k again : Int32 → Int32 → Int32 → Int32 → (Nat → Int32) → (Nat → Nat → Int32) → Int64 → Prop) (x4 : Int32) (x5 : Int32) (x6 : Int32) (x7 : Int32) (I : Nat → Int32) (F : Nat → Nat → Int32) (hs : Int64) : Prop :=
  ((x1 ≤ x7 → k x4 x5 x6 x7 I F hs) ∧ (¬ x1 ≤ x7 → w_X9_draw (12 : Int32) I F hs (fun (r2 : Int32) (I3 : Nat → Int32) (F4 : Nat → Nat → Int32) (hs5 : Int64) => w_X9_draw (11 : Int32) I3 F4 hs5 (fun (r6 : Int32) (I7 : Nat → Int32) (F8 : Nat → Nat → Int32) (hs9 : Int64) => ∀ v10 : Int32, v10 = (((r2 + (1 : Int32)) + r6) - ((r2 + (1 : Int32)) + r6) / (12 : Int32) * (12 : Int32)) → w_X9_played x4 (((1 : Int32) <<< (r2 &&& 31)) ||| ((1 : Int32) <<< (v10 &&& 31))) I7 F8 hs9 (fun (r11 : Int32) (I12 : Nat → Int32) (F13 : Nat → Nat → Int32) (hs14 : Int64) => ((¬ r11 = (-1 : Int32) → ∀ v16 : Int32, v16 = (x5 + (1 : Int32)) → ((¬ r11 = (-1 : Int32) → ∀ v18 : Int32, v18 = (x6 + (I12 13)) → ((¬ r11 = (-1 : Int32) → again r11 v16 v18 (x7 + (1 : Int32)) I12 F13 hs14) ∧ (r11 = (-1 : Int32) → again x4 v16 v18 (x7 + (1 : Int32)) I12 F13 hs14))) ∧ (r11 = (-1 : Int32) → ∀ v20 : Int32, v20 = (x6 + (0 : Int32)) → ((¬ r11 = (-1 : Int32) → again r11 v16 v20 (x7 + (1 : Int32)) I12 F13 hs14) ∧ (r11 = (-1 : Int32) → again x4 v16 v20 (x7 + (1 : Int32)) I12 F13 hs14))))) ∧ (r11 = (-1 : Int32) → ∀ v22 : Int32, v22 = (x5 + (0 : Int32)) → ((¬ r11 = (-1 : Int32) → ∀ v24 : Int32, v24 = (x6 + (I12 13)) → ((¬ r11 = (-1 : Int32) → again r11 v22 v24 (x7 + (1 : Int32)) I12 F13 hs14) ∧ (r11 = (-1 : Int32) → again x4 v22 v24 (x7 + (1 : Int32)) I12 F13 hs14))) ∧ (r11 = (-1 : Int32) → ∀ v26 : Int32, v26 = (x6 + (0 : Int32)) → ((¬ r11 = (-1 : Int32) → again r11 v22 v26 (x7 + (1 : Int32)) I12 F13 hs14) ∧ (r11 = (-1 : Int32) → again x4 v22 v26 (x7 + (1 : Int32)) I12 F13 hs14)))))))))))
def w_X9_drawn (a1 : Int32) (a2 : Int32) (a3 : Int32) (I : Nat → Int32) (F : Nat → Nat → Int32) (hs : Int64) (post : Int32 → (Nat → Int32) → (Nat → Nat → Int32) → Int64 → Prop) : Prop :=
  w_X9_in ((a1).toInt64) (1 : Int64) (30 : Int64) I F hs (fun (r28 : Int32) => ((r28 = 0 → post (-102 : Int32) I F hs) ∧ (¬ r28 = 0 → ((a2 < 0 → post (-102 : Int32) I F hs) ∧ (¬ a2 < 0 → w_X9_in ((a3).toInt64) (0 : Int64) (2 : Int64) I F hs (fun (r31 : Int32) => ((¬ r31 = 0 → w_X9_lacks I F hs (fun (r33 : Int32) => ((r33 = 0 → ∀ I35 : Nat → Int32, I35 = upd I 12 a2 → ∀ v36 : Int32, v36 = (I35 4) → gL (fun ag v => w_X9_drawn_B61 a1 a3 (fun (y37 : Int32) (y38 : Int32) (y39 : Int32) (y40 : Int32) (I41 : Nat → Int32) (F42 : Nat → Nat → Int32) (hs43 : Int64) => ((¬ a3 = 0 → ((¬ a3 = (1 : Int32) → post (I41 12) I41 F42 hs43) ∧ (a3 = (1 : Int32) → post y39 I41 F42 hs43))) ∧ (a3 = 0 → post y38 I41 F42 hs43))) (fun b0 b1 b2 b3 b4 b5 b6 => ag (b0, b1, b2, b3, b4, b5, b6)) v.1 v.2.1 v.2.2.1 v.2.2.2.1 v.2.2.2.2.1 v.2.2.2.2.2.1 v.2.2.2.2.2.2) (v36, (0 : Int32), (0 : Int32), (0 : Int32), I35, F, hs)) ∧ (¬ r33 = 0 → post (-103 : Int32) I F hs)))) ∧ (r31 = 0 → post (-102 : Int32) I F hs))))))))
set_option maxHeartbeats 4000000 in
set_option maxRecDepth 100000 in
theorem c_X9_drawn (l : Launch) (D : va_G) (q : Nat → Nat) (cI cO : ClassId) (hq : mOk q) (a1 : Int32) (a2 : Int32) (a3 : Int32)  (I : Nat → Int32) (F : Nat → Nat → Int32) (hs : Int64) (post : Int32 → (Nat → Int32) → (Nat → Nat → Int32) → Int64 → Prop) (h : w_X9_drawn a1 a2 a3 I F hs post) : Met l yX9_drawn wsX9_drawn ({ frames := 3, cells := 0, slots := 0, locals := 75 } : Room) (gPre D (mTys cI) (mW q cI cO I F hs) mEnv [.ref (q 0), .int a1, .int a2, .int a3]) (va_Qi (fun r (u : mS) => post r u.1 u.2.1 u.2.2) (gB D (fun u : mS => mW q cI cO u.1 u.2.1 u.2.2)) (mA q)) 0 0 (mA q) := by
  refine gMetI (by decide) rfl (Nat.le_of_ble_eq_true rfl) ?_
  intro p e R s m args below meth c Q ls hR hx hb hml hown hts hK hE hP hl hret
  have hRf : 3 ≤ R.frames := by subst hR; exact Nat.le_refl _
  have hRl : 75 ≤ R.locals := by subst hR; exact Nat.le_refl _
  have hown : s.vm.findClass RX9 = some m.cls := hown
  have hl : lv_has ls 11 [(0, .ref (q 0)), (1, .int a1), (2, .int a2), (3, .int a3)] := hl
  have hS : va_S (mA q) s.heap s.heap [] := va_S.rf
  have hP : va_P D vwCl (mW q cI cO I F hs) s.heap := hP
  have L61 : ∀ (n : Nat) (x1 : Int32) (x3 : Int32) (k : Int32 → Int32 → Int32 → Int32 → (Nat → Int32) → (Nat → Nat → Int32) → Int64 → Prop) (x4 : Int32) (x5 : Int32) (x6 : Int32) (x7 : Int32) (I : Nat → Int32) (F : Nat → Nat → Int32) (hs : Int64) (H : Heap) (locs : List Loc) (ls : Array Slot), va_P D vwCl (mW q cI cO I F hs) H → va_S (mA q) s.heap H locs → lv_has ls 11 [(0, .ref (q 0)), (1, .int x1), (3, .int x3), (4, .int x4), (5, .int x5), (6, .int x6), (7, .int x7)] → gLN (fun ag v => w_X9_drawn_B61 x1 x3 k (fun b0 b1 b2 b3 b4 b5 b6 => ag (b0, b1, b2, b3, b4, b5, b6)) v.1 v.2.1 v.2.2.1 v.2.2.2.1 v.2.2.2.2.1 v.2.2.2.2.2.1 v.2.2.2.2.2.2) n (x4, x5, x6, x7, I, F, hs) → (∀ (x4 : Int32) (x5 : Int32) (x6 : Int32) (x7 : Int32) (I : Nat → Int32) (F : Nat → Nat → Int32) (hs : Int64) (H : Heap) (locs : List Loc) (ls : Array Slot), va_P D vwCl (mW q cI cO I F hs) H → va_S (mA q) s.heap H locs → lv_has ls 11 [(0, .ref (q 0)), (3, .int x3), (5, .int x5), (6, .int x6)] → k x4 x5 x6 x7 I F hs → W p l e R s m args below meth c H locs 0 0 Q (F0 m 164 ls [])) → W p l e R s m args below meth c H locs 0 0 Q (F0 m 61 ls []) := by
    intro n
    induction n with
    | zero =>
      intro x1 x3 k x4 x5 x6 x7 I F hs H locs ls  hP hS hl h K
      exact False.elim h
    | succ n ih =>
      intro x1 x3 k x4 x5 x6 x7 I F hs H locs ls  hP hS hl h K
      have h : w_X9_drawn_B61 x1 x3 k (fun b0 b1 b2 b3 b4 b5 b6 => gLN (fun ag v => w_X9_drawn_B61 x1 x3 k (fun b0 b1 b2 b3 b4 b5 b6 => ag (b0, b1, b2, b3, b4, b5, b6)) v.1 v.2.1 v.2.2.1 v.2.2.2.1 v.2.2.2.2.1 v.2.2.2.2.2.1 v.2.2.2.2.2.2) n (b0, b1, b2, b3, b4, b5, b6)) x4 x5 x6 x7 I F hs := h
      refine lv_iload hx hb dX9_drawn_61 (lv_at hl 6 rfl) ?_
      refine lv_iload_n hx hb dX9_drawn_63 rfl (lv_at hl 1 rfl) ?_
      refine lv_icmp_ge (tgt := 164) hx hb dX9_drawn_64 (by decide) (fun c1 => ?_) (fun c1 => ?_)
      · have h := h.1 c1
        exact K x4 x5 x6 x7 I F hs _ _ _  hP hS (lv_sub hl [0, 2, 4, 5] rfl) h
      · have h := h.2 c1
        refine lv_aload_n hx hb dX9_drawn_67 rfl (lv_at hl 0 rfl) ?_
        refine lv_bipush (v := (12 : Int32)) hx hb dX9_drawn_68 (by decide) ?_
        refine gCallI (D := D) (va_runV (As := [.int (12 : Int32)]) (rest := []) ⟨hx, hb, hml, hown, hts⟩ (c_X9_draw l D q cI cO hq (12 : Int32)  I F hs _ h) (cwV 1 hts gX9_drawn_X9_draw rfl rfl rfl (by decide +kernel) ⟨Nat.le_trans (Nat.le_of_ble_eq_true rfl) hRf, Nat.le_trans (Nat.le_of_ble_eq_true rfl) hRl⟩) (gPreV (ci := 9) (q0 := 0) mEok hE hK hP hS rfl mAt0) rfl rfl hl.1 rfl (lv_room (Nat.le_of_ble_eq_true rfl)) dX9_drawn_70 ⟨Nat.zero_le _, Nat.zero_le _⟩) hS (fun r2 u H locs hP hS h => ?_)
        obtain ⟨I3, F4, hs5⟩ := u
        have hP : va_P D vwCl (mW q cI cO I3 F4 hs5) H := hP
        refine lv_istore (lv' := [(8, .int r2), (0, .ref (q 0)), (1, .int x1), (3, .int x3), (4, .int x4), (5, .int x5), (6, .int x6), (7, .int x7)]) hx hb dX9_drawn_73 hl (by decide) rfl (fun ls hl => ?_)
        refine lv_iload hx hb dX9_drawn_75 (lv_at hl 0 rfl) ?_
        refine lv_iconst (v := (1 : Int32)) hx hb dX9_drawn_77 (by decide) ?_
        refine lv_iadd hx hb dX9_drawn_78 ?_
        refine lv_aload_n hx hb dX9_drawn_79 rfl (lv_at hl 1 rfl) ?_
        refine lv_bipush (v := (11 : Int32)) hx hb dX9_drawn_80 (by decide) ?_
        refine gCallI (D := D) (va_runV (As := [.int (11 : Int32)]) (rest := [.int (r2 + (1 : Int32))]) ⟨hx, hb, hml, hown, hts⟩ (c_X9_draw l D q cI cO hq (11 : Int32)  I3 F4 hs5 _ h) (cwV 1 hts gX9_drawn_X9_draw rfl rfl rfl (by decide +kernel) ⟨Nat.le_trans (Nat.le_of_ble_eq_true rfl) hRf, Nat.le_trans (Nat.le_of_ble_eq_true rfl) hRl⟩) (gPreV (ci := 9) (q0 := 0) mEok hE hK hP hS rfl mAt0) rfl rfl hl.1 rfl (lv_room (Nat.le_of_ble_eq_true rfl)) dX9_drawn_82 ⟨Nat.zero_le _, Nat.zero_le _⟩) hS (fun r6 u H locs hP hS h => ?_)
        obtain ⟨I7, F8, hs9⟩ := u
        have hP : va_P D vwCl (mW q cI cO I7 F8 hs9) H := hP
        refine lv_iadd hx hb dX9_drawn_85 ?_
        refine lv_bipush (v := (12 : Int32)) hx hb dX9_drawn_86 (by decide) ?_
        refine lv_irem hx hb dX9_drawn_88 (by decide) ?_
        refine lv_topi (fun v10 ev10 => ?_)
        have h := h v10 ev10
        refine lv_istore (lv' := [(9, .int v10), (8, .int r2), (0, .ref (q 0)), (1, .int x1), (3, .int x3), (4, .int x4), (5, .int x5), (6, .int x6), (7, .int x7)]) hx hb dX9_drawn_89 hl (by decide) rfl (fun ls hl => ?_)
        refine lv_aload_n hx hb dX9_drawn_91 rfl (lv_at hl 2 rfl) ?_
        refine lv_iload hx hb dX9_drawn_92 (lv_at hl 5 rfl) ?_
        refine lv_iconst (v := (1 : Int32)) hx hb dX9_drawn_94 (by decide) ?_
        refine lv_iload hx hb dX9_drawn_95 (lv_at hl 1 rfl) ?_
        refine lv_ishl hx hb dX9_drawn_97 ?_
        refine lv_iconst (v := (1 : Int32)) hx hb dX9_drawn_98 (by decide) ?_
        refine lv_iload hx hb dX9_drawn_99 (lv_at hl 0 rfl) ?_
        refine lv_ishl hx hb dX9_drawn_101 ?_
        refine lv_ior hx hb dX9_drawn_102 ?_
        refine gCallI (D := D) (va_runV (As := [.int x4, .int (((1 : Int32) <<< (r2 &&& 31)) ||| ((1 : Int32) <<< (v10 &&& 31)))]) (rest := []) ⟨hx, hb, hml, hown, hts⟩ (c_X9_played l D q cI cO hq x4 (((1 : Int32) <<< (r2 &&& 31)) ||| ((1 : Int32) <<< (v10 &&& 31)))  I7 F8 hs9 _ h) (cwV 2 hts gX9_drawn_X9_played rfl rfl rfl (by decide +kernel) ⟨Nat.le_trans (Nat.le_of_ble_eq_true rfl) hRf, Nat.le_trans (Nat.le_of_ble_eq_true rfl) hRl⟩) (gPreV (ci := 9) (q0 := 0) mEok hE hK hP hS rfl mAt0) rfl rfl hl.1 rfl (lv_room (Nat.le_of_ble_eq_true rfl)) dX9_drawn_103 ⟨Nat.zero_le _, Nat.zero_le _⟩) hS (fun r11 u H locs hP hS h => ?_)
        obtain ⟨I12, F13, hs14⟩ := u
        have hP : va_P D vwCl (mW q cI cO I12 F13 hs14) H := hP
        refine lv_istore (lv' := [(10, .int r11), (9, .int v10), (8, .int r2), (0, .ref (q 0)), (1, .int x1), (3, .int x3), (4, .int x4), (5, .int x5), (6, .int x6), (7, .int x7)]) hx hb dX9_drawn_106 hl (by decide) rfl (fun ls hl => ?_)
        refine lv_iload hx hb dX9_drawn_108 (lv_at hl 7 rfl) ?_
        refine lv_iload hx hb dX9_drawn_110 (lv_at hl 0 rfl) ?_
        refine lv_iconst (v := (-1 : Int32)) hx hb dX9_drawn_112 (by decide) ?_
        refine lv_icmp_ne (tgt := 120) hx hb dX9_drawn_113 (by decide) (fun c15 => ?_) (fun c15 => ?_)
        · have h := h.1 c15
          refine lv_iconst (v := (1 : Int32)) hx hb dX9_drawn_120 (by decide) ?_
          refine lv_iadd hx hb dX9_drawn_121 ?_
          refine lv_topi (fun v16 ev16 => ?_)
          have h := h v16 ev16
          refine lv_istore (lv' := [(5, .int v16), (10, .int r11), (9, .int v10), (8, .int r2), (0, .ref (q 0)), (1, .int x1), (3, .int x3), (4, .int x4), (6, .int x6), (7, .int x7)]) hx hb dX9_drawn_122 hl (by decide) rfl (fun ls hl => ?_)
          refine lv_iload hx hb dX9_drawn_124 (lv_at hl 8 rfl) ?_
          refine lv_iload hx hb dX9_drawn_126 (lv_at hl 1 rfl) ?_
          refine lv_iconst (v := (-1 : Int32)) hx hb dX9_drawn_128 (by decide) ?_
          refine lv_icmp_ne (tgt := 136) hx hb dX9_drawn_129 (by decide) (fun c17 => ?_) (fun c17 => ?_)
          · have h := h.1 c17
            refine lv_aload_n hx hb dX9_drawn_136 rfl (lv_at hl 4 rfl) ?_
            refine va_get (D := D) (ci := 9) (v := .int (I12 13)) (C := RX9) (T := TX9) (N := 44) hx hb hts (fun _ h9 => List.mem_cons_of_mem _ (List.mem_append_right _ h9)) hown hK hP 0 mAt0 rfl 35 (by decide) (hts _ (List.mem_of_getElem? (l := wsX9_drawn) (i := 5) rfl)) (fun _ h9 => h9) rfl dX9_drawn_137 ?_
            refine lv_iadd hx hb dX9_drawn_140 ?_
            refine lv_topi (fun v18 ev18 => ?_)
            have h := h v18 ev18
            refine lv_istore (lv' := [(6, .int v18), (5, .int v16), (10, .int r11), (9, .int v10), (8, .int r2), (0, .ref (q 0)), (1, .int x1), (3, .int x3), (4, .int x4), (7, .int x7)]) hx hb dX9_drawn_141 hl (by decide) rfl (fun ls hl => ?_)
            refine lv_iload hx hb dX9_drawn_143 (lv_at hl 2 rfl) ?_
            refine lv_iconst (v := (-1 : Int32)) hx hb dX9_drawn_145 (by decide) ?_
            refine lv_icmp_ne (tgt := 154) hx hb dX9_drawn_146 (by decide) (fun c19 => ?_) (fun c19 => ?_)
            · have h := h.1 c19
              refine lv_iload hx hb dX9_drawn_154 (lv_at hl 2 rfl) ?_
              refine lv_istore (lv' := [(4, .int r11), (6, .int v18), (5, .int v16), (10, .int r11), (9, .int v10), (8, .int r2), (0, .ref (q 0)), (1, .int x1), (3, .int x3), (7, .int x7)]) hx hb dX9_drawn_156 hl (by decide) rfl (fun ls hl => ?_)
              refine lv_iinc (v := (x7 + (1 : Int32))) (lv' := [(7, .int (x7 + (1 : Int32))), (4, .int r11), (6, .int v18), (5, .int v16), (10, .int r11), (9, .int v10), (8, .int r2), (0, .ref (q 0)), (1, .int x1), (3, .int x3)]) hx hb dX9_drawn_158 hl (k := 9) rfl rfl (by decide) rfl (fun ls hl => ?_)
              refine lv_goto (tgt := 61) hx hb dX9_drawn_161 (by decide) ?_
              exact ih x1 x3 _ r11 v16 v18 (x7 + (1 : Int32)) I12 F13 hs14 _ _ _  hP hS (lv_sub hl [7, 8, 9, 1, 3, 2, 0] rfl) h K
            · have h := h.2 c19
              refine lv_iload hx hb dX9_drawn_149 (lv_at hl 8 rfl) ?_
              refine lv_goto (tgt := 156) hx hb dX9_drawn_151 (by decide) ?_
              refine lv_istore (lv' := [(4, .int x4), (6, .int v18), (5, .int v16), (10, .int r11), (9, .int v10), (8, .int r2), (0, .ref (q 0)), (1, .int x1), (3, .int x3), (7, .int x7)]) hx hb dX9_drawn_156 hl (by decide) rfl (fun ls hl => ?_)
              refine lv_iinc (v := (x7 + (1 : Int32))) (lv' := [(7, .int (x7 + (1 : Int32))), (4, .int x4), (6, .int v18), (5, .int v16), (10, .int r11), (9, .int v10), (8, .int r2), (0, .ref (q 0)), (1, .int x1), (3, .int x3)]) hx hb dX9_drawn_158 hl (k := 9) rfl rfl (by decide) rfl (fun ls hl => ?_)
              refine lv_goto (tgt := 61) hx hb dX9_drawn_161 (by decide) ?_
              exact ih x1 x3 _ x4 v16 v18 (x7 + (1 : Int32)) I12 F13 hs14 _ _ _  hP hS (lv_sub hl [7, 8, 9, 1, 3, 2, 0] rfl) h K
          · have h := h.2 c17
            refine lv_iconst (v := (0 : Int32)) hx hb dX9_drawn_132 (by decide) ?_
            refine lv_goto (tgt := 140) hx hb dX9_drawn_133 (by decide) ?_
            refine lv_iadd hx hb dX9_drawn_140 ?_
            refine lv_topi (fun v20 ev20 => ?_)
            have h := h v20 ev20
            refine lv_istore (lv' := [(6, .int v20), (5, .int v16), (10, .int r11), (9, .int v10), (8, .int r2), (0, .ref (q 0)), (1, .int x1), (3, .int x3), (4, .int x4), (7, .int x7)]) hx hb dX9_drawn_141 hl (by decide) rfl (fun ls hl => ?_)
            refine lv_iload hx hb dX9_drawn_143 (lv_at hl 2 rfl) ?_
            refine lv_iconst (v := (-1 : Int32)) hx hb dX9_drawn_145 (by decide) ?_
            refine lv_icmp_ne (tgt := 154) hx hb dX9_drawn_146 (by decide) (fun c21 => ?_) (fun c21 => ?_)
            · have h := h.1 c21
              refine lv_iload hx hb dX9_drawn_154 (lv_at hl 2 rfl) ?_
              refine lv_istore (lv' := [(4, .int r11), (6, .int v20), (5, .int v16), (10, .int r11), (9, .int v10), (8, .int r2), (0, .ref (q 0)), (1, .int x1), (3, .int x3), (7, .int x7)]) hx hb dX9_drawn_156 hl (by decide) rfl (fun ls hl => ?_)
              refine lv_iinc (v := (x7 + (1 : Int32))) (lv' := [(7, .int (x7 + (1 : Int32))), (4, .int r11), (6, .int v20), (5, .int v16), (10, .int r11), (9, .int v10), (8, .int r2), (0, .ref (q 0)), (1, .int x1), (3, .int x3)]) hx hb dX9_drawn_158 hl (k := 9) rfl rfl (by decide) rfl (fun ls hl => ?_)
              refine lv_goto (tgt := 61) hx hb dX9_drawn_161 (by decide) ?_
              exact ih x1 x3 _ r11 v16 v20 (x7 + (1 : Int32)) I12 F13 hs14 _ _ _  hP hS (lv_sub hl [7, 8, 9, 1, 3, 2, 0] rfl) h K
            · have h := h.2 c21
              refine lv_iload hx hb dX9_drawn_149 (lv_at hl 8 rfl) ?_
              refine lv_goto (tgt := 156) hx hb dX9_drawn_151 (by decide) ?_
              refine lv_istore (lv' := [(4, .int x4), (6, .int v20), (5, .int v16), (10, .int r11), (9, .int v10), (8, .int r2), (0, .ref (q 0)), (1, .int x1), (3, .int x3), (7, .int x7)]) hx hb dX9_drawn_156 hl (by decide) rfl (fun ls hl => ?_)
              refine lv_iinc (v := (x7 + (1 : Int32))) (lv' := [(7, .int (x7 + (1 : Int32))), (4, .int x4), (6, .int v20), (5, .int v16), (10, .int r11), (9, .int v10), (8, .int r2), (0, .ref (q 0)), (1, .int x1), (3, .int x3)]) hx hb dX9_drawn_158 hl (k := 9) rfl rfl (by decide) rfl (fun ls hl => ?_)
              refine lv_goto (tgt := 61) hx hb dX9_drawn_161 (by decide) ?_
              exact ih x1 x3 _ x4 v16 v20 (x7 + (1 : Int32)) I12 F13 hs14 _ _ _  hP hS (lv_sub hl [7, 8, 9, 1, 3, 2, 0] rfl) h K
        · have h := h.2 c15
          refine lv_iconst (v := (0 : Int32)) hx hb dX9_drawn_116 (by decide) ?_
          refine lv_goto (tgt := 121) hx hb dX9_drawn_117 (by decide) ?_
          refine lv_iadd hx hb dX9_drawn_121 ?_
          refine lv_topi (fun v22 ev22 => ?_)
          have h := h v22 ev22
          refine lv_istore (lv' := [(5, .int v22), (10, .int r11), (9, .int v10), (8, .int r2), (0, .ref (q 0)), (1, .int x1), (3, .int x3), (4, .int x4), (6, .int x6), (7, .int x7)]) hx hb dX9_drawn_122 hl (by decide) rfl (fun ls hl => ?_)
          refine lv_iload hx hb dX9_drawn_124 (lv_at hl 8 rfl) ?_
          refine lv_iload hx hb dX9_drawn_126 (lv_at hl 1 rfl) ?_
          refine lv_iconst (v := (-1 : Int32)) hx hb dX9_drawn_128 (by decide) ?_
          refine lv_icmp_ne (tgt := 136) hx hb dX9_drawn_129 (by decide) (fun c23 => ?_) (fun c23 => ?_)
          · have h := h.1 c23
            refine lv_aload_n hx hb dX9_drawn_136 rfl (lv_at hl 4 rfl) ?_
            refine va_get (D := D) (ci := 9) (v := .int (I12 13)) (C := RX9) (T := TX9) (N := 44) hx hb hts (fun _ h9 => List.mem_cons_of_mem _ (List.mem_append_right _ h9)) hown hK hP 0 mAt0 rfl 35 (by decide) (hts _ (List.mem_of_getElem? (l := wsX9_drawn) (i := 5) rfl)) (fun _ h9 => h9) rfl dX9_drawn_137 ?_
            refine lv_iadd hx hb dX9_drawn_140 ?_
            refine lv_topi (fun v24 ev24 => ?_)
            have h := h v24 ev24
            refine lv_istore (lv' := [(6, .int v24), (5, .int v22), (10, .int r11), (9, .int v10), (8, .int r2), (0, .ref (q 0)), (1, .int x1), (3, .int x3), (4, .int x4), (7, .int x7)]) hx hb dX9_drawn_141 hl (by decide) rfl (fun ls hl => ?_)
            refine lv_iload hx hb dX9_drawn_143 (lv_at hl 2 rfl) ?_
            refine lv_iconst (v := (-1 : Int32)) hx hb dX9_drawn_145 (by decide) ?_
            refine lv_icmp_ne (tgt := 154) hx hb dX9_drawn_146 (by decide) (fun c25 => ?_) (fun c25 => ?_)
            · have h := h.1 c25
              refine lv_iload hx hb dX9_drawn_154 (lv_at hl 2 rfl) ?_
              refine lv_istore (lv' := [(4, .int r11), (6, .int v24), (5, .int v22), (10, .int r11), (9, .int v10), (8, .int r2), (0, .ref (q 0)), (1, .int x1), (3, .int x3), (7, .int x7)]) hx hb dX9_drawn_156 hl (by decide) rfl (fun ls hl => ?_)
              refine lv_iinc (v := (x7 + (1 : Int32))) (lv' := [(7, .int (x7 + (1 : Int32))), (4, .int r11), (6, .int v24), (5, .int v22), (10, .int r11), (9, .int v10), (8, .int r2), (0, .ref (q 0)), (1, .int x1), (3, .int x3)]) hx hb dX9_drawn_158 hl (k := 9) rfl rfl (by decide) rfl (fun ls hl => ?_)
              refine lv_goto (tgt := 61) hx hb dX9_drawn_161 (by decide) ?_
              exact ih x1 x3 _ r11 v22 v24 (x7 + (1 : Int32)) I12 F13 hs14 _ _ _  hP hS (lv_sub hl [7, 8, 9, 1, 3, 2, 0] rfl) h K
            · have h := h.2 c25
              refine lv_iload hx hb dX9_drawn_149 (lv_at hl 8 rfl) ?_
              refine lv_goto (tgt := 156) hx hb dX9_drawn_151 (by decide) ?_
              refine lv_istore (lv' := [(4, .int x4), (6, .int v24), (5, .int v22), (10, .int r11), (9, .int v10), (8, .int r2), (0, .ref (q 0)), (1, .int x1), (3, .int x3), (7, .int x7)]) hx hb dX9_drawn_156 hl (by decide) rfl (fun ls hl => ?_)
              refine lv_iinc (v := (x7 + (1 : Int32))) (lv' := [(7, .int (x7 + (1 : Int32))), (4, .int x4), (6, .int v24), (5, .int v22), (10, .int r11), (9, .int v10), (8, .int r2), (0, .ref (q 0)), (1, .int x1), (3, .int x3)]) hx hb dX9_drawn_158 hl (k := 9) rfl rfl (by decide) rfl (fun ls hl => ?_)
              refine lv_goto (tgt := 61) hx hb dX9_drawn_161 (by decide) ?_
              exact ih x1 x3 _ x4 v22 v24 (x7 + (1 : Int32)) I12 F13 hs14 _ _ _  hP hS (lv_sub hl [7, 8, 9, 1, 3, 2, 0] rfl) h K
          · have h := h.2 c23
            refine lv_iconst (v := (0 : Int32)) hx hb dX9_drawn_132 (by decide) ?_
            refine lv_goto (tgt := 140) hx hb dX9_drawn_133 (by decide) ?_
            refine lv_iadd hx hb dX9_drawn_140 ?_
            refine lv_topi (fun v26 ev26 => ?_)
            have h := h v26 ev26
            refine lv_istore (lv' := [(6, .int v26), (5, .int v22), (10, .int r11), (9, .int v10), (8, .int r2), (0, .ref (q 0)), (1, .int x1), (3, .int x3), (4, .int x4), (7, .int x7)]) hx hb dX9_drawn_141 hl (by decide) rfl (fun ls hl => ?_)
            refine lv_iload hx hb dX9_drawn_143 (lv_at hl 2 rfl) ?_
            refine lv_iconst (v := (-1 : Int32)) hx hb dX9_drawn_145 (by decide) ?_
            refine lv_icmp_ne (tgt := 154) hx hb dX9_drawn_146 (by decide) (fun c27 => ?_) (fun c27 => ?_)
            · have h := h.1 c27
              refine lv_iload hx hb dX9_drawn_154 (lv_at hl 2 rfl) ?_
              refine lv_istore (lv' := [(4, .int r11), (6, .int v26), (5, .int v22), (10, .int r11), (9, .int v10), (8, .int r2), (0, .ref (q 0)), (1, .int x1), (3, .int x3), (7, .int x7)]) hx hb dX9_drawn_156 hl (by decide) rfl (fun ls hl => ?_)
              refine lv_iinc (v := (x7 + (1 : Int32))) (lv' := [(7, .int (x7 + (1 : Int32))), (4, .int r11), (6, .int v26), (5, .int v22), (10, .int r11), (9, .int v10), (8, .int r2), (0, .ref (q 0)), (1, .int x1), (3, .int x3)]) hx hb dX9_drawn_158 hl (k := 9) rfl rfl (by decide) rfl (fun ls hl => ?_)
              refine lv_goto (tgt := 61) hx hb dX9_drawn_161 (by decide) ?_
              exact ih x1 x3 _ r11 v22 v26 (x7 + (1 : Int32)) I12 F13 hs14 _ _ _  hP hS (lv_sub hl [7, 8, 9, 1, 3, 2, 0] rfl) h K
            · have h := h.2 c27
              refine lv_iload hx hb dX9_drawn_149 (lv_at hl 8 rfl) ?_
              refine lv_goto (tgt := 156) hx hb dX9_drawn_151 (by decide) ?_
              refine lv_istore (lv' := [(4, .int x4), (6, .int v26), (5, .int v22), (10, .int r11), (9, .int v10), (8, .int r2), (0, .ref (q 0)), (1, .int x1), (3, .int x3), (7, .int x7)]) hx hb dX9_drawn_156 hl (by decide) rfl (fun ls hl => ?_)
              refine lv_iinc (v := (x7 + (1 : Int32))) (lv' := [(7, .int (x7 + (1 : Int32))), (4, .int x4), (6, .int v26), (5, .int v22), (10, .int r11), (9, .int v10), (8, .int r2), (0, .ref (q 0)), (1, .int x1), (3, .int x3)]) hx hb dX9_drawn_158 hl (k := 9) rfl rfl (by decide) rfl (fun ls hl => ?_)
              refine lv_goto (tgt := 61) hx hb dX9_drawn_161 (by decide) ?_
              exact ih x1 x3 _ x4 v22 v26 (x7 + (1 : Int32)) I12 F13 hs14 _ _ _  hP hS (lv_sub hl [7, 8, 9, 1, 3, 2, 0] rfl) h K
  refine lv_iload_n hx hb dX9_drawn_0 rfl (lv_at hl 1 rfl) ?_
  refine lv_i2l (v := (a1).toInt64) hx hb dX9_drawn_1 rfl ?_
  refine lv_lconst (v := (1 : Int64)) hx hb dX9_drawn_2 (by decide) ?_
  refine lv_ldc2 (v := (30 : Int64)) hx hb hown (hts _ (List.mem_of_getElem? (l := wsX9_drawn) (i := 1) rfl)) dX9_drawn_3 ?_
  refine gCallI (D := D) (va_runS (As := [.long ((a1).toInt64), .long (1 : Int64), .long (30 : Int64)]) (rest := []) ⟨hx, hb, hml, hown, hts⟩ (c_X9_in l D q cI cO hq ((a1).toInt64) (1 : Int64) (30 : Int64)  I F hs _ h) (va_cwS 3 hts gX9_drawn_X9_in rfl rfl rfl (by decide +kernel) ⟨Nat.le_trans (Nat.le_of_ble_eq_true rfl) hRf, Nat.le_trans (Nat.le_of_ble_eq_true rfl) hRl⟩) (gPreS mEok hE hK hP hS) rfl rfl hl.1 rfl (lv_room (Nat.le_of_ble_eq_true rfl)) dX9_drawn_6 ⟨Nat.zero_le _, Nat.zero_le _⟩) hS (fun r28 _ H locs hP hS h => ?_)
  have hP : va_P D vwCl (mW q cI cO I F hs) H := hP
  refine lv_if_eq (tgt := 28) hx hb dX9_drawn_9 (by decide) (fun c29 => ?_) (fun c29 => ?_)
  · have h := h.1 c29
    refine lv_bipush (v := (-102 : Int32)) hx hb dX9_drawn_28 (by decide) ?_
    exact hret (-102 : Int32) (I, F, hs) _ _ _ _ dX9_drawn_30 hP hS h
  · have h := h.2 c29
    refine lv_iload_n hx hb dX9_drawn_12 rfl (lv_at hl 2 rfl) ?_
    refine lv_if_lt (tgt := 28) hx hb dX9_drawn_13 (by decide) (fun c30 => ?_) (fun c30 => ?_)
    · have h := h.1 c30
      refine lv_bipush (v := (-102 : Int32)) hx hb dX9_drawn_28 (by decide) ?_
      exact hret (-102 : Int32) (I, F, hs) _ _ _ _ dX9_drawn_30 hP hS h
    · have h := h.2 c30
      refine lv_iload_n hx hb dX9_drawn_16 rfl (lv_at hl 3 rfl) ?_
      refine lv_i2l (v := (a3).toInt64) hx hb dX9_drawn_17 rfl ?_
      refine lv_lconst (v := (0 : Int64)) hx hb dX9_drawn_18 (by decide) ?_
      refine lv_ldc2 (v := (2 : Int64)) hx hb hown (hts _ (List.mem_of_getElem? (l := wsX9_drawn) (i := 2) rfl)) dX9_drawn_19 ?_
      refine gCallI (D := D) (va_runS (As := [.long ((a3).toInt64), .long (0 : Int64), .long (2 : Int64)]) (rest := []) ⟨hx, hb, hml, hown, hts⟩ (c_X9_in l D q cI cO hq ((a3).toInt64) (0 : Int64) (2 : Int64)  I F hs _ h) (va_cwS 3 hts gX9_drawn_X9_in rfl rfl rfl (by decide +kernel) ⟨Nat.le_trans (Nat.le_of_ble_eq_true rfl) hRf, Nat.le_trans (Nat.le_of_ble_eq_true rfl) hRl⟩) (gPreS mEok hE hK hP hS) rfl rfl hl.1 rfl (lv_room (Nat.le_of_ble_eq_true rfl)) dX9_drawn_22 ⟨Nat.zero_le _, Nat.zero_le _⟩) hS (fun r31 _ H locs hP hS h => ?_)
      have hP : va_P D vwCl (mW q cI cO I F hs) H := hP
      refine lv_if_ne (tgt := 31) hx hb dX9_drawn_25 (by decide) (fun c32 => ?_) (fun c32 => ?_)
      · have h := h.1 c32
        refine lv_aload_n hx hb dX9_drawn_31 rfl (lv_at hl 0 rfl) ?_
        refine gCallI (D := D) (va_runV (As := []) (rest := []) ⟨hx, hb, hml, hown, hts⟩ (c_X9_lacks l D q cI cO hq   I F hs _ h) (cwV 0 hts gX9_drawn_X9_lacks rfl rfl rfl (by decide +kernel) ⟨Nat.le_trans (Nat.le_of_ble_eq_true rfl) hRf, Nat.le_trans (Nat.le_of_ble_eq_true rfl) hRl⟩) (gPreV (ci := 9) (q0 := 0) mEok hE hK hP hS rfl mAt0) rfl rfl hl.1 rfl (lv_room (Nat.le_of_ble_eq_true rfl)) dX9_drawn_32 ⟨Nat.zero_le _, Nat.zero_le _⟩) hS (fun r33 _ H locs hP hS h => ?_)
        have hP : va_P D vwCl (mW q cI cO I F hs) H := hP
        refine lv_if_eq (tgt := 41) hx hb dX9_drawn_35 (by decide) (fun c34 => ?_) (fun c34 => ?_)
        · have h := h.1 c34
          refine lv_aload_n hx hb dX9_drawn_41 rfl (lv_at hl 0 rfl) ?_
          refine lv_iload_n hx hb dX9_drawn_42 rfl (lv_at hl 2 rfl) ?_
          refine gPut (D := D) (ci := 9) (ty := .int) (C := RX9) (T := TX9) (N := 44) hx hb hts (fun _ h9 => List.mem_cons_of_mem _ (List.mem_append_right _ h9)) tyX9 tyX9_ok nmX9 hown hK hP (mD hq) hS 0 mAt0 rfl 34 (by decide) (hts _ (List.mem_of_getElem? (l := wsX9_drawn) (i := 3) rfl)) (fun _ h9 => h9) rfl (by decide +kernel) rfl rfl (Nat.le_of_ble_eq_true rfl) dX9_drawn_43 (mSet12 a2) (fun H locs hP hS => ?_)
          obtain ⟨I35, eI35⟩ : ∃ z : Nat → Int32, z = upd I 12 a2 := ⟨_, rfl⟩
          rw [← eI35] at hP
          have h := h I35 eI35
          refine lv_aload_n hx hb dX9_drawn_46 rfl (lv_at hl 0 rfl) ?_
          refine va_get (D := D) (ci := 9) (v := .int (I35 4)) (C := RX9) (T := TX9) (N := 44) hx hb hts (fun _ h9 => List.mem_cons_of_mem _ (List.mem_append_right _ h9)) hown hK hP 0 mAt0 rfl 17 (by decide) (hts _ (List.mem_of_getElem? (l := wsX9_drawn) (i := 4) rfl)) (fun _ h9 => h9) rfl dX9_drawn_47 ?_
          refine lv_topi (fun v36 ev36 => ?_)
          have h := h v36 ev36
          refine lv_istore (lv' := [(4, .int v36), (0, .ref (q 0)), (1, .int a1), (2, .int a2), (3, .int a3)]) hx hb dX9_drawn_50 hl (by decide) rfl (fun ls hl => ?_)
          refine lv_iconst (v := (0 : Int32)) hx hb dX9_drawn_52 (by decide) ?_
          refine lv_istore (lv' := [(5, .int (0 : Int32)), (4, .int v36), (0, .ref (q 0)), (1, .int a1), (2, .int a2), (3, .int a3)]) hx hb dX9_drawn_53 hl (by decide) rfl (fun ls hl => ?_)
          refine lv_iconst (v := (0 : Int32)) hx hb dX9_drawn_55 (by decide) ?_
          refine lv_istore (lv' := [(6, .int (0 : Int32)), (5, .int (0 : Int32)), (4, .int v36), (0, .ref (q 0)), (1, .int a1), (2, .int a2), (3, .int a3)]) hx hb dX9_drawn_56 hl (by decide) rfl (fun ls hl => ?_)
          refine lv_iconst (v := (0 : Int32)) hx hb dX9_drawn_58 (by decide) ?_
          refine lv_istore (lv' := [(7, .int (0 : Int32)), (6, .int (0 : Int32)), (5, .int (0 : Int32)), (4, .int v36), (0, .ref (q 0)), (1, .int a1), (2, .int a2), (3, .int a3)]) hx hb dX9_drawn_59 hl (by decide) rfl (fun ls hl => ?_)
          obtain ⟨n, h⟩ := h
          refine L61 n a1 a3 _ v36 (0 : Int32) (0 : Int32) (0 : Int32) I35 F hs _ _ _  hP hS (lv_sub hl [4, 5, 7, 3, 2, 1, 0] rfl) h (fun y37 y38 y39 y40 I41 F42 hs43 H locs ls  hP hS hl h => ?_)
          refine lv_iload_n hx hb dX9_drawn_164 rfl (lv_at hl 1 rfl) ?_
          refine lv_if_ne (tgt := 173) hx hb dX9_drawn_165 (by decide) (fun c44 => ?_) (fun c44 => ?_)
          · have h := h.1 c44
            refine lv_iload_n hx hb dX9_drawn_173 rfl (lv_at hl 1 rfl) ?_
            refine lv_iconst (v := (1 : Int32)) hx hb dX9_drawn_174 (by decide) ?_
            refine lv_icmp_ne (tgt := 183) hx hb dX9_drawn_175 (by decide) (fun c45 => ?_) (fun c45 => ?_)
            · have h := h.1 c45
              refine lv_aload_n hx hb dX9_drawn_183 rfl (lv_at hl 0 rfl) ?_
              refine va_get (D := D) (ci := 9) (v := .int (I41 12)) (C := RX9) (T := TX9) (N := 44) hx hb hts (fun _ h9 => List.mem_cons_of_mem _ (List.mem_append_right _ h9)) hown hK hP 0 mAt0 rfl 34 (by decide) (hts _ (List.mem_of_getElem? (l := wsX9_drawn) (i := 3) rfl)) (fun _ h9 => h9) rfl dX9_drawn_184 ?_
              exact hret (I41 12) (I41, F42, hs43) _ _ _ _ dX9_drawn_187 hP hS h
            · have h := h.2 c45
              refine lv_iload hx hb dX9_drawn_178 (lv_at hl 3 rfl) ?_
              refine lv_goto (tgt := 187) hx hb dX9_drawn_180 (by decide) ?_
              exact hret y39 (I41, F42, hs43) _ _ _ _ dX9_drawn_187 hP hS h
          · have h := h.2 c44
            refine lv_iload hx hb dX9_drawn_168 (lv_at hl 2 rfl) ?_
            refine lv_goto (tgt := 187) hx hb dX9_drawn_170 (by decide) ?_
            exact hret y38 (I41, F42, hs43) _ _ _ _ dX9_drawn_187 hP hS h
        · have h := h.2 c34
          refine lv_bipush (v := (-103 : Int32)) hx hb dX9_drawn_38 (by decide) ?_
          exact hret (-103 : Int32) (I, F, hs) _ _ _ _ dX9_drawn_40 hP hS h
      · have h := h.2 c32
        refine lv_bipush (v := (-102 : Int32)) hx hb dX9_drawn_28 (by decide) ?_
        exact hret (-102 : Int32) (I, F, hs) _ _ _ _ dX9_drawn_30 hP hS h
def w_X9_copy_14_23_B2  (k again : Int32 → (Nat → Int32) → (Nat → Nat → Int32) → Int64 → Prop) (x2 : Int32) (I : Nat → Int32) (F : Nat → Nat → Int32) (hs : Int64) : Prop :=
  (((8 : Int32) ≤ x2 → k x2 I F hs) ∧ (¬ (8 : Int32) ≤ x2 → vp_in x2 8 ∧ vp_in x2 8 ∧ ∀ F2 : Nat → Nat → Int32, F2 = upF F 23 (upd (F 23) (x2).toNatClampNeg (F 14 (x2).toNatClampNeg)) → again (x2 + (1 : Int32)) I F2 hs))
def w_X9_copy_14_23  (I : Nat → Int32) (F : Nat → Nat → Int32) (hs : Int64) (post : (Nat → Int32) → (Nat → Nat → Int32) → Int64 → Prop) : Prop :=
  gL (fun ag v => w_X9_copy_14_23_B2  (fun (y3 : Int32) (I4 : Nat → Int32) (F5 : Nat → Nat → Int32) (hs6 : Int64) => post I4 F5 hs6) (fun b0 b1 b2 b3 => ag (b0, b1, b2, b3)) v.1 v.2.1 v.2.2.1 v.2.2.2) ((0 : Int32), I, F, hs)
set_option maxHeartbeats 4000000 in
set_option maxRecDepth 100000 in
theorem c_X9_copy_14_23 (l : Launch) (D : va_G) (q : Nat → Nat) (cI cO : ClassId) (hq : mOk q)   (I : Nat → Int32) (F : Nat → Nat → Int32) (hs : Int64) (post : (Nat → Int32) → (Nat → Nat → Int32) → Int64 → Prop) (h : w_X9_copy_14_23  I F hs post) : Met l yX9_copy wsX9_copy ({ frames := 0, cells := 0, slots := 0, locals := 0 } : Room) (gPre D (mTys cI) (mW q cI cO I F hs) mEnv [.ref (q 14), .ref (q 23)]) (va_Qv (fun (u : mS) => post u.1 u.2.1 u.2.2) (gB D (fun u : mS => mW q cI cO u.1 u.2.1 u.2.2)) (mA q)) 0 0 (mA q) := by
  refine gMetV (by decide) rfl (Nat.le_of_ble_eq_true rfl) ?_
  intro p e R s m args below meth c Q ls hR hx hb hml hown hts hK hE hP hl hret
  have hRf : 0 ≤ R.frames := by subst hR; exact Nat.le_refl _
  have hRl : 0 ≤ R.locals := by subst hR; exact Nat.le_refl _
  have hown : s.vm.findClass RX9 = some m.cls := hown
  have hl : lv_has ls 3 [(0, .ref (q 14)), (1, .ref (q 23))] := hl
  have hS : va_S (mA q) s.heap s.heap [] := va_S.rf
  have hP : va_P D vwCl (mW q cI cO I F hs) s.heap := hP
  have L2 : ∀ (n : Nat)  (k : Int32 → (Nat → Int32) → (Nat → Nat → Int32) → Int64 → Prop) (x2 : Int32) (I : Nat → Int32) (F : Nat → Nat → Int32) (hs : Int64) (H : Heap) (locs : List Loc) (ls : Array Slot), va_P D vwCl (mW q cI cO I F hs) H → va_S (mA q) s.heap H locs → lv_has ls 3 [(0, .ref (q 14)), (1, .ref (q 23)), (2, .int x2)] → gLN (fun ag v => w_X9_copy_14_23_B2  k (fun b0 b1 b2 b3 => ag (b0, b1, b2, b3)) v.1 v.2.1 v.2.2.1 v.2.2.2) n (x2, I, F, hs) → (∀ (x2 : Int32) (I : Nat → Int32) (F : Nat → Nat → Int32) (hs : Int64) (H : Heap) (locs : List Loc) (ls : Array Slot), va_P D vwCl (mW q cI cO I F hs) H → va_S (mA q) s.heap H locs → lv_has ls 3 [] → k x2 I F hs → W p l e R s m args below meth c H locs 0 0 Q (F0 m 20 ls [])) → W p l e R s m args below meth c H locs 0 0 Q (F0 m 2 ls []) := by
    intro n
    induction n with
    | zero =>
      intro  k x2 I F hs H locs ls  hP hS hl h K
      exact False.elim h
    | succ n ih =>
      intro  k x2 I F hs H locs ls  hP hS hl h K
      have h : w_X9_copy_14_23_B2  k (fun b0 b1 b2 b3 => gLN (fun ag v => w_X9_copy_14_23_B2  k (fun b0 b1 b2 b3 => ag (b0, b1, b2, b3)) v.1 v.2.1 v.2.2.1 v.2.2.2) n (b0, b1, b2, b3)) x2 I F hs := h
      refine lv_iload_n hx hb dX9_copy_2 rfl (lv_at hl 2 rfl) ?_
      refine lv_aload_n hx hb dX9_copy_3 rfl (lv_at hl 0 rfl) ?_
      refine va_alen (D := D) (v := (8 : Int32)) hx hb hK hP 14 0 mAr14 rfl rfl dX9_copy_4 ?_
      refine lv_icmp_ge (tgt := 20) hx hb dX9_copy_5 (by decide) (fun c1 => ?_) (fun c1 => ?_)
      · have h := h.1 c1
        exact K x2 I F hs _ _ _  hP hS (lv_sub hl [] rfl) h
      · have h := h.2 c1
        refine lv_aload_n hx hb dX9_copy_8 rfl (lv_at hl 1 rfl) ?_
        refine lv_iload_n hx hb dX9_copy_9 rfl (lv_at hl 2 rfl) ?_
        refine lv_aload_n hx hb dX9_copy_10 rfl (lv_at hl 0 rfl) ?_
        refine lv_iload_n hx hb dX9_copy_11 rfl (lv_at hl 2 rfl) ?_
        refine va_iald (D := D) hx hb hK hP 14 0 mAr14 rfl h.1 dX9_copy_12 ?_
        have h := h.2
        refine gAst (D := D) hx hb hK hP (mD hq) hS 23 0 mAr23 rfl h.1 dX9_copy_13 (mSA23 _) (fun H locs hP hS => ?_)
        obtain ⟨F2, eF2⟩ : ∃ z : Nat → Nat → Int32, z = upF F 23 (upd (F 23) (x2).toNatClampNeg (F 14 (x2).toNatClampNeg)) := ⟨_, rfl⟩
        rw [← eF2] at hP
        have h := h.2 F2 eF2
        refine lv_iinc (v := (x2 + (1 : Int32))) (lv' := [(2, .int (x2 + (1 : Int32))), (0, .ref (q 14)), (1, .ref (q 23))]) hx hb dX9_copy_14 hl (k := 2) rfl rfl (by decide) rfl (fun ls hl => ?_)
        refine lv_goto (tgt := 2) hx hb dX9_copy_17 (by decide) ?_
        exact ih  _ (x2 + (1 : Int32)) I F2 hs _ _ _  hP hS (lv_sub hl [1, 2, 0] rfl) h K
  refine lv_iconst (v := (0 : Int32)) hx hb dX9_copy_0 (by decide) ?_
  refine lv_istore_n (lv' := [(2, .int (0 : Int32)), (0, .ref (q 14)), (1, .ref (q 23))]) hx hb dX9_copy_1 rfl hl (by decide) rfl (fun ls hl => ?_)
  obtain ⟨n, h⟩ := h
  refine L2 n  _ (0 : Int32) I F hs _ _ _  hP hS (lv_sub hl [1, 2, 0] rfl) h (fun y3 I4 F5 hs6 H locs ls  hP hS hl h => ?_)
  exact hret (I4, F5, hs6) _ _ _ _ dX9_copy_20 hP hS h
def w_X9_copy_15_24_B2  (k again : Int32 → (Nat → Int32) → (Nat → Nat → Int32) → Int64 → Prop) (x2 : Int32) (I : Nat → Int32) (F : Nat → Nat → Int32) (hs : Int64) : Prop :=
  (((8 : Int32) ≤ x2 → k x2 I F hs) ∧ (¬ (8 : Int32) ≤ x2 → vp_in x2 8 ∧ vp_in x2 8 ∧ ∀ F2 : Nat → Nat → Int32, F2 = upF F 24 (upd (F 24) (x2).toNatClampNeg (F 15 (x2).toNatClampNeg)) → again (x2 + (1 : Int32)) I F2 hs))
def w_X9_copy_15_24  (I : Nat → Int32) (F : Nat → Nat → Int32) (hs : Int64) (post : (Nat → Int32) → (Nat → Nat → Int32) → Int64 → Prop) : Prop :=
  gL (fun ag v => w_X9_copy_15_24_B2  (fun (y3 : Int32) (I4 : Nat → Int32) (F5 : Nat → Nat → Int32) (hs6 : Int64) => post I4 F5 hs6) (fun b0 b1 b2 b3 => ag (b0, b1, b2, b3)) v.1 v.2.1 v.2.2.1 v.2.2.2) ((0 : Int32), I, F, hs)
set_option maxHeartbeats 4000000 in
set_option maxRecDepth 100000 in
theorem c_X9_copy_15_24 (l : Launch) (D : va_G) (q : Nat → Nat) (cI cO : ClassId) (hq : mOk q)   (I : Nat → Int32) (F : Nat → Nat → Int32) (hs : Int64) (post : (Nat → Int32) → (Nat → Nat → Int32) → Int64 → Prop) (h : w_X9_copy_15_24  I F hs post) : Met l yX9_copy wsX9_copy ({ frames := 0, cells := 0, slots := 0, locals := 0 } : Room) (gPre D (mTys cI) (mW q cI cO I F hs) mEnv [.ref (q 15), .ref (q 24)]) (va_Qv (fun (u : mS) => post u.1 u.2.1 u.2.2) (gB D (fun u : mS => mW q cI cO u.1 u.2.1 u.2.2)) (mA q)) 0 0 (mA q) := by
  refine gMetV (by decide) rfl (Nat.le_of_ble_eq_true rfl) ?_
  intro p e R s m args below meth c Q ls hR hx hb hml hown hts hK hE hP hl hret
  have hRf : 0 ≤ R.frames := by subst hR; exact Nat.le_refl _
  have hRl : 0 ≤ R.locals := by subst hR; exact Nat.le_refl _
  have hown : s.vm.findClass RX9 = some m.cls := hown
  have hl : lv_has ls 3 [(0, .ref (q 15)), (1, .ref (q 24))] := hl
  have hS : va_S (mA q) s.heap s.heap [] := va_S.rf
  have hP : va_P D vwCl (mW q cI cO I F hs) s.heap := hP
  have L2 : ∀ (n : Nat)  (k : Int32 → (Nat → Int32) → (Nat → Nat → Int32) → Int64 → Prop) (x2 : Int32) (I : Nat → Int32) (F : Nat → Nat → Int32) (hs : Int64) (H : Heap) (locs : List Loc) (ls : Array Slot), va_P D vwCl (mW q cI cO I F hs) H → va_S (mA q) s.heap H locs → lv_has ls 3 [(0, .ref (q 15)), (1, .ref (q 24)), (2, .int x2)] → gLN (fun ag v => w_X9_copy_15_24_B2  k (fun b0 b1 b2 b3 => ag (b0, b1, b2, b3)) v.1 v.2.1 v.2.2.1 v.2.2.2) n (x2, I, F, hs) → (∀ (x2 : Int32) (I : Nat → Int32) (F : Nat → Nat → Int32) (hs : Int64) (H : Heap) (locs : List Loc) (ls : Array Slot), va_P D vwCl (mW q cI cO I F hs) H → va_S (mA q) s.heap H locs → lv_has ls 3 [] → k x2 I F hs → W p l e R s m args below meth c H locs 0 0 Q (F0 m 20 ls [])) → W p l e R s m args below meth c H locs 0 0 Q (F0 m 2 ls []) := by
    intro n
    induction n with
    | zero =>
      intro  k x2 I F hs H locs ls  hP hS hl h K
      exact False.elim h
    | succ n ih =>
      intro  k x2 I F hs H locs ls  hP hS hl h K
      have h : w_X9_copy_15_24_B2  k (fun b0 b1 b2 b3 => gLN (fun ag v => w_X9_copy_15_24_B2  k (fun b0 b1 b2 b3 => ag (b0, b1, b2, b3)) v.1 v.2.1 v.2.2.1 v.2.2.2) n (b0, b1, b2, b3)) x2 I F hs := h
      refine lv_iload_n hx hb dX9_copy_2 rfl (lv_at hl 2 rfl) ?_
      refine lv_aload_n hx hb dX9_copy_3 rfl (lv_at hl 0 rfl) ?_
      refine va_alen (D := D) (v := (8 : Int32)) hx hb hK hP 15 0 mAr15 rfl rfl dX9_copy_4 ?_
      refine lv_icmp_ge (tgt := 20) hx hb dX9_copy_5 (by decide) (fun c1 => ?_) (fun c1 => ?_)
      · have h := h.1 c1
        exact K x2 I F hs _ _ _  hP hS (lv_sub hl [] rfl) h
      · have h := h.2 c1
        refine lv_aload_n hx hb dX9_copy_8 rfl (lv_at hl 1 rfl) ?_
        refine lv_iload_n hx hb dX9_copy_9 rfl (lv_at hl 2 rfl) ?_
        refine lv_aload_n hx hb dX9_copy_10 rfl (lv_at hl 0 rfl) ?_
        refine lv_iload_n hx hb dX9_copy_11 rfl (lv_at hl 2 rfl) ?_
        refine va_iald (D := D) hx hb hK hP 15 0 mAr15 rfl h.1 dX9_copy_12 ?_
        have h := h.2
        refine gAst (D := D) hx hb hK hP (mD hq) hS 24 0 mAr24 rfl h.1 dX9_copy_13 (mSA24 _) (fun H locs hP hS => ?_)
        obtain ⟨F2, eF2⟩ : ∃ z : Nat → Nat → Int32, z = upF F 24 (upd (F 24) (x2).toNatClampNeg (F 15 (x2).toNatClampNeg)) := ⟨_, rfl⟩
        rw [← eF2] at hP
        have h := h.2 F2 eF2
        refine lv_iinc (v := (x2 + (1 : Int32))) (lv' := [(2, .int (x2 + (1 : Int32))), (0, .ref (q 15)), (1, .ref (q 24))]) hx hb dX9_copy_14 hl (k := 2) rfl rfl (by decide) rfl (fun ls hl => ?_)
        refine lv_goto (tgt := 2) hx hb dX9_copy_17 (by decide) ?_
        exact ih  _ (x2 + (1 : Int32)) I F2 hs _ _ _  hP hS (lv_sub hl [1, 2, 0] rfl) h K
  refine lv_iconst (v := (0 : Int32)) hx hb dX9_copy_0 (by decide) ?_
  refine lv_istore_n (lv' := [(2, .int (0 : Int32)), (0, .ref (q 15)), (1, .ref (q 24))]) hx hb dX9_copy_1 rfl hl (by decide) rfl (fun ls hl => ?_)
  obtain ⟨n, h⟩ := h
  refine L2 n  _ (0 : Int32) I F hs _ _ _  hP hS (lv_sub hl [1, 2, 0] rfl) h (fun y3 I4 F5 hs6 H locs ls  hP hS hl h => ?_)
  exact hret (I4, F5, hs6) _ _ _ _ dX9_copy_20 hP hS h
def w_X9_copy_22_25_B2  (k again : Int32 → (Nat → Int32) → (Nat → Nat → Int32) → Int64 → Prop) (x2 : Int32) (I : Nat → Int32) (F : Nat → Nat → Int32) (hs : Int64) : Prop :=
  (((18 : Int32) ≤ x2 → k x2 I F hs) ∧ (¬ (18 : Int32) ≤ x2 → vp_in x2 18 ∧ vp_in x2 18 ∧ ∀ F2 : Nat → Nat → Int32, F2 = upF F 25 (upd (F 25) (x2).toNatClampNeg (F 22 (x2).toNatClampNeg)) → again (x2 + (1 : Int32)) I F2 hs))
def w_X9_copy_22_25  (I : Nat → Int32) (F : Nat → Nat → Int32) (hs : Int64) (post : (Nat → Int32) → (Nat → Nat → Int32) → Int64 → Prop) : Prop :=
  gL (fun ag v => w_X9_copy_22_25_B2  (fun (y3 : Int32) (I4 : Nat → Int32) (F5 : Nat → Nat → Int32) (hs6 : Int64) => post I4 F5 hs6) (fun b0 b1 b2 b3 => ag (b0, b1, b2, b3)) v.1 v.2.1 v.2.2.1 v.2.2.2) ((0 : Int32), I, F, hs)
set_option maxHeartbeats 4000000 in
set_option maxRecDepth 100000 in
theorem c_X9_copy_22_25 (l : Launch) (D : va_G) (q : Nat → Nat) (cI cO : ClassId) (hq : mOk q)   (I : Nat → Int32) (F : Nat → Nat → Int32) (hs : Int64) (post : (Nat → Int32) → (Nat → Nat → Int32) → Int64 → Prop) (h : w_X9_copy_22_25  I F hs post) : Met l yX9_copy wsX9_copy ({ frames := 0, cells := 0, slots := 0, locals := 0 } : Room) (gPre D (mTys cI) (mW q cI cO I F hs) mEnv [.ref (q 22), .ref (q 25)]) (va_Qv (fun (u : mS) => post u.1 u.2.1 u.2.2) (gB D (fun u : mS => mW q cI cO u.1 u.2.1 u.2.2)) (mA q)) 0 0 (mA q) := by
  refine gMetV (by decide) rfl (Nat.le_of_ble_eq_true rfl) ?_
  intro p e R s m args below meth c Q ls hR hx hb hml hown hts hK hE hP hl hret
  have hRf : 0 ≤ R.frames := by subst hR; exact Nat.le_refl _
  have hRl : 0 ≤ R.locals := by subst hR; exact Nat.le_refl _
  have hown : s.vm.findClass RX9 = some m.cls := hown
  have hl : lv_has ls 3 [(0, .ref (q 22)), (1, .ref (q 25))] := hl
  have hS : va_S (mA q) s.heap s.heap [] := va_S.rf
  have hP : va_P D vwCl (mW q cI cO I F hs) s.heap := hP
  have L2 : ∀ (n : Nat)  (k : Int32 → (Nat → Int32) → (Nat → Nat → Int32) → Int64 → Prop) (x2 : Int32) (I : Nat → Int32) (F : Nat → Nat → Int32) (hs : Int64) (H : Heap) (locs : List Loc) (ls : Array Slot), va_P D vwCl (mW q cI cO I F hs) H → va_S (mA q) s.heap H locs → lv_has ls 3 [(0, .ref (q 22)), (1, .ref (q 25)), (2, .int x2)] → gLN (fun ag v => w_X9_copy_22_25_B2  k (fun b0 b1 b2 b3 => ag (b0, b1, b2, b3)) v.1 v.2.1 v.2.2.1 v.2.2.2) n (x2, I, F, hs) → (∀ (x2 : Int32) (I : Nat → Int32) (F : Nat → Nat → Int32) (hs : Int64) (H : Heap) (locs : List Loc) (ls : Array Slot), va_P D vwCl (mW q cI cO I F hs) H → va_S (mA q) s.heap H locs → lv_has ls 3 [] → k x2 I F hs → W p l e R s m args below meth c H locs 0 0 Q (F0 m 20 ls [])) → W p l e R s m args below meth c H locs 0 0 Q (F0 m 2 ls []) := by
    intro n
    induction n with
    | zero =>
      intro  k x2 I F hs H locs ls  hP hS hl h K
      exact False.elim h
    | succ n ih =>
      intro  k x2 I F hs H locs ls  hP hS hl h K
      have h : w_X9_copy_22_25_B2  k (fun b0 b1 b2 b3 => gLN (fun ag v => w_X9_copy_22_25_B2  k (fun b0 b1 b2 b3 => ag (b0, b1, b2, b3)) v.1 v.2.1 v.2.2.1 v.2.2.2) n (b0, b1, b2, b3)) x2 I F hs := h
      refine lv_iload_n hx hb dX9_copy_2 rfl (lv_at hl 2 rfl) ?_
      refine lv_aload_n hx hb dX9_copy_3 rfl (lv_at hl 0 rfl) ?_
      refine va_alen (D := D) (v := (18 : Int32)) hx hb hK hP 22 0 mAr22 rfl rfl dX9_copy_4 ?_
      refine lv_icmp_ge (tgt := 20) hx hb dX9_copy_5 (by decide) (fun c1 => ?_) (fun c1 => ?_)
      · have h := h.1 c1
        exact K x2 I F hs _ _ _  hP hS (lv_sub hl [] rfl) h
      · have h := h.2 c1
        refine lv_aload_n hx hb dX9_copy_8 rfl (lv_at hl 1 rfl) ?_
        refine lv_iload_n hx hb dX9_copy_9 rfl (lv_at hl 2 rfl) ?_
        refine lv_aload_n hx hb dX9_copy_10 rfl (lv_at hl 0 rfl) ?_
        refine lv_iload_n hx hb dX9_copy_11 rfl (lv_at hl 2 rfl) ?_
        refine va_iald (D := D) hx hb hK hP 22 0 mAr22 rfl h.1 dX9_copy_12 ?_
        have h := h.2
        refine gAst (D := D) hx hb hK hP (mD hq) hS 25 0 mAr25 rfl h.1 dX9_copy_13 (mSA25 _) (fun H locs hP hS => ?_)
        obtain ⟨F2, eF2⟩ : ∃ z : Nat → Nat → Int32, z = upF F 25 (upd (F 25) (x2).toNatClampNeg (F 22 (x2).toNatClampNeg)) := ⟨_, rfl⟩
        rw [← eF2] at hP
        have h := h.2 F2 eF2
        refine lv_iinc (v := (x2 + (1 : Int32))) (lv' := [(2, .int (x2 + (1 : Int32))), (0, .ref (q 22)), (1, .ref (q 25))]) hx hb dX9_copy_14 hl (k := 2) rfl rfl (by decide) rfl (fun ls hl => ?_)
        refine lv_goto (tgt := 2) hx hb dX9_copy_17 (by decide) ?_
        exact ih  _ (x2 + (1 : Int32)) I F2 hs _ _ _  hP hS (lv_sub hl [1, 2, 0] rfl) h K
  refine lv_iconst (v := (0 : Int32)) hx hb dX9_copy_0 (by decide) ?_
  refine lv_istore_n (lv' := [(2, .int (0 : Int32)), (0, .ref (q 22)), (1, .ref (q 25))]) hx hb dX9_copy_1 rfl hl (by decide) rfl (fun ls hl => ?_)
  obtain ⟨n, h⟩ := h
  refine L2 n  _ (0 : Int32) I F hs _ _ _  hP hS (lv_sub hl [1, 2, 0] rfl) h (fun y3 I4 F5 hs6 H locs ls  hP hS hl h => ?_)
  exact hret (I4, F5, hs6) _ _ _ _ dX9_copy_20 hP hS h
def w_X9_image  (I : Nat → Int32) (F : Nat → Nat → Int32) (hs : Int64) (post : Int32 → (Nat → Int32) → (Nat → Nat → Int32) → Int64 → Prop) : Prop :=
  w_X9_lacks I F hs (fun (r1 : Int32) => ((r1 = 0 → w_X9_copy_14_23 I F hs (fun (I3 : Nat → Int32) (F4 : Nat → Nat → Int32) (hs5 : Int64) => w_X9_copy_15_24 I3 F4 hs5 (fun (I6 : Nat → Int32) (F7 : Nat → Nat → Int32) (hs8 : Int64) => w_X9_copy_22_25 I6 F7 hs8 (fun (I9 : Nat → Int32) (F10 : Nat → Nat → Int32) (hs11 : Int64) => ∀ I12 : Nat → Int32, I12 = upd I9 15 (I9 3) → ∀ I13 : Nat → Int32, I13 = upd I12 16 (I12 4) → ∀ I14 : Nat → Int32, I14 = upd I13 17 (I13 11) → ∀ I15 : Nat → Int32, I15 = upd I14 14 (I14 5) → post (I15 3) I15 F10 hs11)))) ∧ (¬ r1 = 0 → post (-103 : Int32) I F hs)))
set_option maxHeartbeats 4000000 in
set_option maxRecDepth 100000 in
theorem c_X9_image (l : Launch) (D : va_G) (q : Nat → Nat) (cI cO : ClassId) (hq : mOk q)   (I : Nat → Int32) (F : Nat → Nat → Int32) (hs : Int64) (post : Int32 → (Nat → Int32) → (Nat → Nat → Int32) → Int64 → Prop) (h : w_X9_image  I F hs post) : Met l yX9_image wsX9_image ({ frames := 1, cells := 0, slots := 0, locals := 22 } : Room) (gPre D (mTys cI) (mW q cI cO I F hs) mEnv [.ref (q 0)]) (va_Qi (fun r (u : mS) => post r u.1 u.2.1 u.2.2) (gB D (fun u : mS => mW q cI cO u.1 u.2.1 u.2.2)) (mA q)) 0 0 (mA q) := by
  refine gMetI (by decide) rfl (Nat.le_of_ble_eq_true rfl) ?_
  intro p e R s m args below meth c Q ls hR hx hb hml hown hts hK hE hP hl hret
  have hRf : 1 ≤ R.frames := by subst hR; exact Nat.le_refl _
  have hRl : 22 ≤ R.locals := by subst hR; exact Nat.le_refl _
  have hown : s.vm.findClass RX9 = some m.cls := hown
  have hl : lv_has ls 1 [(0, .ref (q 0))] := hl
  have hS : va_S (mA q) s.heap s.heap [] := va_S.rf
  have hP : va_P D vwCl (mW q cI cO I F hs) s.heap := hP
  refine lv_aload_n hx hb dX9_image_0 rfl (lv_at hl 0 rfl) ?_
  refine gCallI (D := D) (va_runV (As := []) (rest := []) ⟨hx, hb, hml, hown, hts⟩ (c_X9_lacks l D q cI cO hq   I F hs _ h) (cwV 0 hts gX9_image_X9_lacks rfl rfl rfl (by decide +kernel) ⟨Nat.le_trans (Nat.le_of_ble_eq_true rfl) hRf, Nat.le_trans (Nat.le_of_ble_eq_true rfl) hRl⟩) (gPreV (ci := 9) (q0 := 0) mEok hE hK hP hS rfl mAt0) rfl rfl hl.1 rfl (lv_room (Nat.le_of_ble_eq_true rfl)) dX9_image_1 ⟨Nat.zero_le _, Nat.zero_le _⟩) hS (fun r1 _ H locs hP hS h => ?_)
  have hP : va_P D vwCl (mW q cI cO I F hs) H := hP
  refine lv_if_eq (tgt := 10) hx hb dX9_image_4 (by decide) (fun c2 => ?_) (fun c2 => ?_)
  · have h := h.1 c2
    refine lv_aload_n hx hb dX9_image_10 rfl (lv_at hl 0 rfl) ?_
    refine va_get (D := D) (ci := 9) (v := .ref (q 14)) (C := RX9) (T := TX9) (N := 44) hx hb hts (fun _ h9 => List.mem_cons_of_mem _ (List.mem_append_right _ h9)) hown hK hP 0 mAt0 rfl 19 (by decide) (hts _ (List.mem_of_getElem? (l := wsX9_image) (i := 1) rfl)) (fun _ h9 => h9) rfl dX9_image_11 ?_
    refine lv_aload_n hx hb dX9_image_14 rfl (lv_at hl 0 rfl) ?_
    refine va_get (D := D) (ci := 9) (v := .ref (q 23)) (C := RX9) (T := TX9) (N := 44) hx hb hts (fun _ h9 => List.mem_cons_of_mem _ (List.mem_append_right _ h9)) hown hK hP 0 mAt0 rfl 40 (by decide) (hts _ (List.mem_of_getElem? (l := wsX9_image) (i := 2) rfl)) (fun _ h9 => h9) rfl dX9_image_15 ?_
    refine gCallV (D := D) (va_runS (As := [.ref (q 14), .ref (q 23)]) (rest := []) ⟨hx, hb, hml, hown, hts⟩ (c_X9_copy_14_23 l D q cI cO hq   I F hs _ h) (va_cwS 2 hts gX9_image_X9_copy rfl rfl rfl (by decide +kernel) ⟨Nat.le_trans (Nat.le_of_ble_eq_true rfl) hRf, Nat.le_trans (Nat.le_of_ble_eq_true rfl) hRl⟩) (gPreS mEok hE hK hP hS) rfl rfl hl.1 rfl (lv_room (Nat.le_of_ble_eq_true rfl)) dX9_image_18 ⟨Nat.zero_le _, Nat.zero_le _⟩) hS (fun u H locs hP hS h => ?_)
    obtain ⟨I3, F4, hs5⟩ := u
    have hP : va_P D vwCl (mW q cI cO I3 F4 hs5) H := hP
    refine lv_aload_n hx hb dX9_image_21 rfl (lv_at hl 0 rfl) ?_
    refine va_get (D := D) (ci := 9) (v := .ref (q 15)) (C := RX9) (T := TX9) (N := 44) hx hb hts (fun _ h9 => List.mem_cons_of_mem _ (List.mem_append_right _ h9)) hown hK hP 0 mAt0 rfl 20 (by decide) (hts _ (List.mem_of_getElem? (l := wsX9_image) (i := 3) rfl)) (fun _ h9 => h9) rfl dX9_image_22 ?_
    refine lv_aload_n hx hb dX9_image_25 rfl (lv_at hl 0 rfl) ?_
    refine va_get (D := D) (ci := 9) (v := .ref (q 24)) (C := RX9) (T := TX9) (N := 44) hx hb hts (fun _ h9 => List.mem_cons_of_mem _ (List.mem_append_right _ h9)) hown hK hP 0 mAt0 rfl 41 (by decide) (hts _ (List.mem_of_getElem? (l := wsX9_image) (i := 4) rfl)) (fun _ h9 => h9) rfl dX9_image_26 ?_
    refine gCallV (D := D) (va_runS (As := [.ref (q 15), .ref (q 24)]) (rest := []) ⟨hx, hb, hml, hown, hts⟩ (c_X9_copy_15_24 l D q cI cO hq   I3 F4 hs5 _ h) (va_cwS 2 hts gX9_image_X9_copy rfl rfl rfl (by decide +kernel) ⟨Nat.le_trans (Nat.le_of_ble_eq_true rfl) hRf, Nat.le_trans (Nat.le_of_ble_eq_true rfl) hRl⟩) (gPreS mEok hE hK hP hS) rfl rfl hl.1 rfl (lv_room (Nat.le_of_ble_eq_true rfl)) dX9_image_29 ⟨Nat.zero_le _, Nat.zero_le _⟩) hS (fun u H locs hP hS h => ?_)
    obtain ⟨I6, F7, hs8⟩ := u
    have hP : va_P D vwCl (mW q cI cO I6 F7 hs8) H := hP
    refine lv_aload_n hx hb dX9_image_32 rfl (lv_at hl 0 rfl) ?_
    refine va_get (D := D) (ci := 9) (v := .ref (q 22)) (C := RX9) (T := TX9) (N := 44) hx hb hts (fun _ h9 => List.mem_cons_of_mem _ (List.mem_append_right _ h9)) hown hK hP 0 mAt0 rfl 33 (by decide) (hts _ (List.mem_of_getElem? (l := wsX9_image) (i := 5) rfl)) (fun _ h9 => h9) rfl dX9_image_33 ?_
    refine lv_aload_n hx hb dX9_image_36 rfl (lv_at hl 0 rfl) ?_
    refine va_get (D := D) (ci := 9) (v := .ref (q 25)) (C := RX9) (T := TX9) (N := 44) hx hb hts (fun _ h9 => List.mem_cons_of_mem _ (List.mem_append_right _ h9)) hown hK hP 0 mAt0 rfl 42 (by decide) (hts _ (List.mem_of_getElem? (l := wsX9_image) (i := 6) rfl)) (fun _ h9 => h9) rfl dX9_image_37 ?_
    refine gCallV (D := D) (va_runS (As := [.ref (q 22), .ref (q 25)]) (rest := []) ⟨hx, hb, hml, hown, hts⟩ (c_X9_copy_22_25 l D q cI cO hq   I6 F7 hs8 _ h) (va_cwS 2 hts gX9_image_X9_copy rfl rfl rfl (by decide +kernel) ⟨Nat.le_trans (Nat.le_of_ble_eq_true rfl) hRf, Nat.le_trans (Nat.le_of_ble_eq_true rfl) hRl⟩) (gPreS mEok hE hK hP hS) rfl rfl hl.1 rfl (lv_room (Nat.le_of_ble_eq_true rfl)) dX9_image_40 ⟨Nat.zero_le _, Nat.zero_le _⟩) hS (fun u H locs hP hS h => ?_)
    obtain ⟨I9, F10, hs11⟩ := u
    have hP : va_P D vwCl (mW q cI cO I9 F10 hs11) H := hP
    refine lv_aload_n hx hb dX9_image_43 rfl (lv_at hl 0 rfl) ?_
    refine lv_aload_n hx hb dX9_image_44 rfl (lv_at hl 0 rfl) ?_
    refine va_get (D := D) (ci := 9) (v := .int (I9 3)) (C := RX9) (T := TX9) (N := 44) hx hb hts (fun _ h9 => List.mem_cons_of_mem _ (List.mem_append_right _ h9)) hown hK hP 0 mAt0 rfl 16 (by decide) (hts _ (List.mem_of_getElem? (l := wsX9_image) (i := 7) rfl)) (fun _ h9 => h9) rfl dX9_image_45 ?_
    refine gPut (D := D) (ci := 9) (ty := .int) (C := RX9) (T := TX9) (N := 44) hx hb hts (fun _ h9 => List.mem_cons_of_mem _ (List.mem_append_right _ h9)) tyX9 tyX9_ok nmX9 hown hK hP (mD hq) hS 0 mAt0 rfl 37 (by decide) (hts _ (List.mem_of_getElem? (l := wsX9_image) (i := 8) rfl)) (fun _ h9 => h9) rfl (by decide +kernel) rfl rfl (Nat.le_of_ble_eq_true rfl) dX9_image_48 (mSet15 (I9 3)) (fun H locs hP hS => ?_)
    obtain ⟨I12, eI12⟩ : ∃ z : Nat → Int32, z = upd I9 15 (I9 3) := ⟨_, rfl⟩
    rw [← eI12] at hP
    have h := h I12 eI12
    refine lv_aload_n hx hb dX9_image_51 rfl (lv_at hl 0 rfl) ?_
    refine lv_aload_n hx hb dX9_image_52 rfl (lv_at hl 0 rfl) ?_
    refine va_get (D := D) (ci := 9) (v := .int (I12 4)) (C := RX9) (T := TX9) (N := 44) hx hb hts (fun _ h9 => List.mem_cons_of_mem _ (List.mem_append_right _ h9)) hown hK hP 0 mAt0 rfl 17 (by decide) (hts _ (List.mem_of_getElem? (l := wsX9_image) (i := 9) rfl)) (fun _ h9 => h9) rfl dX9_image_53 ?_
    refine gPut (D := D) (ci := 9) (ty := .int) (C := RX9) (T := TX9) (N := 44) hx hb hts (fun _ h9 => List.mem_cons_of_mem _ (List.mem_append_right _ h9)) tyX9 tyX9_ok nmX9 hown hK hP (mD hq) hS 0 mAt0 rfl 38 (by decide) (hts _ (List.mem_of_getElem? (l := wsX9_image) (i := 10) rfl)) (fun _ h9 => h9) rfl (by decide +kernel) rfl rfl (Nat.le_of_ble_eq_true rfl) dX9_image_56 (mSet16 (I12 4)) (fun H locs hP hS => ?_)
    obtain ⟨I13, eI13⟩ : ∃ z : Nat → Int32, z = upd I12 16 (I12 4) := ⟨_, rfl⟩
    rw [← eI13] at hP
    have h := h I13 eI13
    refine lv_aload_n hx hb dX9_image_59 rfl (lv_at hl 0 rfl) ?_
    refine lv_aload_n hx hb dX9_image_60 rfl (lv_at hl 0 rfl) ?_
    refine va_get (D := D) (ci := 9) (v := .int (I13 11)) (C := RX9) (T := TX9) (N := 44) hx hb hts (fun _ h9 => List.mem_cons_of_mem _ (List.mem_append_right _ h9)) hown hK hP 0 mAt0 rfl 32 (by decide) (hts _ (List.mem_of_getElem? (l := wsX9_image) (i := 11) rfl)) (fun _ h9 => h9) rfl dX9_image_61 ?_
    refine gPut (D := D) (ci := 9) (ty := .int) (C := RX9) (T := TX9) (N := 44) hx hb hts (fun _ h9 => List.mem_cons_of_mem _ (List.mem_append_right _ h9)) tyX9 tyX9_ok nmX9 hown hK hP (mD hq) hS 0 mAt0 rfl 39 (by decide) (hts _ (List.mem_of_getElem? (l := wsX9_image) (i := 12) rfl)) (fun _ h9 => h9) rfl (by decide +kernel) rfl rfl (Nat.le_of_ble_eq_true rfl) dX9_image_64 (mSet17 (I13 11)) (fun H locs hP hS => ?_)
    obtain ⟨I14, eI14⟩ : ∃ z : Nat → Int32, z = upd I13 17 (I13 11) := ⟨_, rfl⟩
    rw [← eI14] at hP
    have h := h I14 eI14
    refine lv_aload_n hx hb dX9_image_67 rfl (lv_at hl 0 rfl) ?_
    refine lv_aload_n hx hb dX9_image_68 rfl (lv_at hl 0 rfl) ?_
    refine va_get (D := D) (ci := 9) (v := .int (I14 5)) (C := RX9) (T := TX9) (N := 44) hx hb hts (fun _ h9 => List.mem_cons_of_mem _ (List.mem_append_right _ h9)) hown hK hP 0 mAt0 rfl 18 (by decide) (hts _ (List.mem_of_getElem? (l := wsX9_image) (i := 13) rfl)) (fun _ h9 => h9) rfl dX9_image_69 ?_
    refine gPut (D := D) (ci := 9) (ty := .int) (C := RX9) (T := TX9) (N := 44) hx hb hts (fun _ h9 => List.mem_cons_of_mem _ (List.mem_append_right _ h9)) tyX9 tyX9_ok nmX9 hown hK hP (mD hq) hS 0 mAt0 rfl 36 (by decide) (hts _ (List.mem_of_getElem? (l := wsX9_image) (i := 14) rfl)) (fun _ h9 => h9) rfl (by decide +kernel) rfl rfl (Nat.le_of_ble_eq_true rfl) dX9_image_72 (mSet14 (I14 5)) (fun H locs hP hS => ?_)
    obtain ⟨I15, eI15⟩ : ∃ z : Nat → Int32, z = upd I14 14 (I14 5) := ⟨_, rfl⟩
    rw [← eI15] at hP
    have h := h I15 eI15
    refine lv_aload_n hx hb dX9_image_75 rfl (lv_at hl 0 rfl) ?_
    refine va_get (D := D) (ci := 9) (v := .int (I15 3)) (C := RX9) (T := TX9) (N := 44) hx hb hts (fun _ h9 => List.mem_cons_of_mem _ (List.mem_append_right _ h9)) hown hK hP 0 mAt0 rfl 16 (by decide) (hts _ (List.mem_of_getElem? (l := wsX9_image) (i := 7) rfl)) (fun _ h9 => h9) rfl dX9_image_76 ?_
    exact hret (I15 3) (I15, F10, hs11) _ _ _ _ dX9_image_79 hP hS h
  · have h := h.2 c2
    refine lv_bipush (v := (-103 : Int32)) hx hb dX9_image_7 (by decide) ?_
    exact hret (-103 : Int32) (I, F, hs) _ _ _ _ dX9_image_9 hP hS h
def w_X9_copy_23_14_B2  (k again : Int32 → (Nat → Int32) → (Nat → Nat → Int32) → Int64 → Prop) (x2 : Int32) (I : Nat → Int32) (F : Nat → Nat → Int32) (hs : Int64) : Prop :=
  (((8 : Int32) ≤ x2 → k x2 I F hs) ∧ (¬ (8 : Int32) ≤ x2 → vp_in x2 8 ∧ vp_in x2 8 ∧ ∀ F2 : Nat → Nat → Int32, F2 = upF F 14 (upd (F 14) (x2).toNatClampNeg (F 23 (x2).toNatClampNeg)) → again (x2 + (1 : Int32)) I F2 hs))
def w_X9_copy_23_14  (I : Nat → Int32) (F : Nat → Nat → Int32) (hs : Int64) (post : (Nat → Int32) → (Nat → Nat → Int32) → Int64 → Prop) : Prop :=
  gL (fun ag v => w_X9_copy_23_14_B2  (fun (y3 : Int32) (I4 : Nat → Int32) (F5 : Nat → Nat → Int32) (hs6 : Int64) => post I4 F5 hs6) (fun b0 b1 b2 b3 => ag (b0, b1, b2, b3)) v.1 v.2.1 v.2.2.1 v.2.2.2) ((0 : Int32), I, F, hs)
set_option maxHeartbeats 4000000 in
set_option maxRecDepth 100000 in
theorem c_X9_copy_23_14 (l : Launch) (D : va_G) (q : Nat → Nat) (cI cO : ClassId) (hq : mOk q)   (I : Nat → Int32) (F : Nat → Nat → Int32) (hs : Int64) (post : (Nat → Int32) → (Nat → Nat → Int32) → Int64 → Prop) (h : w_X9_copy_23_14  I F hs post) : Met l yX9_copy wsX9_copy ({ frames := 0, cells := 0, slots := 0, locals := 0 } : Room) (gPre D (mTys cI) (mW q cI cO I F hs) mEnv [.ref (q 23), .ref (q 14)]) (va_Qv (fun (u : mS) => post u.1 u.2.1 u.2.2) (gB D (fun u : mS => mW q cI cO u.1 u.2.1 u.2.2)) (mA q)) 0 0 (mA q) := by
  refine gMetV (by decide) rfl (Nat.le_of_ble_eq_true rfl) ?_
  intro p e R s m args below meth c Q ls hR hx hb hml hown hts hK hE hP hl hret
  have hRf : 0 ≤ R.frames := by subst hR; exact Nat.le_refl _
  have hRl : 0 ≤ R.locals := by subst hR; exact Nat.le_refl _
  have hown : s.vm.findClass RX9 = some m.cls := hown
  have hl : lv_has ls 3 [(0, .ref (q 23)), (1, .ref (q 14))] := hl
  have hS : va_S (mA q) s.heap s.heap [] := va_S.rf
  have hP : va_P D vwCl (mW q cI cO I F hs) s.heap := hP
  have L2 : ∀ (n : Nat)  (k : Int32 → (Nat → Int32) → (Nat → Nat → Int32) → Int64 → Prop) (x2 : Int32) (I : Nat → Int32) (F : Nat → Nat → Int32) (hs : Int64) (H : Heap) (locs : List Loc) (ls : Array Slot), va_P D vwCl (mW q cI cO I F hs) H → va_S (mA q) s.heap H locs → lv_has ls 3 [(0, .ref (q 23)), (1, .ref (q 14)), (2, .int x2)] → gLN (fun ag v => w_X9_copy_23_14_B2  k (fun b0 b1 b2 b3 => ag (b0, b1, b2, b3)) v.1 v.2.1 v.2.2.1 v.2.2.2) n (x2, I, F, hs) → (∀ (x2 : Int32) (I : Nat → Int32) (F : Nat → Nat → Int32) (hs : Int64) (H : Heap) (locs : List Loc) (ls : Array Slot), va_P D vwCl (mW q cI cO I F hs) H → va_S (mA q) s.heap H locs → lv_has ls 3 [] → k x2 I F hs → W p l e R s m args below meth c H locs 0 0 Q (F0 m 20 ls [])) → W p l e R s m args below meth c H locs 0 0 Q (F0 m 2 ls []) := by
    intro n
    induction n with
    | zero =>
      intro  k x2 I F hs H locs ls  hP hS hl h K
      exact False.elim h
    | succ n ih =>
      intro  k x2 I F hs H locs ls  hP hS hl h K
      have h : w_X9_copy_23_14_B2  k (fun b0 b1 b2 b3 => gLN (fun ag v => w_X9_copy_23_14_B2  k (fun b0 b1 b2 b3 => ag (b0, b1, b2, b3)) v.1 v.2.1 v.2.2.1 v.2.2.2) n (b0, b1, b2, b3)) x2 I F hs := h
      refine lv_iload_n hx hb dX9_copy_2 rfl (lv_at hl 2 rfl) ?_
      refine lv_aload_n hx hb dX9_copy_3 rfl (lv_at hl 0 rfl) ?_
      refine va_alen (D := D) (v := (8 : Int32)) hx hb hK hP 23 0 mAr23 rfl rfl dX9_copy_4 ?_
      refine lv_icmp_ge (tgt := 20) hx hb dX9_copy_5 (by decide) (fun c1 => ?_) (fun c1 => ?_)
      · have h := h.1 c1
        exact K x2 I F hs _ _ _  hP hS (lv_sub hl [] rfl) h
      · have h := h.2 c1
        refine lv_aload_n hx hb dX9_copy_8 rfl (lv_at hl 1 rfl) ?_
        refine lv_iload_n hx hb dX9_copy_9 rfl (lv_at hl 2 rfl) ?_
        refine lv_aload_n hx hb dX9_copy_10 rfl (lv_at hl 0 rfl) ?_
        refine lv_iload_n hx hb dX9_copy_11 rfl (lv_at hl 2 rfl) ?_
        refine va_iald (D := D) hx hb hK hP 23 0 mAr23 rfl h.1 dX9_copy_12 ?_
        have h := h.2
        refine gAst (D := D) hx hb hK hP (mD hq) hS 14 0 mAr14 rfl h.1 dX9_copy_13 (mSA14 _) (fun H locs hP hS => ?_)
        obtain ⟨F2, eF2⟩ : ∃ z : Nat → Nat → Int32, z = upF F 14 (upd (F 14) (x2).toNatClampNeg (F 23 (x2).toNatClampNeg)) := ⟨_, rfl⟩
        rw [← eF2] at hP
        have h := h.2 F2 eF2
        refine lv_iinc (v := (x2 + (1 : Int32))) (lv' := [(2, .int (x2 + (1 : Int32))), (0, .ref (q 23)), (1, .ref (q 14))]) hx hb dX9_copy_14 hl (k := 2) rfl rfl (by decide) rfl (fun ls hl => ?_)
        refine lv_goto (tgt := 2) hx hb dX9_copy_17 (by decide) ?_
        exact ih  _ (x2 + (1 : Int32)) I F2 hs _ _ _  hP hS (lv_sub hl [1, 2, 0] rfl) h K
  refine lv_iconst (v := (0 : Int32)) hx hb dX9_copy_0 (by decide) ?_
  refine lv_istore_n (lv' := [(2, .int (0 : Int32)), (0, .ref (q 23)), (1, .ref (q 14))]) hx hb dX9_copy_1 rfl hl (by decide) rfl (fun ls hl => ?_)
  obtain ⟨n, h⟩ := h
  refine L2 n  _ (0 : Int32) I F hs _ _ _  hP hS (lv_sub hl [1, 2, 0] rfl) h (fun y3 I4 F5 hs6 H locs ls  hP hS hl h => ?_)
  exact hret (I4, F5, hs6) _ _ _ _ dX9_copy_20 hP hS h
def w_X9_copy_24_15_B2  (k again : Int32 → (Nat → Int32) → (Nat → Nat → Int32) → Int64 → Prop) (x2 : Int32) (I : Nat → Int32) (F : Nat → Nat → Int32) (hs : Int64) : Prop :=
  (((8 : Int32) ≤ x2 → k x2 I F hs) ∧ (¬ (8 : Int32) ≤ x2 → vp_in x2 8 ∧ vp_in x2 8 ∧ ∀ F2 : Nat → Nat → Int32, F2 = upF F 15 (upd (F 15) (x2).toNatClampNeg (F 24 (x2).toNatClampNeg)) → again (x2 + (1 : Int32)) I F2 hs))
def w_X9_copy_24_15  (I : Nat → Int32) (F : Nat → Nat → Int32) (hs : Int64) (post : (Nat → Int32) → (Nat → Nat → Int32) → Int64 → Prop) : Prop :=
  gL (fun ag v => w_X9_copy_24_15_B2  (fun (y3 : Int32) (I4 : Nat → Int32) (F5 : Nat → Nat → Int32) (hs6 : Int64) => post I4 F5 hs6) (fun b0 b1 b2 b3 => ag (b0, b1, b2, b3)) v.1 v.2.1 v.2.2.1 v.2.2.2) ((0 : Int32), I, F, hs)
set_option maxHeartbeats 4000000 in
set_option maxRecDepth 100000 in
theorem c_X9_copy_24_15 (l : Launch) (D : va_G) (q : Nat → Nat) (cI cO : ClassId) (hq : mOk q)   (I : Nat → Int32) (F : Nat → Nat → Int32) (hs : Int64) (post : (Nat → Int32) → (Nat → Nat → Int32) → Int64 → Prop) (h : w_X9_copy_24_15  I F hs post) : Met l yX9_copy wsX9_copy ({ frames := 0, cells := 0, slots := 0, locals := 0 } : Room) (gPre D (mTys cI) (mW q cI cO I F hs) mEnv [.ref (q 24), .ref (q 15)]) (va_Qv (fun (u : mS) => post u.1 u.2.1 u.2.2) (gB D (fun u : mS => mW q cI cO u.1 u.2.1 u.2.2)) (mA q)) 0 0 (mA q) := by
  refine gMetV (by decide) rfl (Nat.le_of_ble_eq_true rfl) ?_
  intro p e R s m args below meth c Q ls hR hx hb hml hown hts hK hE hP hl hret
  have hRf : 0 ≤ R.frames := by subst hR; exact Nat.le_refl _
  have hRl : 0 ≤ R.locals := by subst hR; exact Nat.le_refl _
  have hown : s.vm.findClass RX9 = some m.cls := hown
  have hl : lv_has ls 3 [(0, .ref (q 24)), (1, .ref (q 15))] := hl
  have hS : va_S (mA q) s.heap s.heap [] := va_S.rf
  have hP : va_P D vwCl (mW q cI cO I F hs) s.heap := hP
  have L2 : ∀ (n : Nat)  (k : Int32 → (Nat → Int32) → (Nat → Nat → Int32) → Int64 → Prop) (x2 : Int32) (I : Nat → Int32) (F : Nat → Nat → Int32) (hs : Int64) (H : Heap) (locs : List Loc) (ls : Array Slot), va_P D vwCl (mW q cI cO I F hs) H → va_S (mA q) s.heap H locs → lv_has ls 3 [(0, .ref (q 24)), (1, .ref (q 15)), (2, .int x2)] → gLN (fun ag v => w_X9_copy_24_15_B2  k (fun b0 b1 b2 b3 => ag (b0, b1, b2, b3)) v.1 v.2.1 v.2.2.1 v.2.2.2) n (x2, I, F, hs) → (∀ (x2 : Int32) (I : Nat → Int32) (F : Nat → Nat → Int32) (hs : Int64) (H : Heap) (locs : List Loc) (ls : Array Slot), va_P D vwCl (mW q cI cO I F hs) H → va_S (mA q) s.heap H locs → lv_has ls 3 [] → k x2 I F hs → W p l e R s m args below meth c H locs 0 0 Q (F0 m 20 ls [])) → W p l e R s m args below meth c H locs 0 0 Q (F0 m 2 ls []) := by
    intro n
    induction n with
    | zero =>
      intro  k x2 I F hs H locs ls  hP hS hl h K
      exact False.elim h
    | succ n ih =>
      intro  k x2 I F hs H locs ls  hP hS hl h K
      have h : w_X9_copy_24_15_B2  k (fun b0 b1 b2 b3 => gLN (fun ag v => w_X9_copy_24_15_B2  k (fun b0 b1 b2 b3 => ag (b0, b1, b2, b3)) v.1 v.2.1 v.2.2.1 v.2.2.2) n (b0, b1, b2, b3)) x2 I F hs := h
      refine lv_iload_n hx hb dX9_copy_2 rfl (lv_at hl 2 rfl) ?_
      refine lv_aload_n hx hb dX9_copy_3 rfl (lv_at hl 0 rfl) ?_
      refine va_alen (D := D) (v := (8 : Int32)) hx hb hK hP 24 0 mAr24 rfl rfl dX9_copy_4 ?_
      refine lv_icmp_ge (tgt := 20) hx hb dX9_copy_5 (by decide) (fun c1 => ?_) (fun c1 => ?_)
      · have h := h.1 c1
        exact K x2 I F hs _ _ _  hP hS (lv_sub hl [] rfl) h
      · have h := h.2 c1
        refine lv_aload_n hx hb dX9_copy_8 rfl (lv_at hl 1 rfl) ?_
        refine lv_iload_n hx hb dX9_copy_9 rfl (lv_at hl 2 rfl) ?_
        refine lv_aload_n hx hb dX9_copy_10 rfl (lv_at hl 0 rfl) ?_
        refine lv_iload_n hx hb dX9_copy_11 rfl (lv_at hl 2 rfl) ?_
        refine va_iald (D := D) hx hb hK hP 24 0 mAr24 rfl h.1 dX9_copy_12 ?_
        have h := h.2
        refine gAst (D := D) hx hb hK hP (mD hq) hS 15 0 mAr15 rfl h.1 dX9_copy_13 (mSA15 _) (fun H locs hP hS => ?_)
        obtain ⟨F2, eF2⟩ : ∃ z : Nat → Nat → Int32, z = upF F 15 (upd (F 15) (x2).toNatClampNeg (F 24 (x2).toNatClampNeg)) := ⟨_, rfl⟩
        rw [← eF2] at hP
        have h := h.2 F2 eF2
        refine lv_iinc (v := (x2 + (1 : Int32))) (lv' := [(2, .int (x2 + (1 : Int32))), (0, .ref (q 24)), (1, .ref (q 15))]) hx hb dX9_copy_14 hl (k := 2) rfl rfl (by decide) rfl (fun ls hl => ?_)
        refine lv_goto (tgt := 2) hx hb dX9_copy_17 (by decide) ?_
        exact ih  _ (x2 + (1 : Int32)) I F2 hs _ _ _  hP hS (lv_sub hl [1, 2, 0] rfl) h K
  refine lv_iconst (v := (0 : Int32)) hx hb dX9_copy_0 (by decide) ?_
  refine lv_istore_n (lv' := [(2, .int (0 : Int32)), (0, .ref (q 24)), (1, .ref (q 15))]) hx hb dX9_copy_1 rfl hl (by decide) rfl (fun ls hl => ?_)
  obtain ⟨n, h⟩ := h
  refine L2 n  _ (0 : Int32) I F hs _ _ _  hP hS (lv_sub hl [1, 2, 0] rfl) h (fun y3 I4 F5 hs6 H locs ls  hP hS hl h => ?_)
  exact hret (I4, F5, hs6) _ _ _ _ dX9_copy_20 hP hS h
def w_X9_copy_25_22_B2  (k again : Int32 → (Nat → Int32) → (Nat → Nat → Int32) → Int64 → Prop) (x2 : Int32) (I : Nat → Int32) (F : Nat → Nat → Int32) (hs : Int64) : Prop :=
  (((18 : Int32) ≤ x2 → k x2 I F hs) ∧ (¬ (18 : Int32) ≤ x2 → vp_in x2 18 ∧ vp_in x2 18 ∧ ∀ F2 : Nat → Nat → Int32, F2 = upF F 22 (upd (F 22) (x2).toNatClampNeg (F 25 (x2).toNatClampNeg)) → again (x2 + (1 : Int32)) I F2 hs))
def w_X9_copy_25_22  (I : Nat → Int32) (F : Nat → Nat → Int32) (hs : Int64) (post : (Nat → Int32) → (Nat → Nat → Int32) → Int64 → Prop) : Prop :=
  gL (fun ag v => w_X9_copy_25_22_B2  (fun (y3 : Int32) (I4 : Nat → Int32) (F5 : Nat → Nat → Int32) (hs6 : Int64) => post I4 F5 hs6) (fun b0 b1 b2 b3 => ag (b0, b1, b2, b3)) v.1 v.2.1 v.2.2.1 v.2.2.2) ((0 : Int32), I, F, hs)
set_option maxHeartbeats 4000000 in
set_option maxRecDepth 100000 in
theorem c_X9_copy_25_22 (l : Launch) (D : va_G) (q : Nat → Nat) (cI cO : ClassId) (hq : mOk q)   (I : Nat → Int32) (F : Nat → Nat → Int32) (hs : Int64) (post : (Nat → Int32) → (Nat → Nat → Int32) → Int64 → Prop) (h : w_X9_copy_25_22  I F hs post) : Met l yX9_copy wsX9_copy ({ frames := 0, cells := 0, slots := 0, locals := 0 } : Room) (gPre D (mTys cI) (mW q cI cO I F hs) mEnv [.ref (q 25), .ref (q 22)]) (va_Qv (fun (u : mS) => post u.1 u.2.1 u.2.2) (gB D (fun u : mS => mW q cI cO u.1 u.2.1 u.2.2)) (mA q)) 0 0 (mA q) := by
  refine gMetV (by decide) rfl (Nat.le_of_ble_eq_true rfl) ?_
  intro p e R s m args below meth c Q ls hR hx hb hml hown hts hK hE hP hl hret
  have hRf : 0 ≤ R.frames := by subst hR; exact Nat.le_refl _
  have hRl : 0 ≤ R.locals := by subst hR; exact Nat.le_refl _
  have hown : s.vm.findClass RX9 = some m.cls := hown
  have hl : lv_has ls 3 [(0, .ref (q 25)), (1, .ref (q 22))] := hl
  have hS : va_S (mA q) s.heap s.heap [] := va_S.rf
  have hP : va_P D vwCl (mW q cI cO I F hs) s.heap := hP
  have L2 : ∀ (n : Nat)  (k : Int32 → (Nat → Int32) → (Nat → Nat → Int32) → Int64 → Prop) (x2 : Int32) (I : Nat → Int32) (F : Nat → Nat → Int32) (hs : Int64) (H : Heap) (locs : List Loc) (ls : Array Slot), va_P D vwCl (mW q cI cO I F hs) H → va_S (mA q) s.heap H locs → lv_has ls 3 [(0, .ref (q 25)), (1, .ref (q 22)), (2, .int x2)] → gLN (fun ag v => w_X9_copy_25_22_B2  k (fun b0 b1 b2 b3 => ag (b0, b1, b2, b3)) v.1 v.2.1 v.2.2.1 v.2.2.2) n (x2, I, F, hs) → (∀ (x2 : Int32) (I : Nat → Int32) (F : Nat → Nat → Int32) (hs : Int64) (H : Heap) (locs : List Loc) (ls : Array Slot), va_P D vwCl (mW q cI cO I F hs) H → va_S (mA q) s.heap H locs → lv_has ls 3 [] → k x2 I F hs → W p l e R s m args below meth c H locs 0 0 Q (F0 m 20 ls [])) → W p l e R s m args below meth c H locs 0 0 Q (F0 m 2 ls []) := by
    intro n
    induction n with
    | zero =>
      intro  k x2 I F hs H locs ls  hP hS hl h K
      exact False.elim h
    | succ n ih =>
      intro  k x2 I F hs H locs ls  hP hS hl h K
      have h : w_X9_copy_25_22_B2  k (fun b0 b1 b2 b3 => gLN (fun ag v => w_X9_copy_25_22_B2  k (fun b0 b1 b2 b3 => ag (b0, b1, b2, b3)) v.1 v.2.1 v.2.2.1 v.2.2.2) n (b0, b1, b2, b3)) x2 I F hs := h
      refine lv_iload_n hx hb dX9_copy_2 rfl (lv_at hl 2 rfl) ?_
      refine lv_aload_n hx hb dX9_copy_3 rfl (lv_at hl 0 rfl) ?_
      refine va_alen (D := D) (v := (18 : Int32)) hx hb hK hP 25 0 mAr25 rfl rfl dX9_copy_4 ?_
      refine lv_icmp_ge (tgt := 20) hx hb dX9_copy_5 (by decide) (fun c1 => ?_) (fun c1 => ?_)
      · have h := h.1 c1
        exact K x2 I F hs _ _ _  hP hS (lv_sub hl [] rfl) h
      · have h := h.2 c1
        refine lv_aload_n hx hb dX9_copy_8 rfl (lv_at hl 1 rfl) ?_
        refine lv_iload_n hx hb dX9_copy_9 rfl (lv_at hl 2 rfl) ?_
        refine lv_aload_n hx hb dX9_copy_10 rfl (lv_at hl 0 rfl) ?_
        refine lv_iload_n hx hb dX9_copy_11 rfl (lv_at hl 2 rfl) ?_
        refine va_iald (D := D) hx hb hK hP 25 0 mAr25 rfl h.1 dX9_copy_12 ?_
        have h := h.2
        refine gAst (D := D) hx hb hK hP (mD hq) hS 22 0 mAr22 rfl h.1 dX9_copy_13 (mSA22 _) (fun H locs hP hS => ?_)
        obtain ⟨F2, eF2⟩ : ∃ z : Nat → Nat → Int32, z = upF F 22 (upd (F 22) (x2).toNatClampNeg (F 25 (x2).toNatClampNeg)) := ⟨_, rfl⟩
        rw [← eF2] at hP
        have h := h.2 F2 eF2
        refine lv_iinc (v := (x2 + (1 : Int32))) (lv' := [(2, .int (x2 + (1 : Int32))), (0, .ref (q 25)), (1, .ref (q 22))]) hx hb dX9_copy_14 hl (k := 2) rfl rfl (by decide) rfl (fun ls hl => ?_)
        refine lv_goto (tgt := 2) hx hb dX9_copy_17 (by decide) ?_
        exact ih  _ (x2 + (1 : Int32)) I F2 hs _ _ _  hP hS (lv_sub hl [1, 2, 0] rfl) h K
  refine lv_iconst (v := (0 : Int32)) hx hb dX9_copy_0 (by decide) ?_
  refine lv_istore_n (lv' := [(2, .int (0 : Int32)), (0, .ref (q 25)), (1, .ref (q 22))]) hx hb dX9_copy_1 rfl hl (by decide) rfl (fun ls hl => ?_)
  obtain ⟨n, h⟩ := h
  refine L2 n  _ (0 : Int32) I F hs _ _ _  hP hS (lv_sub hl [1, 2, 0] rfl) h (fun y3 I4 F5 hs6 H locs ls  hP hS hl h => ?_)
  exact hret (I4, F5, hs6) _ _ _ _ dX9_copy_20 hP hS h
def w_X9_restore  (I : Nat → Int32) (F : Nat → Nat → Int32) (hs : Int64) (post : Int32 → (Nat → Int32) → (Nat → Nat → Int32) → Int64 → Prop) : Prop :=
  (((I 14) = (I 5) → w_X9_copy_23_14 I F hs (fun (I2 : Nat → Int32) (F3 : Nat → Nat → Int32) (hs4 : Int64) => w_X9_copy_24_15 I2 F3 hs4 (fun (I5 : Nat → Int32) (F6 : Nat → Nat → Int32) (hs7 : Int64) => w_X9_copy_25_22 I5 F6 hs7 (fun (I8 : Nat → Int32) (F9 : Nat → Nat → Int32) (hs10 : Int64) => ∀ I11 : Nat → Int32, I11 = upd I8 3 (I8 15) → ∀ I12 : Nat → Int32, I12 = upd I11 4 (I11 16) → ∀ I13 : Nat → Int32, I13 = upd I12 11 (I12 17) → ∀ I14 : Nat → Int32, I14 = upd I13 6 (1 : Int32) → post (I14 3) I14 F9 hs10)))) ∧ (¬ (I 14) = (I 5) → post (-103 : Int32) I F hs))
set_option maxHeartbeats 4000000 in
set_option maxRecDepth 100000 in
theorem c_X9_restore (l : Launch) (D : va_G) (q : Nat → Nat) (cI cO : ClassId) (hq : mOk q)   (I : Nat → Int32) (F : Nat → Nat → Int32) (hs : Int64) (post : Int32 → (Nat → Int32) → (Nat → Nat → Int32) → Int64 → Prop) (h : w_X9_restore  I F hs post) : Met l yX9_restore wsX9_restore ({ frames := 1, cells := 0, slots := 0, locals := 22 } : Room) (gPre D (mTys cI) (mW q cI cO I F hs) mEnv [.ref (q 0)]) (va_Qi (fun r (u : mS) => post r u.1 u.2.1 u.2.2) (gB D (fun u : mS => mW q cI cO u.1 u.2.1 u.2.2)) (mA q)) 0 0 (mA q) := by
  refine gMetI (by decide) rfl (Nat.le_of_ble_eq_true rfl) ?_
  intro p e R s m args below meth c Q ls hR hx hb hml hown hts hK hE hP hl hret
  have hRf : 1 ≤ R.frames := by subst hR; exact Nat.le_refl _
  have hRl : 22 ≤ R.locals := by subst hR; exact Nat.le_refl _
  have hown : s.vm.findClass RX9 = some m.cls := hown
  have hl : lv_has ls 1 [(0, .ref (q 0))] := hl
  have hS : va_S (mA q) s.heap s.heap [] := va_S.rf
  have hP : va_P D vwCl (mW q cI cO I F hs) s.heap := hP
  refine lv_aload_n hx hb dX9_restore_0 rfl (lv_at hl 0 rfl) ?_
  refine va_get (D := D) (ci := 9) (v := .int (I 14)) (C := RX9) (T := TX9) (N := 44) hx hb hts (fun _ h9 => List.mem_cons_of_mem _ (List.mem_append_right _ h9)) hown hK hP 0 mAt0 rfl 36 (by decide) (hts _ (List.mem_of_getElem? (l := wsX9_restore) (i := 1) rfl)) (fun _ h9 => h9) rfl dX9_restore_1 ?_
  refine lv_aload_n hx hb dX9_restore_4 rfl (lv_at hl 0 rfl) ?_
  refine va_get (D := D) (ci := 9) (v := .int (I 5)) (C := RX9) (T := TX9) (N := 44) hx hb hts (fun _ h9 => List.mem_cons_of_mem _ (List.mem_append_right _ h9)) hown hK hP 0 mAt0 rfl 18 (by decide) (hts _ (List.mem_of_getElem? (l := wsX9_restore) (i := 2) rfl)) (fun _ h9 => h9) rfl dX9_restore_5 ?_
  refine lv_icmp_eq (tgt := 14) hx hb dX9_restore_8 (by decide) (fun c1 => ?_) (fun c1 => ?_)
  · have h := h.1 c1
    refine lv_aload_n hx hb dX9_restore_14 rfl (lv_at hl 0 rfl) ?_
    refine va_get (D := D) (ci := 9) (v := .ref (q 23)) (C := RX9) (T := TX9) (N := 44) hx hb hts (fun _ h9 => List.mem_cons_of_mem _ (List.mem_append_right _ h9)) hown hK hP 0 mAt0 rfl 40 (by decide) (hts _ (List.mem_of_getElem? (l := wsX9_restore) (i := 3) rfl)) (fun _ h9 => h9) rfl dX9_restore_15 ?_
    refine lv_aload_n hx hb dX9_restore_18 rfl (lv_at hl 0 rfl) ?_
    refine va_get (D := D) (ci := 9) (v := .ref (q 14)) (C := RX9) (T := TX9) (N := 44) hx hb hts (fun _ h9 => List.mem_cons_of_mem _ (List.mem_append_right _ h9)) hown hK hP 0 mAt0 rfl 19 (by decide) (hts _ (List.mem_of_getElem? (l := wsX9_restore) (i := 4) rfl)) (fun _ h9 => h9) rfl dX9_restore_19 ?_
    refine gCallV (D := D) (va_runS (As := [.ref (q 23), .ref (q 14)]) (rest := []) ⟨hx, hb, hml, hown, hts⟩ (c_X9_copy_23_14 l D q cI cO hq   I F hs _ h) (va_cwS 2 hts gX9_restore_X9_copy rfl rfl rfl (by decide +kernel) ⟨Nat.le_trans (Nat.le_of_ble_eq_true rfl) hRf, Nat.le_trans (Nat.le_of_ble_eq_true rfl) hRl⟩) (gPreS mEok hE hK hP hS) rfl rfl hl.1 rfl (lv_room (Nat.le_of_ble_eq_true rfl)) dX9_restore_22 ⟨Nat.zero_le _, Nat.zero_le _⟩) hS (fun u H locs hP hS h => ?_)
    obtain ⟨I2, F3, hs4⟩ := u
    have hP : va_P D vwCl (mW q cI cO I2 F3 hs4) H := hP
    refine lv_aload_n hx hb dX9_restore_25 rfl (lv_at hl 0 rfl) ?_
    refine va_get (D := D) (ci := 9) (v := .ref (q 24)) (C := RX9) (T := TX9) (N := 44) hx hb hts (fun _ h9 => List.mem_cons_of_mem _ (List.mem_append_right _ h9)) hown hK hP 0 mAt0 rfl 41 (by decide) (hts _ (List.mem_of_getElem? (l := wsX9_restore) (i := 5) rfl)) (fun _ h9 => h9) rfl dX9_restore_26 ?_
    refine lv_aload_n hx hb dX9_restore_29 rfl (lv_at hl 0 rfl) ?_
    refine va_get (D := D) (ci := 9) (v := .ref (q 15)) (C := RX9) (T := TX9) (N := 44) hx hb hts (fun _ h9 => List.mem_cons_of_mem _ (List.mem_append_right _ h9)) hown hK hP 0 mAt0 rfl 20 (by decide) (hts _ (List.mem_of_getElem? (l := wsX9_restore) (i := 6) rfl)) (fun _ h9 => h9) rfl dX9_restore_30 ?_
    refine gCallV (D := D) (va_runS (As := [.ref (q 24), .ref (q 15)]) (rest := []) ⟨hx, hb, hml, hown, hts⟩ (c_X9_copy_24_15 l D q cI cO hq   I2 F3 hs4 _ h) (va_cwS 2 hts gX9_restore_X9_copy rfl rfl rfl (by decide +kernel) ⟨Nat.le_trans (Nat.le_of_ble_eq_true rfl) hRf, Nat.le_trans (Nat.le_of_ble_eq_true rfl) hRl⟩) (gPreS mEok hE hK hP hS) rfl rfl hl.1 rfl (lv_room (Nat.le_of_ble_eq_true rfl)) dX9_restore_33 ⟨Nat.zero_le _, Nat.zero_le _⟩) hS (fun u H locs hP hS h => ?_)
    obtain ⟨I5, F6, hs7⟩ := u
    have hP : va_P D vwCl (mW q cI cO I5 F6 hs7) H := hP
    refine lv_aload_n hx hb dX9_restore_36 rfl (lv_at hl 0 rfl) ?_
    refine va_get (D := D) (ci := 9) (v := .ref (q 25)) (C := RX9) (T := TX9) (N := 44) hx hb hts (fun _ h9 => List.mem_cons_of_mem _ (List.mem_append_right _ h9)) hown hK hP 0 mAt0 rfl 42 (by decide) (hts _ (List.mem_of_getElem? (l := wsX9_restore) (i := 7) rfl)) (fun _ h9 => h9) rfl dX9_restore_37 ?_
    refine lv_aload_n hx hb dX9_restore_40 rfl (lv_at hl 0 rfl) ?_
    refine va_get (D := D) (ci := 9) (v := .ref (q 22)) (C := RX9) (T := TX9) (N := 44) hx hb hts (fun _ h9 => List.mem_cons_of_mem _ (List.mem_append_right _ h9)) hown hK hP 0 mAt0 rfl 33 (by decide) (hts _ (List.mem_of_getElem? (l := wsX9_restore) (i := 8) rfl)) (fun _ h9 => h9) rfl dX9_restore_41 ?_
    refine gCallV (D := D) (va_runS (As := [.ref (q 25), .ref (q 22)]) (rest := []) ⟨hx, hb, hml, hown, hts⟩ (c_X9_copy_25_22 l D q cI cO hq   I5 F6 hs7 _ h) (va_cwS 2 hts gX9_restore_X9_copy rfl rfl rfl (by decide +kernel) ⟨Nat.le_trans (Nat.le_of_ble_eq_true rfl) hRf, Nat.le_trans (Nat.le_of_ble_eq_true rfl) hRl⟩) (gPreS mEok hE hK hP hS) rfl rfl hl.1 rfl (lv_room (Nat.le_of_ble_eq_true rfl)) dX9_restore_44 ⟨Nat.zero_le _, Nat.zero_le _⟩) hS (fun u H locs hP hS h => ?_)
    obtain ⟨I8, F9, hs10⟩ := u
    have hP : va_P D vwCl (mW q cI cO I8 F9 hs10) H := hP
    refine lv_aload_n hx hb dX9_restore_47 rfl (lv_at hl 0 rfl) ?_
    refine lv_aload_n hx hb dX9_restore_48 rfl (lv_at hl 0 rfl) ?_
    refine va_get (D := D) (ci := 9) (v := .int (I8 15)) (C := RX9) (T := TX9) (N := 44) hx hb hts (fun _ h9 => List.mem_cons_of_mem _ (List.mem_append_right _ h9)) hown hK hP 0 mAt0 rfl 37 (by decide) (hts _ (List.mem_of_getElem? (l := wsX9_restore) (i := 9) rfl)) (fun _ h9 => h9) rfl dX9_restore_49 ?_
    refine gPut (D := D) (ci := 9) (ty := .int) (C := RX9) (T := TX9) (N := 44) hx hb hts (fun _ h9 => List.mem_cons_of_mem _ (List.mem_append_right _ h9)) tyX9 tyX9_ok nmX9 hown hK hP (mD hq) hS 0 mAt0 rfl 16 (by decide) (hts _ (List.mem_of_getElem? (l := wsX9_restore) (i := 10) rfl)) (fun _ h9 => h9) rfl (by decide +kernel) rfl rfl (Nat.le_of_ble_eq_true rfl) dX9_restore_52 (mSet3 (I8 15)) (fun H locs hP hS => ?_)
    obtain ⟨I11, eI11⟩ : ∃ z : Nat → Int32, z = upd I8 3 (I8 15) := ⟨_, rfl⟩
    rw [← eI11] at hP
    have h := h I11 eI11
    refine lv_aload_n hx hb dX9_restore_55 rfl (lv_at hl 0 rfl) ?_
    refine lv_aload_n hx hb dX9_restore_56 rfl (lv_at hl 0 rfl) ?_
    refine va_get (D := D) (ci := 9) (v := .int (I11 16)) (C := RX9) (T := TX9) (N := 44) hx hb hts (fun _ h9 => List.mem_cons_of_mem _ (List.mem_append_right _ h9)) hown hK hP 0 mAt0 rfl 38 (by decide) (hts _ (List.mem_of_getElem? (l := wsX9_restore) (i := 11) rfl)) (fun _ h9 => h9) rfl dX9_restore_57 ?_
    refine gPut (D := D) (ci := 9) (ty := .int) (C := RX9) (T := TX9) (N := 44) hx hb hts (fun _ h9 => List.mem_cons_of_mem _ (List.mem_append_right _ h9)) tyX9 tyX9_ok nmX9 hown hK hP (mD hq) hS 0 mAt0 rfl 17 (by decide) (hts _ (List.mem_of_getElem? (l := wsX9_restore) (i := 12) rfl)) (fun _ h9 => h9) rfl (by decide +kernel) rfl rfl (Nat.le_of_ble_eq_true rfl) dX9_restore_60 (mSet4 (I11 16)) (fun H locs hP hS => ?_)
    obtain ⟨I12, eI12⟩ : ∃ z : Nat → Int32, z = upd I11 4 (I11 16) := ⟨_, rfl⟩
    rw [← eI12] at hP
    have h := h I12 eI12
    refine lv_aload_n hx hb dX9_restore_63 rfl (lv_at hl 0 rfl) ?_
    refine lv_aload_n hx hb dX9_restore_64 rfl (lv_at hl 0 rfl) ?_
    refine va_get (D := D) (ci := 9) (v := .int (I12 17)) (C := RX9) (T := TX9) (N := 44) hx hb hts (fun _ h9 => List.mem_cons_of_mem _ (List.mem_append_right _ h9)) hown hK hP 0 mAt0 rfl 39 (by decide) (hts _ (List.mem_of_getElem? (l := wsX9_restore) (i := 13) rfl)) (fun _ h9 => h9) rfl dX9_restore_65 ?_
    refine gPut (D := D) (ci := 9) (ty := .int) (C := RX9) (T := TX9) (N := 44) hx hb hts (fun _ h9 => List.mem_cons_of_mem _ (List.mem_append_right _ h9)) tyX9 tyX9_ok nmX9 hown hK hP (mD hq) hS 0 mAt0 rfl 32 (by decide) (hts _ (List.mem_of_getElem? (l := wsX9_restore) (i := 14) rfl)) (fun _ h9 => h9) rfl (by decide +kernel) rfl rfl (Nat.le_of_ble_eq_true rfl) dX9_restore_68 (mSet11 (I12 17)) (fun H locs hP hS => ?_)
    obtain ⟨I13, eI13⟩ : ∃ z : Nat → Int32, z = upd I12 11 (I12 17) := ⟨_, rfl⟩
    rw [← eI13] at hP
    have h := h I13 eI13
    refine lv_aload_n hx hb dX9_restore_71 rfl (lv_at hl 0 rfl) ?_
    refine lv_iconst (v := (1 : Int32)) hx hb dX9_restore_72 (by decide) ?_
    refine gPut (D := D) (ci := 9) (ty := .boolean) (C := RX9) (T := TX9) (N := 44) hx hb hts (fun _ h9 => List.mem_cons_of_mem _ (List.mem_append_right _ h9)) tyX9 tyX9_ok nmX9 hown hK hP (mD hq) hS 0 mAt0 rfl 21 (by decide) (hts _ (List.mem_of_getElem? (l := wsX9_restore) (i := 15) rfl)) (fun _ h9 => h9) rfl (by decide +kernel) (by decide) (by decide) (Nat.le_of_ble_eq_true rfl) dX9_restore_73 (mSet6 (1 : Int32)) (fun H locs hP hS => ?_)
    obtain ⟨I14, eI14⟩ : ∃ z : Nat → Int32, z = upd I13 6 (1 : Int32) := ⟨_, rfl⟩
    rw [← eI14] at hP
    have h := h I14 eI14
    refine lv_aload_n hx hb dX9_restore_76 rfl (lv_at hl 0 rfl) ?_
    refine va_get (D := D) (ci := 9) (v := .int (I14 3)) (C := RX9) (T := TX9) (N := 44) hx hb hts (fun _ h9 => List.mem_cons_of_mem _ (List.mem_append_right _ h9)) hown hK hP 0 mAt0 rfl 16 (by decide) (hts _ (List.mem_of_getElem? (l := wsX9_restore) (i := 10) rfl)) (fun _ h9 => h9) rfl dX9_restore_77 ?_
    exact hret (I14 3) (I14, F9, hs10) _ _ _ _ dX9_restore_80 hP hS h
  · have h := h.2 c1
    refine lv_bipush (v := (-103 : Int32)) hx hb dX9_restore_11 (by decide) ?_
    exact hret (-103 : Int32) (I, F, hs) _ _ _ _ dX9_restore_13 hP hS h
def w_X9_tonesAll_B4 (I : Nat → Int32) (F : Nat → Nat → Int32) (hs : Int64) (k again : Int32 → Int32 → Prop) (x1 : Int32) (x2 : Int32) : Prop :=
  (((I 3) ≤ x2 → k x1 x2) ∧ (¬ (I 3) ≤ x2 → vp_in x2 8 ∧ ∀ v2 : Int32, v2 = (x1 ||| (F 15 (x2).toNatClampNeg)) → again v2 (x2 + (1 : Int32))))
def w_X9_tonesAll  (I : Nat → Int32) (F : Nat → Nat → Int32) (hs : Int64) (post : Int32 → Prop) : Prop :=
  gL (fun ag v => w_X9_tonesAll_B4 I F hs (fun (y3 : Int32) (y4 : Int32) => w_X9_ones y3 I F hs (fun (r5 : Int32) => post r5)) (fun b0 b1 => ag (b0, b1)) v.1 v.2) ((0 : Int32), (0 : Int32))
set_option maxHeartbeats 4000000 in
set_option maxRecDepth 100000 in
theorem c_X9_tonesAll (l : Launch) (D : va_G) (q : Nat → Nat) (cI cO : ClassId) (hq : mOk q)   (I : Nat → Int32) (F : Nat → Nat → Int32) (hs : Int64) (post : Int32 → Prop) (h : w_X9_tonesAll  I F hs post) : Met l yX9_tonesAll wsX9_tonesAll ({ frames := 1, cells := 0, slots := 0, locals := 22 } : Room) (gPre D (mTys cI) (mW q cI cO I F hs) mEnv [.ref (q 0)]) (va_Qi (fun r (_ : Unit) => post r) (gB D (fun _ : Unit => mW q cI cO I F hs)) (mA q)) 0 0 (mA q) := by
  refine gMetI (by decide) rfl (Nat.le_of_ble_eq_true rfl) ?_
  intro p e R s m args below meth c Q ls hR hx hb hml hown hts hK hE hP hl hret
  have hRf : 1 ≤ R.frames := by subst hR; exact Nat.le_refl _
  have hRl : 22 ≤ R.locals := by subst hR; exact Nat.le_refl _
  have hown : s.vm.findClass RX9 = some m.cls := hown
  have hl : lv_has ls 3 [(0, .ref (q 0))] := hl
  have hS : va_S (mA q) s.heap s.heap [] := va_S.rf
  have hP : va_P D vwCl (mW q cI cO I F hs) s.heap := hP
  have L4 : ∀ (n : Nat)  (k : Int32 → Int32 → Prop) (x1 : Int32) (x2 : Int32) (H : Heap) (locs : List Loc) (ls : Array Slot), va_P D vwCl (mW q cI cO I F hs) H → va_S (mA q) s.heap H locs → lv_has ls 3 [(0, .ref (q 0)), (1, .int x1), (2, .int x2)] → gLN (fun ag v => w_X9_tonesAll_B4 I F hs k (fun b0 b1 => ag (b0, b1)) v.1 v.2) n (x1, x2) → (∀ (x1 : Int32) (x2 : Int32) (H : Heap) (locs : List Loc) (ls : Array Slot), va_P D vwCl (mW q cI cO I F hs) H → va_S (mA q) s.heap H locs → lv_has ls 3 [(1, .int x1)] → k x1 x2 → W p l e R s m args below meth c H locs 0 0 Q (F0 m 27 ls [])) → W p l e R s m args below meth c H locs 0 0 Q (F0 m 4 ls []) := by
    intro n
    induction n with
    | zero =>
      intro  k x1 x2 H locs ls  hP hS hl h K
      exact False.elim h
    | succ n ih =>
      intro  k x1 x2 H locs ls  hP hS hl h K
      have h : w_X9_tonesAll_B4 I F hs k (fun b0 b1 => gLN (fun ag v => w_X9_tonesAll_B4 I F hs k (fun b0 b1 => ag (b0, b1)) v.1 v.2) n (b0, b1)) x1 x2 := h
      refine lv_iload_n hx hb dX9_tonesAll_4 rfl (lv_at hl 2 rfl) ?_
      refine lv_aload_n hx hb dX9_tonesAll_5 rfl (lv_at hl 0 rfl) ?_
      refine va_get (D := D) (ci := 9) (v := .int (I 3)) (C := RX9) (T := TX9) (N := 44) hx hb hts (fun _ h9 => List.mem_cons_of_mem _ (List.mem_append_right _ h9)) hown hK hP 0 mAt0 rfl 16 (by decide) (hts _ (List.mem_of_getElem? (l := wsX9_tonesAll) (i := 1) rfl)) (fun _ h9 => h9) rfl dX9_tonesAll_6 ?_
      refine lv_icmp_ge (tgt := 27) hx hb dX9_tonesAll_9 (by decide) (fun c1 => ?_) (fun c1 => ?_)
      · have h := h.1 c1
        exact K x1 x2 _ _ _  hP hS (lv_sub hl [1] rfl) h
      · have h := h.2 c1
        refine lv_iload_n hx hb dX9_tonesAll_12 rfl (lv_at hl 1 rfl) ?_
        refine lv_aload_n hx hb dX9_tonesAll_13 rfl (lv_at hl 0 rfl) ?_
        refine va_get (D := D) (ci := 9) (v := .ref (q 15)) (C := RX9) (T := TX9) (N := 44) hx hb hts (fun _ h9 => List.mem_cons_of_mem _ (List.mem_append_right _ h9)) hown hK hP 0 mAt0 rfl 20 (by decide) (hts _ (List.mem_of_getElem? (l := wsX9_tonesAll) (i := 2) rfl)) (fun _ h9 => h9) rfl dX9_tonesAll_14 ?_
        refine lv_iload_n hx hb dX9_tonesAll_17 rfl (lv_at hl 2 rfl) ?_
        refine va_iald (D := D) hx hb hK hP 15 0 mAr15 rfl h.1 dX9_tonesAll_18 ?_
        have h := h.2
        refine lv_ior hx hb dX9_tonesAll_19 ?_
        refine lv_topi (fun v2 ev2 => ?_)
        have h := h v2 ev2
        refine lv_istore_n (lv' := [(1, .int v2), (0, .ref (q 0)), (2, .int x2)]) hx hb dX9_tonesAll_20 rfl hl (by decide) rfl (fun ls hl => ?_)
        refine lv_iinc (v := (x2 + (1 : Int32))) (lv' := [(2, .int (x2 + (1 : Int32))), (1, .int v2), (0, .ref (q 0))]) hx hb dX9_tonesAll_21 hl (k := 2) rfl rfl (by decide) rfl (fun ls hl => ?_)
        refine lv_goto (tgt := 4) hx hb dX9_tonesAll_24 (by decide) ?_
        exact ih  _ v2 (x2 + (1 : Int32)) _ _ _  hP hS (lv_sub hl [2, 1, 0] rfl) h K
  refine lv_iconst (v := (0 : Int32)) hx hb dX9_tonesAll_0 (by decide) ?_
  refine lv_istore_n (lv' := [(1, .int (0 : Int32)), (0, .ref (q 0))]) hx hb dX9_tonesAll_1 rfl hl (by decide) rfl (fun ls hl => ?_)
  refine lv_iconst (v := (0 : Int32)) hx hb dX9_tonesAll_2 (by decide) ?_
  refine lv_istore_n (lv' := [(2, .int (0 : Int32)), (1, .int (0 : Int32)), (0, .ref (q 0))]) hx hb dX9_tonesAll_3 rfl hl (by decide) rfl (fun ls hl => ?_)
  obtain ⟨n, h⟩ := h
  refine L4 n  _ (0 : Int32) (0 : Int32) _ _ _  hP hS (lv_sub hl [2, 1, 0] rfl) h (fun y3 y4 H locs ls  hP hS hl h => ?_)
  refine lv_iload_n hx hb dX9_tonesAll_27 rfl (lv_at hl 0 rfl) ?_
  refine gCallI (D := D) (va_runS (As := [.int y3]) (rest := []) ⟨hx, hb, hml, hown, hts⟩ (c_X9_ones l D q cI cO hq y3  I F hs _ h) (va_cwS 1 hts gX9_tonesAll_X9_ones rfl rfl rfl (by decide +kernel) ⟨Nat.le_trans (Nat.le_of_ble_eq_true rfl) hRf, Nat.le_trans (Nat.le_of_ble_eq_true rfl) hRl⟩) (gPreS mEok hE hK hP hS) rfl rfl hl.1 rfl (lv_room (Nat.le_of_ble_eq_true rfl)) dX9_tonesAll_28 ⟨Nat.zero_le _, Nat.zero_le _⟩) hS (fun r5 _ H locs hP hS h => ?_)
  have hP : va_P D vwCl (mW q cI cO I F hs) H := hP
  exact hret r5 () _ _ _ _ dX9_tonesAll_31 hP hS h
