def w_X9_ones_B4 (x0 : Int32) (I : Nat → Int32) (F : Nat → Nat → Int32) (hs : Int64) (k again : Int32 → Int32 → Prop) (x1 : Int32) (x2 : Int32) : Prop :=
  (((12 : Int32) ≤ x2 → k x1 x2) ∧ (¬ (12 : Int32) ≤ x2 → ∀ v2 : Int32, v2 = (x1 + ((x0 >>> (x2 &&& 31)) &&& (1 : Int32))) → again v2 (x2 + (1 : Int32))))
def w_X9_ones (a0 : Int32) (I : Nat → Int32) (F : Nat → Nat → Int32) (hs : Int64) (post : Int32 → Prop) : Prop :=
  gL (fun ag v => w_X9_ones_B4 a0 I F hs (fun (y3 : Int32) (y4 : Int32) => post y3) (fun b0 b1 => ag (b0, b1)) v.1 v.2) ((0 : Int32), (0 : Int32))
set_option maxHeartbeats 4000000 in
set_option maxRecDepth 100000 in
theorem c_X9_ones (l : Launch) (D : va_G) (q : Nat → Nat) (cI cO : ClassId) (hq : mOk q) (a0 : Int32)  (I : Nat → Int32) (F : Nat → Nat → Int32) (hs : Int64) (post : Int32 → Prop) (h : w_X9_ones a0 I F hs post) : Met l yX9_ones wsX9_ones ({ frames := 0, cells := 0, slots := 0, locals := 0 } : Room) (gPre D (mTys cI) (mW q cI cO I F hs) mEnv [.int a0]) (va_Qi (fun r (_ : Unit) => post r) (gB D (fun _ : Unit => mW q cI cO I F hs)) (mA q)) 0 0 (mA q) := by
  refine gMetI (by decide) rfl (Nat.le_of_ble_eq_true rfl) ?_
  intro p e R s m args below meth c Q ls hR hx hb hml hown hts hK hE hP hl hret
  have hRf : 0 ≤ R.frames := by subst hR; exact Nat.le_refl _
  have hRl : 0 ≤ R.locals := by subst hR; exact Nat.le_refl _
  have hown : s.vm.findClass RX9 = some m.cls := hown
  have hl : lv_has ls 3 [(0, .int a0)] := hl
  have hS : va_S (mA q) s.heap s.heap [] := va_S.rf
  have hP : va_P D vwCl (mW q cI cO I F hs) s.heap := hP
  have L4 : ∀ (n : Nat) (x0 : Int32) (k : Int32 → Int32 → Prop) (x1 : Int32) (x2 : Int32) (H : Heap) (locs : List Loc) (ls : Array Slot), va_P D vwCl (mW q cI cO I F hs) H → va_S (mA q) s.heap H locs → lv_has ls 3 [(0, .int x0), (1, .int x1), (2, .int x2)] → gLN (fun ag v => w_X9_ones_B4 x0 I F hs k (fun b0 b1 => ag (b0, b1)) v.1 v.2) n (x1, x2) → (∀ (x1 : Int32) (x2 : Int32) (H : Heap) (locs : List Loc) (ls : Array Slot), va_P D vwCl (mW q cI cO I F hs) H → va_S (mA q) s.heap H locs → lv_has ls 3 [(1, .int x1)] → k x1 x2 → W p l e R s m args below meth c H locs 0 0 Q (F0 m 24 ls [])) → W p l e R s m args below meth c H locs 0 0 Q (F0 m 4 ls []) := by
    intro n
    induction n with
    | zero =>
      intro x0 k x1 x2 H locs ls  hP hS hl h K
      exact False.elim h
    | succ n ih =>
      intro x0 k x1 x2 H locs ls  hP hS hl h K
      have h : w_X9_ones_B4 x0 I F hs k (fun b0 b1 => gLN (fun ag v => w_X9_ones_B4 x0 I F hs k (fun b0 b1 => ag (b0, b1)) v.1 v.2) n (b0, b1)) x1 x2 := h
      refine lv_iload_n hx hb dX9_ones_4 rfl (lv_at hl 2 rfl) ?_
      refine lv_bipush (v := (12 : Int32)) hx hb dX9_ones_5 (by decide) ?_
      refine lv_icmp_ge (tgt := 24) hx hb dX9_ones_7 (by decide) (fun c1 => ?_) (fun c1 => ?_)
      · have h := h.1 c1
        exact K x1 x2 _ _ _  hP hS (lv_sub hl [1] rfl) h
      · have h := h.2 c1
        refine lv_iload_n hx hb dX9_ones_10 rfl (lv_at hl 1 rfl) ?_
        refine lv_iload_n hx hb dX9_ones_11 rfl (lv_at hl 0 rfl) ?_
        refine lv_iload_n hx hb dX9_ones_12 rfl (lv_at hl 2 rfl) ?_
        refine lv_ishr hx hb dX9_ones_13 ?_
        refine lv_iconst (v := (1 : Int32)) hx hb dX9_ones_14 (by decide) ?_
        refine lv_iand hx hb dX9_ones_15 ?_
        refine lv_iadd hx hb dX9_ones_16 ?_
        refine lv_topi (fun v2 ev2 => ?_)
        have h := h v2 ev2
        refine lv_istore_n (lv' := [(1, .int v2), (0, .int x0), (2, .int x2)]) hx hb dX9_ones_17 rfl hl (by decide) rfl (fun ls hl => ?_)
        refine lv_iinc (v := (x2 + (1 : Int32))) (lv' := [(2, .int (x2 + (1 : Int32))), (1, .int v2), (0, .int x0)]) hx hb dX9_ones_18 hl (k := 2) rfl rfl (by decide) rfl (fun ls hl => ?_)
        refine lv_goto (tgt := 4) hx hb dX9_ones_21 (by decide) ?_
        exact ih x0 _ v2 (x2 + (1 : Int32)) _ _ _  hP hS (lv_sub hl [2, 1, 0] rfl) h K
  refine lv_iconst (v := (0 : Int32)) hx hb dX9_ones_0 (by decide) ?_
  refine lv_istore_n (lv' := [(1, .int (0 : Int32)), (0, .int a0)]) hx hb dX9_ones_1 rfl hl (by decide) rfl (fun ls hl => ?_)
  refine lv_iconst (v := (0 : Int32)) hx hb dX9_ones_2 (by decide) ?_
  refine lv_istore_n (lv' := [(2, .int (0 : Int32)), (1, .int (0 : Int32)), (0, .int a0)]) hx hb dX9_ones_3 rfl hl (by decide) rfl (fun ls hl => ?_)
  obtain ⟨n, h⟩ := h
  refine L4 n a0 _ (0 : Int32) (0 : Int32) _ _ _  hP hS (lv_sub hl [2, 1, 0] rfl) h (fun y3 y4 H locs ls  hP hS hl h => ?_)
  refine lv_iload_n hx hb dX9_ones_24 rfl (lv_at hl 0 rfl) ?_
  exact hret y3 () _ _ _ _ dX9_ones_25 hP hS h
def w_X9_askOf_B15 (x2 : Int32) (I : Nat → Int32) (F : Nat → Nat → Int32) (hs : Int64) (k again : Int32 → Int32 → Int32 → Prop) (x3 : Int32) (x4 : Int32) (x5 : Int32) : Prop :=
  (((4 : Int32) ≤ x5 → k x3 x4 x5) ∧ (¬ (4 : Int32) ≤ x5 → ((x2 = 0 → k x3 x4 x5) ∧ (¬ x2 = 0 → w_X9_sortsBy x5 I F hs (fun (r3 : Int32) => w_X9_ones (x2 &&& r3) I F hs (fun (r4 : Int32) => w_X9_ones x2 I F hs (fun (r5 : Int32) => ∀ v6 : Int32, v6 = (r5 - r4) → ((r4 ≤ v6 → ((x4 ≤ v6 → ((x4 ≤ v6 → again x3 x4 (x5 + (1 : Int32))) ∧ (¬ x4 ≤ v6 → again x3 v6 (x5 + (1 : Int32))))) ∧ (¬ x4 ≤ v6 → ((x4 ≤ v6 → again x5 x4 (x5 + (1 : Int32))) ∧ (¬ x4 ≤ v6 → again x5 v6 (x5 + (1 : Int32))))))) ∧ (¬ r4 ≤ v6 → ((x4 ≤ r4 → ((x4 ≤ r4 → again x3 x4 (x5 + (1 : Int32))) ∧ (¬ x4 ≤ r4 → again x3 r4 (x5 + (1 : Int32))))) ∧ (¬ x4 ≤ r4 → ((x4 ≤ r4 → again x5 x4 (x5 + (1 : Int32))) ∧ (¬ x4 ≤ r4 → again x5 r4 (x5 + (1 : Int32)))))))))))))))
def w_X9_askOf (a1 : Int32) (I : Nat → Int32) (F : Nat → Nat → Int32) (hs : Int64) (post : Int32 → Prop) : Prop :=
  w_X9_sortsOf a1 I F hs (fun (r14 : Int32) => gL (fun ag v => w_X9_askOf_B15 r14 I F hs (fun (y15 : Int32) (y16 : Int32) (y17 : Int32) => post y15) (fun b0 b1 b2 => ag (b0, b1, b2)) v.1 v.2.1 v.2.2) ((-1 : Int32), (6 : Int32), (0 : Int32)))
set_option maxHeartbeats 4000000 in
set_option maxRecDepth 100000 in
theorem c_X9_askOf (l : Launch) (D : va_G) (q : Nat → Nat) (cI cO : ClassId) (hq : mOk q) (a1 : Int32)  (I : Nat → Int32) (F : Nat → Nat → Int32) (hs : Int64) (post : Int32 → Prop) (h : w_X9_askOf a1 I F hs post) : Met l yX9_askOf wsX9_askOf ({ frames := 2, cells := 0, slots := 0, locals := 44 } : Room) (gPre D (mTys cI) (mW q cI cO I F hs) mEnv [.ref (q 0), .int a1]) (va_Qi (fun r (_ : Unit) => post r) (gB D (fun _ : Unit => mW q cI cO I F hs)) (mA q)) 0 0 (mA q) := by
  refine gMetI (by decide) rfl (Nat.le_of_ble_eq_true rfl) ?_
  intro p e R s m args below meth c Q ls hR hx hb hml hown hts hK hE hP hl hret
  have hRf : 2 ≤ R.frames := by subst hR; exact Nat.le_refl _
  have hRl : 44 ≤ R.locals := by subst hR; exact Nat.le_refl _
  have hown : s.vm.findClass RX9 = some m.cls := hown
  have hl : lv_has ls 9 [(0, .ref (q 0)), (1, .int a1)] := hl
  have hS : va_S (mA q) s.heap s.heap [] := va_S.rf
  have hP : va_P D vwCl (mW q cI cO I F hs) s.heap := hP
  have L15 : ∀ (n : Nat) (x2 : Int32) (k : Int32 → Int32 → Int32 → Prop) (x3 : Int32) (x4 : Int32) (x5 : Int32) (H : Heap) (locs : List Loc) (ls : Array Slot), va_P D vwCl (mW q cI cO I F hs) H → va_S (mA q) s.heap H locs → lv_has ls 9 [(2, .int x2), (3, .int x3), (4, .int x4), (5, .int x5)] → gLN (fun ag v => w_X9_askOf_B15 x2 I F hs k (fun b0 b1 b2 => ag (b0, b1, b2)) v.1 v.2.1 v.2.2) n (x3, x4, x5) → (∀ (x3 : Int32) (x4 : Int32) (x5 : Int32) (H : Heap) (locs : List Loc) (ls : Array Slot), va_P D vwCl (mW q cI cO I F hs) H → va_S (mA q) s.heap H locs → lv_has ls 9 [(3, .int x3)] → k x3 x4 x5 → W p l e R s m args below meth c H locs 0 0 Q (F0 m 98 ls [])) → W p l e R s m args below meth c H locs 0 0 Q (F0 m 15 ls []) := by
    intro n
    induction n with
    | zero =>
      intro x2 k x3 x4 x5 H locs ls  hP hS hl h K
      exact False.elim h
    | succ n ih =>
      intro x2 k x3 x4 x5 H locs ls  hP hS hl h K
      have h : w_X9_askOf_B15 x2 I F hs k (fun b0 b1 b2 => gLN (fun ag v => w_X9_askOf_B15 x2 I F hs k (fun b0 b1 b2 => ag (b0, b1, b2)) v.1 v.2.1 v.2.2) n (b0, b1, b2)) x3 x4 x5 := h
      refine lv_iload hx hb dX9_askOf_15 (lv_at hl 3 rfl) ?_
      refine lv_iconst (v := (4 : Int32)) hx hb dX9_askOf_17 (by decide) ?_
      refine lv_icmp_ge (tgt := 98) hx hb dX9_askOf_18 (by decide) (fun c1 => ?_) (fun c1 => ?_)
      · have h := h.1 c1
        exact K x3 x4 x5 _ _ _  hP hS (lv_sub hl [1] rfl) h
      · have h := h.2 c1
        refine lv_iload_n hx hb dX9_askOf_21 rfl (lv_at hl 0 rfl) ?_
        refine lv_if_eq (tgt := 98) hx hb dX9_askOf_22 (by decide) (fun c2 => ?_) (fun c2 => ?_)
        · have h := h.1 c2
          exact K x3 x4 x5 _ _ _  hP hS (lv_sub hl [1] rfl) h
        · have h := h.2 c2
          refine lv_iload_n hx hb dX9_askOf_25 rfl (lv_at hl 0 rfl) ?_
          refine lv_iload hx hb dX9_askOf_26 (lv_at hl 3 rfl) ?_
          refine gCallI (D := D) (va_runS (As := [.int x5]) (rest := [.int x2]) ⟨hx, hb, hml, hown, hts⟩ (c_X9_sortsBy l D q cI cO hq x5  I F hs _ h) (va_cwS 1 hts gX9_askOf_X9_sortsBy rfl rfl rfl (by decide +kernel) ⟨Nat.le_trans (Nat.le_of_ble_eq_true rfl) hRf, Nat.le_trans (Nat.le_of_ble_eq_true rfl) hRl⟩) (gPreS mEok hE hK hP hS) rfl rfl hl.1 rfl (lv_room (Nat.le_of_ble_eq_true rfl)) dX9_askOf_28 ⟨Nat.zero_le _, Nat.zero_le _⟩) hS (fun r3 _ H locs hP hS h => ?_)
          have hP : va_P D vwCl (mW q cI cO I F hs) H := hP
          refine lv_iand hx hb dX9_askOf_31 ?_
          refine gCallI (D := D) (va_runS (As := [.int (x2 &&& r3)]) (rest := []) ⟨hx, hb, hml, hown, hts⟩ (c_X9_ones l D q cI cO hq (x2 &&& r3)  I F hs _ h) (va_cwS 1 hts gX9_askOf_X9_ones rfl rfl rfl (by decide +kernel) ⟨Nat.le_trans (Nat.le_of_ble_eq_true rfl) hRf, Nat.le_trans (Nat.le_of_ble_eq_true rfl) hRl⟩) (gPreS mEok hE hK hP hS) rfl rfl hl.1 rfl (lv_room (Nat.le_of_ble_eq_true rfl)) dX9_askOf_32 ⟨Nat.zero_le _, Nat.zero_le _⟩) hS (fun r4 _ H locs hP hS h => ?_)
          have hP : va_P D vwCl (mW q cI cO I F hs) H := hP
          refine lv_istore (lv' := [(6, .int r4), (2, .int x2), (3, .int x3), (4, .int x4), (5, .int x5)]) hx hb dX9_askOf_35 hl (by decide) rfl (fun ls hl => ?_)
          refine lv_iload_n hx hb dX9_askOf_37 rfl (lv_at hl 1 rfl) ?_
          refine gCallI (D := D) (va_runS (As := [.int x2]) (rest := []) ⟨hx, hb, hml, hown, hts⟩ (c_X9_ones l D q cI cO hq x2  I F hs _ h) (va_cwS 1 hts gX9_askOf_X9_ones rfl rfl rfl (by decide +kernel) ⟨Nat.le_trans (Nat.le_of_ble_eq_true rfl) hRf, Nat.le_trans (Nat.le_of_ble_eq_true rfl) hRl⟩) (gPreS mEok hE hK hP hS) rfl rfl hl.1 rfl (lv_room (Nat.le_of_ble_eq_true rfl)) dX9_askOf_38 ⟨Nat.zero_le _, Nat.zero_le _⟩) hS (fun r5 _ H locs hP hS h => ?_)
          have hP : va_P D vwCl (mW q cI cO I F hs) H := hP
          refine lv_iload hx hb dX9_askOf_41 (lv_at hl 0 rfl) ?_
          refine lv_isub hx hb dX9_askOf_43 ?_
          refine lv_topi (fun v6 ev6 => ?_)
          have h := h v6 ev6
          refine lv_istore (lv' := [(7, .int v6), (6, .int r4), (2, .int x2), (3, .int x3), (4, .int x4), (5, .int x5)]) hx hb dX9_askOf_44 hl (by decide) rfl (fun ls hl => ?_)
          refine lv_iload hx hb dX9_askOf_46 (lv_at hl 1 rfl) ?_
          refine lv_iload hx hb dX9_askOf_48 (lv_at hl 0 rfl) ?_
          refine lv_icmp_le (tgt := 58) hx hb dX9_askOf_50 (by decide) (fun c7 => ?_) (fun c7 => ?_)
          · have h := h.1 c7
            refine lv_iload hx hb dX9_askOf_58 (lv_at hl 0 rfl) ?_
            refine lv_istore (lv' := [(8, .int v6), (7, .int v6), (6, .int r4), (2, .int x2), (3, .int x3), (4, .int x4), (5, .int x5)]) hx hb dX9_askOf_60 hl (by decide) rfl (fun ls hl => ?_)
            refine lv_iload hx hb dX9_askOf_62 (lv_at hl 0 rfl) ?_
            refine lv_iload hx hb dX9_askOf_64 (lv_at hl 5 rfl) ?_
            refine lv_icmp_ge (tgt := 74) hx hb dX9_askOf_66 (by decide) (fun c8 => ?_) (fun c8 => ?_)
            · have h := h.1 c8
              refine lv_iload_n hx hb dX9_askOf_74 rfl (lv_at hl 4 rfl) ?_
              refine lv_istore_n (lv' := [(3, .int x3), (8, .int v6), (7, .int v6), (6, .int r4), (2, .int x2), (4, .int x4), (5, .int x5)]) hx hb dX9_askOf_75 rfl hl (by decide) rfl (fun ls hl => ?_)
              refine lv_iload hx hb dX9_askOf_76 (lv_at hl 1 rfl) ?_
              refine lv_iload hx hb dX9_askOf_78 (lv_at hl 5 rfl) ?_
              refine lv_icmp_ge (tgt := 88) hx hb dX9_askOf_80 (by decide) (fun c9 => ?_) (fun c9 => ?_)
              · have h := h.1 c9
                refine lv_iload hx hb dX9_askOf_88 (lv_at hl 5 rfl) ?_
                refine lv_istore (lv' := [(4, .int x4), (3, .int x3), (8, .int v6), (7, .int v6), (6, .int r4), (2, .int x2), (5, .int x5)]) hx hb dX9_askOf_90 hl (by decide) rfl (fun ls hl => ?_)
                refine lv_iinc (v := (x5 + (1 : Int32))) (lv' := [(5, .int (x5 + (1 : Int32))), (4, .int x4), (3, .int x3), (8, .int v6), (7, .int v6), (6, .int r4), (2, .int x2)]) hx hb dX9_askOf_92 hl (k := 6) rfl rfl (by decide) rfl (fun ls hl => ?_)
                refine lv_goto (tgt := 15) hx hb dX9_askOf_95 (by decide) ?_
                exact ih x2 _ x3 x4 (x5 + (1 : Int32)) _ _ _  hP hS (lv_sub hl [6, 2, 1, 0] rfl) h K
              · have h := h.2 c9
                refine lv_iload hx hb dX9_askOf_83 (lv_at hl 1 rfl) ?_
                refine lv_goto (tgt := 90) hx hb dX9_askOf_85 (by decide) ?_
                refine lv_istore (lv' := [(4, .int v6), (3, .int x3), (8, .int v6), (7, .int v6), (6, .int r4), (2, .int x2), (5, .int x5)]) hx hb dX9_askOf_90 hl (by decide) rfl (fun ls hl => ?_)
                refine lv_iinc (v := (x5 + (1 : Int32))) (lv' := [(5, .int (x5 + (1 : Int32))), (4, .int v6), (3, .int x3), (8, .int v6), (7, .int v6), (6, .int r4), (2, .int x2)]) hx hb dX9_askOf_92 hl (k := 6) rfl rfl (by decide) rfl (fun ls hl => ?_)
                refine lv_goto (tgt := 15) hx hb dX9_askOf_95 (by decide) ?_
                exact ih x2 _ x3 v6 (x5 + (1 : Int32)) _ _ _  hP hS (lv_sub hl [6, 2, 1, 0] rfl) h K
            · have h := h.2 c8
              refine lv_iload hx hb dX9_askOf_69 (lv_at hl 6 rfl) ?_
              refine lv_goto (tgt := 75) hx hb dX9_askOf_71 (by decide) ?_
              refine lv_istore_n (lv' := [(3, .int x5), (8, .int v6), (7, .int v6), (6, .int r4), (2, .int x2), (4, .int x4), (5, .int x5)]) hx hb dX9_askOf_75 rfl hl (by decide) rfl (fun ls hl => ?_)
              refine lv_iload hx hb dX9_askOf_76 (lv_at hl 1 rfl) ?_
              refine lv_iload hx hb dX9_askOf_78 (lv_at hl 5 rfl) ?_
              refine lv_icmp_ge (tgt := 88) hx hb dX9_askOf_80 (by decide) (fun c10 => ?_) (fun c10 => ?_)
              · have h := h.1 c10
                refine lv_iload hx hb dX9_askOf_88 (lv_at hl 5 rfl) ?_
                refine lv_istore (lv' := [(4, .int x4), (3, .int x5), (8, .int v6), (7, .int v6), (6, .int r4), (2, .int x2), (5, .int x5)]) hx hb dX9_askOf_90 hl (by decide) rfl (fun ls hl => ?_)
                refine lv_iinc (v := (x5 + (1 : Int32))) (lv' := [(5, .int (x5 + (1 : Int32))), (4, .int x4), (3, .int x5), (8, .int v6), (7, .int v6), (6, .int r4), (2, .int x2)]) hx hb dX9_askOf_92 hl (k := 6) rfl rfl (by decide) rfl (fun ls hl => ?_)
                refine lv_goto (tgt := 15) hx hb dX9_askOf_95 (by decide) ?_
                exact ih x2 _ x5 x4 (x5 + (1 : Int32)) _ _ _  hP hS (lv_sub hl [6, 2, 1, 0] rfl) h K
              · have h := h.2 c10
                refine lv_iload hx hb dX9_askOf_83 (lv_at hl 1 rfl) ?_
                refine lv_goto (tgt := 90) hx hb dX9_askOf_85 (by decide) ?_
                refine lv_istore (lv' := [(4, .int v6), (3, .int x5), (8, .int v6), (7, .int v6), (6, .int r4), (2, .int x2), (5, .int x5)]) hx hb dX9_askOf_90 hl (by decide) rfl (fun ls hl => ?_)
                refine lv_iinc (v := (x5 + (1 : Int32))) (lv' := [(5, .int (x5 + (1 : Int32))), (4, .int v6), (3, .int x5), (8, .int v6), (7, .int v6), (6, .int r4), (2, .int x2)]) hx hb dX9_askOf_92 hl (k := 6) rfl rfl (by decide) rfl (fun ls hl => ?_)
                refine lv_goto (tgt := 15) hx hb dX9_askOf_95 (by decide) ?_
                exact ih x2 _ x5 v6 (x5 + (1 : Int32)) _ _ _  hP hS (lv_sub hl [6, 2, 1, 0] rfl) h K
          · have h := h.2 c7
            refine lv_iload hx hb dX9_askOf_53 (lv_at hl 1 rfl) ?_
            refine lv_goto (tgt := 60) hx hb dX9_askOf_55 (by decide) ?_
            refine lv_istore (lv' := [(8, .int r4), (7, .int v6), (6, .int r4), (2, .int x2), (3, .int x3), (4, .int x4), (5, .int x5)]) hx hb dX9_askOf_60 hl (by decide) rfl (fun ls hl => ?_)
            refine lv_iload hx hb dX9_askOf_62 (lv_at hl 0 rfl) ?_
            refine lv_iload hx hb dX9_askOf_64 (lv_at hl 5 rfl) ?_
            refine lv_icmp_ge (tgt := 74) hx hb dX9_askOf_66 (by decide) (fun c11 => ?_) (fun c11 => ?_)
            · have h := h.1 c11
              refine lv_iload_n hx hb dX9_askOf_74 rfl (lv_at hl 4 rfl) ?_
              refine lv_istore_n (lv' := [(3, .int x3), (8, .int r4), (7, .int v6), (6, .int r4), (2, .int x2), (4, .int x4), (5, .int x5)]) hx hb dX9_askOf_75 rfl hl (by decide) rfl (fun ls hl => ?_)
              refine lv_iload hx hb dX9_askOf_76 (lv_at hl 1 rfl) ?_
              refine lv_iload hx hb dX9_askOf_78 (lv_at hl 5 rfl) ?_
              refine lv_icmp_ge (tgt := 88) hx hb dX9_askOf_80 (by decide) (fun c12 => ?_) (fun c12 => ?_)
              · have h := h.1 c12
                refine lv_iload hx hb dX9_askOf_88 (lv_at hl 5 rfl) ?_
                refine lv_istore (lv' := [(4, .int x4), (3, .int x3), (8, .int r4), (7, .int v6), (6, .int r4), (2, .int x2), (5, .int x5)]) hx hb dX9_askOf_90 hl (by decide) rfl (fun ls hl => ?_)
                refine lv_iinc (v := (x5 + (1 : Int32))) (lv' := [(5, .int (x5 + (1 : Int32))), (4, .int x4), (3, .int x3), (8, .int r4), (7, .int v6), (6, .int r4), (2, .int x2)]) hx hb dX9_askOf_92 hl (k := 6) rfl rfl (by decide) rfl (fun ls hl => ?_)
                refine lv_goto (tgt := 15) hx hb dX9_askOf_95 (by decide) ?_
                exact ih x2 _ x3 x4 (x5 + (1 : Int32)) _ _ _  hP hS (lv_sub hl [6, 2, 1, 0] rfl) h K
              · have h := h.2 c12
                refine lv_iload hx hb dX9_askOf_83 (lv_at hl 1 rfl) ?_
                refine lv_goto (tgt := 90) hx hb dX9_askOf_85 (by decide) ?_
                refine lv_istore (lv' := [(4, .int r4), (3, .int x3), (8, .int r4), (7, .int v6), (6, .int r4), (2, .int x2), (5, .int x5)]) hx hb dX9_askOf_90 hl (by decide) rfl (fun ls hl => ?_)
                refine lv_iinc (v := (x5 + (1 : Int32))) (lv' := [(5, .int (x5 + (1 : Int32))), (4, .int r4), (3, .int x3), (8, .int r4), (7, .int v6), (6, .int r4), (2, .int x2)]) hx hb dX9_askOf_92 hl (k := 6) rfl rfl (by decide) rfl (fun ls hl => ?_)
                refine lv_goto (tgt := 15) hx hb dX9_askOf_95 (by decide) ?_
                exact ih x2 _ x3 r4 (x5 + (1 : Int32)) _ _ _  hP hS (lv_sub hl [6, 2, 1, 0] rfl) h K
            · have h := h.2 c11
              refine lv_iload hx hb dX9_askOf_69 (lv_at hl 6 rfl) ?_
              refine lv_goto (tgt := 75) hx hb dX9_askOf_71 (by decide) ?_
              refine lv_istore_n (lv' := [(3, .int x5), (8, .int r4), (7, .int v6), (6, .int r4), (2, .int x2), (4, .int x4), (5, .int x5)]) hx hb dX9_askOf_75 rfl hl (by decide) rfl (fun ls hl => ?_)
              refine lv_iload hx hb dX9_askOf_76 (lv_at hl 1 rfl) ?_
              refine lv_iload hx hb dX9_askOf_78 (lv_at hl 5 rfl) ?_
              refine lv_icmp_ge (tgt := 88) hx hb dX9_askOf_80 (by decide) (fun c13 => ?_) (fun c13 => ?_)
              · have h := h.1 c13
                refine lv_iload hx hb dX9_askOf_88 (lv_at hl 5 rfl) ?_
                refine lv_istore (lv' := [(4, .int x4), (3, .int x5), (8, .int r4), (7, .int v6), (6, .int r4), (2, .int x2), (5, .int x5)]) hx hb dX9_askOf_90 hl (by decide) rfl (fun ls hl => ?_)
                refine lv_iinc (v := (x5 + (1 : Int32))) (lv' := [(5, .int (x5 + (1 : Int32))), (4, .int x4), (3, .int x5), (8, .int r4), (7, .int v6), (6, .int r4), (2, .int x2)]) hx hb dX9_askOf_92 hl (k := 6) rfl rfl (by decide) rfl (fun ls hl => ?_)
                refine lv_goto (tgt := 15) hx hb dX9_askOf_95 (by decide) ?_
                exact ih x2 _ x5 x4 (x5 + (1 : Int32)) _ _ _  hP hS (lv_sub hl [6, 2, 1, 0] rfl) h K
              · have h := h.2 c13
                refine lv_iload hx hb dX9_askOf_83 (lv_at hl 1 rfl) ?_
                refine lv_goto (tgt := 90) hx hb dX9_askOf_85 (by decide) ?_
                refine lv_istore (lv' := [(4, .int r4), (3, .int x5), (8, .int r4), (7, .int v6), (6, .int r4), (2, .int x2), (5, .int x5)]) hx hb dX9_askOf_90 hl (by decide) rfl (fun ls hl => ?_)
                refine lv_iinc (v := (x5 + (1 : Int32))) (lv' := [(5, .int (x5 + (1 : Int32))), (4, .int r4), (3, .int x5), (8, .int r4), (7, .int v6), (6, .int r4), (2, .int x2)]) hx hb dX9_askOf_92 hl (k := 6) rfl rfl (by decide) rfl (fun ls hl => ?_)
                refine lv_goto (tgt := 15) hx hb dX9_askOf_95 (by decide) ?_
                exact ih x2 _ x5 r4 (x5 + (1 : Int32)) _ _ _  hP hS (lv_sub hl [6, 2, 1, 0] rfl) h K
  refine lv_aload_n hx hb dX9_askOf_0 rfl (lv_at hl 0 rfl) ?_
  refine lv_iload_n hx hb dX9_askOf_1 rfl (lv_at hl 1 rfl) ?_
  refine gCallI (D := D) (va_runV (As := [.int a1]) (rest := []) ⟨hx, hb, hml, hown, hts⟩ (c_X9_sortsOf l D q cI cO hq a1  I F hs _ h) (cwV 1 hts gX9_askOf_X9_sortsOf rfl rfl rfl (by decide +kernel) ⟨Nat.le_trans (Nat.le_of_ble_eq_true rfl) hRf, Nat.le_trans (Nat.le_of_ble_eq_true rfl) hRl⟩) (gPreV (ci := 9) (q0 := 0) mEok hE hK hP hS rfl mAt0) rfl rfl hl.1 rfl (lv_room (Nat.le_of_ble_eq_true rfl)) dX9_askOf_2 ⟨Nat.zero_le _, Nat.zero_le _⟩) hS (fun r14 _ H locs hP hS h => ?_)
  have hP : va_P D vwCl (mW q cI cO I F hs) H := hP
  refine lv_istore_n (lv' := [(2, .int r14), (0, .ref (q 0)), (1, .int a1)]) hx hb dX9_askOf_5 rfl hl (by decide) rfl (fun ls hl => ?_)
  refine lv_iconst (v := (-1 : Int32)) hx hb dX9_askOf_6 (by decide) ?_
  refine lv_istore_n (lv' := [(3, .int (-1 : Int32)), (2, .int r14), (0, .ref (q 0)), (1, .int a1)]) hx hb dX9_askOf_7 rfl hl (by decide) rfl (fun ls hl => ?_)
  refine lv_bipush (v := (6 : Int32)) hx hb dX9_askOf_8 (by decide) ?_
  refine lv_istore (lv' := [(4, .int (6 : Int32)), (3, .int (-1 : Int32)), (2, .int r14), (0, .ref (q 0)), (1, .int a1)]) hx hb dX9_askOf_10 hl (by decide) rfl (fun ls hl => ?_)
  refine lv_iconst (v := (0 : Int32)) hx hb dX9_askOf_12 (by decide) ?_
  refine lv_istore (lv' := [(5, .int (0 : Int32)), (4, .int (6 : Int32)), (3, .int (-1 : Int32)), (2, .int r14), (0, .ref (q 0)), (1, .int a1)]) hx hb dX9_askOf_13 hl (by decide) rfl (fun ls hl => ?_)
  obtain ⟨n, h⟩ := h
  refine L15 n r14 _ (-1 : Int32) (6 : Int32) (0 : Int32) _ _ _  hP hS (lv_sub hl [3, 2, 1, 0] rfl) h (fun y15 y16 y17 H locs ls  hP hS hl h => ?_)
  refine lv_iload_n hx hb dX9_askOf_98 rfl (lv_at hl 0 rfl) ?_
  exact hret y15 () _ _ _ _ dX9_askOf_99 hP hS h
def w_X9_tellChord (a1 : Int32) (a2 : Int32) (I : Nat → Int32) (F : Nat → Nat → Int32) (hs : Int64) (post : Int32 → (Nat → Int32) → (Nat → Nat → Int32) → Int64 → Prop) : Prop :=
  ((a2 = (0 : Int32) → vp_in a1 8 ∧ post (F 14 (a1).toNatClampNeg) I F hs) ∧ (a2 = (1 : Int32) → vp_in a1 8 ∧ post (F 15 (a1).toNatClampNeg) I F hs) ∧ (a2 = (2 : Int32) → w_X9_fitting a1 a2 I F hs (fun (r2 : Int32) (I3 : Nat → Int32) (F4 : Nat → Nat → Int32) (hs5 : Int64) => post r2 I3 F4 hs5)) ∧ (a2 = (3 : Int32) → w_X9_fitting a1 a2 I F hs (fun (r6 : Int32) (I7 : Nat → Int32) (F8 : Nat → Nat → Int32) (hs9 : Int64) => post r6 I7 F8 hs9)) ∧ (a2 = (4 : Int32) → w_X9_sortsOf a1 I F hs (fun (r10 : Int32) => post r10 I F hs)) ∧ (a2 = (5 : Int32) → w_X9_askOf a1 I F hs (fun (r11 : Int32) => post r11 I F hs)) ∧ (¬ a2 = (0 : Int32) → ¬ a2 = (1 : Int32) → ¬ a2 = (2 : Int32) → ¬ a2 = (3 : Int32) → ¬ a2 = (4 : Int32) → ¬ a2 = (5 : Int32) → post (-102 : Int32) I F hs))
set_option maxHeartbeats 4000000 in
set_option maxRecDepth 100000 in
theorem c_X9_tellChord (l : Launch) (D : va_G) (q : Nat → Nat) (cI cO : ClassId) (hq : mOk q) (a1 : Int32) (a2 : Int32)  (I : Nat → Int32) (F : Nat → Nat → Int32) (hs : Int64) (post : Int32 → (Nat → Int32) → (Nat → Nat → Int32) → Int64 → Prop) (h : w_X9_tellChord a1 a2 I F hs post) : Met l yX9_tellChord wsX9_tellChord ({ frames := 6, cells := 0, slots := 0, locals := 148 } : Room) (gPre D (mTys cI) (mW q cI cO I F hs) mEnv [.ref (q 0), .int a1, .int a2]) (va_Qi (fun r (u : mS) => post r u.1 u.2.1 u.2.2) (gB D (fun u : mS => mW q cI cO u.1 u.2.1 u.2.2)) (mA q)) 0 0 (mA q) := by
  refine gMetI (by decide) rfl (Nat.le_of_ble_eq_true rfl) ?_
  intro p e R s m args below meth c Q ls hR hx hb hml hown hts hK hE hP hl hret
  have hRf : 6 ≤ R.frames := by subst hR; exact Nat.le_refl _
  have hRl : 148 ≤ R.locals := by subst hR; exact Nat.le_refl _
  have hown : s.vm.findClass RX9 = some m.cls := hown
  have hl : lv_has ls 3 [(0, .ref (q 0)), (1, .int a1), (2, .int a2)] := hl
  have hS : va_S (mA q) s.heap s.heap [] := va_S.rf
  have hP : va_P D vwCl (mW q cI cO I F hs) s.heap := hP
  refine lv_iload_n hx hb dX9_tellChord_0 rfl (lv_at hl 2 rfl) ?_
  by_cases c1_0 : a2 = (0 : Int32)
  · have h := h.1 c1_0
    refine lv_tableIn (tgt := 40) (off := 39) hx hb dX9_tellChord_1 (by rw [c1_0]; decide) (by rw [c1_0]; decide) (by rw [c1_0]; rfl) (by decide) ?_
    refine lv_aload_n hx hb dX9_tellChord_40 rfl (lv_at hl 0 rfl) ?_
    refine va_get (D := D) (ci := 9) (v := .ref (q 14)) (C := RX9) (T := TX9) (N := 44) hx hb hts (fun _ h9 => List.mem_cons_of_mem _ (List.mem_append_right _ h9)) hown hK hP 0 mAt0 rfl 19 (by decide) (hts _ (List.mem_of_getElem? (l := wsX9_tellChord) (i := 1) rfl)) (fun _ h9 => h9) rfl dX9_tellChord_41 ?_
    refine lv_iload_n hx hb dX9_tellChord_44 rfl (lv_at hl 1 rfl) ?_
    refine va_iald (D := D) hx hb hK hP 14 0 mAr14 rfl h.1 dX9_tellChord_45 ?_
    have h := h.2
    exact hret (F 14 (a1).toNatClampNeg) (I, F, hs) _ _ _ _ dX9_tellChord_46 hP hS h
  by_cases c1_1 : a2 = (1 : Int32)
  · have h := h.2.1 c1_1
    refine lv_tableIn (tgt := 47) (off := 46) hx hb dX9_tellChord_1 (by rw [c1_1]; decide) (by rw [c1_1]; decide) (by rw [c1_1]; rfl) (by decide) ?_
    refine lv_aload_n hx hb dX9_tellChord_47 rfl (lv_at hl 0 rfl) ?_
    refine va_get (D := D) (ci := 9) (v := .ref (q 15)) (C := RX9) (T := TX9) (N := 44) hx hb hts (fun _ h9 => List.mem_cons_of_mem _ (List.mem_append_right _ h9)) hown hK hP 0 mAt0 rfl 20 (by decide) (hts _ (List.mem_of_getElem? (l := wsX9_tellChord) (i := 2) rfl)) (fun _ h9 => h9) rfl dX9_tellChord_48 ?_
    refine lv_iload_n hx hb dX9_tellChord_51 rfl (lv_at hl 1 rfl) ?_
    refine va_iald (D := D) hx hb hK hP 15 0 mAr15 rfl h.1 dX9_tellChord_52 ?_
    have h := h.2
    exact hret (F 15 (a1).toNatClampNeg) (I, F, hs) _ _ _ _ dX9_tellChord_53 hP hS h
  by_cases c1_2 : a2 = (2 : Int32)
  · have h := h.2.2.1 c1_2
    refine lv_tableIn (tgt := 54) (off := 53) hx hb dX9_tellChord_1 (by rw [c1_2]; decide) (by rw [c1_2]; decide) (by rw [c1_2]; rfl) (by decide) ?_
    refine lv_aload_n hx hb dX9_tellChord_54 rfl (lv_at hl 0 rfl) ?_
    refine lv_iload_n hx hb dX9_tellChord_55 rfl (lv_at hl 1 rfl) ?_
    refine lv_iload_n hx hb dX9_tellChord_56 rfl (lv_at hl 2 rfl) ?_
    refine gCallI (D := D) (va_runV (As := [.int a1, .int a2]) (rest := []) ⟨hx, hb, hml, hown, hts⟩ (c_X9_fitting l D q cI cO hq a1 a2  I F hs _ h) (cwV 2 hts gX9_tellChord_X9_fitting rfl rfl rfl (by decide +kernel) ⟨Nat.le_trans (Nat.le_of_ble_eq_true rfl) hRf, Nat.le_trans (Nat.le_of_ble_eq_true rfl) hRl⟩) (gPreV (ci := 9) (q0 := 0) mEok hE hK hP hS rfl mAt0) rfl rfl hl.1 rfl (lv_room (Nat.le_of_ble_eq_true rfl)) dX9_tellChord_57 ⟨Nat.zero_le _, Nat.zero_le _⟩) hS (fun r2 u H locs hP hS h => ?_)
    obtain ⟨I3, F4, hs5⟩ := u
    have hP : va_P D vwCl (mW q cI cO I3 F4 hs5) H := hP
    exact hret r2 (I3, F4, hs5) _ _ _ _ dX9_tellChord_60 hP hS h
  by_cases c1_3 : a2 = (3 : Int32)
  · have h := h.2.2.2.1 c1_3
    refine lv_tableIn (tgt := 54) (off := 53) hx hb dX9_tellChord_1 (by rw [c1_3]; decide) (by rw [c1_3]; decide) (by rw [c1_3]; rfl) (by decide) ?_
    refine lv_aload_n hx hb dX9_tellChord_54 rfl (lv_at hl 0 rfl) ?_
    refine lv_iload_n hx hb dX9_tellChord_55 rfl (lv_at hl 1 rfl) ?_
    refine lv_iload_n hx hb dX9_tellChord_56 rfl (lv_at hl 2 rfl) ?_
    refine gCallI (D := D) (va_runV (As := [.int a1, .int a2]) (rest := []) ⟨hx, hb, hml, hown, hts⟩ (c_X9_fitting l D q cI cO hq a1 a2  I F hs _ h) (cwV 2 hts gX9_tellChord_X9_fitting rfl rfl rfl (by decide +kernel) ⟨Nat.le_trans (Nat.le_of_ble_eq_true rfl) hRf, Nat.le_trans (Nat.le_of_ble_eq_true rfl) hRl⟩) (gPreV (ci := 9) (q0 := 0) mEok hE hK hP hS rfl mAt0) rfl rfl hl.1 rfl (lv_room (Nat.le_of_ble_eq_true rfl)) dX9_tellChord_57 ⟨Nat.zero_le _, Nat.zero_le _⟩) hS (fun r6 u H locs hP hS h => ?_)
    obtain ⟨I7, F8, hs9⟩ := u
    have hP : va_P D vwCl (mW q cI cO I7 F8 hs9) H := hP
    exact hret r6 (I7, F8, hs9) _ _ _ _ dX9_tellChord_60 hP hS h
  by_cases c1_4 : a2 = (4 : Int32)
  · have h := h.2.2.2.2.1 c1_4
    refine lv_tableIn (tgt := 61) (off := 60) hx hb dX9_tellChord_1 (by rw [c1_4]; decide) (by rw [c1_4]; decide) (by rw [c1_4]; rfl) (by decide) ?_
    refine lv_aload_n hx hb dX9_tellChord_61 rfl (lv_at hl 0 rfl) ?_
    refine lv_iload_n hx hb dX9_tellChord_62 rfl (lv_at hl 1 rfl) ?_
    refine gCallI (D := D) (va_runV (As := [.int a1]) (rest := []) ⟨hx, hb, hml, hown, hts⟩ (c_X9_sortsOf l D q cI cO hq a1  I F hs _ h) (cwV 1 hts gX9_tellChord_X9_sortsOf rfl rfl rfl (by decide +kernel) ⟨Nat.le_trans (Nat.le_of_ble_eq_true rfl) hRf, Nat.le_trans (Nat.le_of_ble_eq_true rfl) hRl⟩) (gPreV (ci := 9) (q0 := 0) mEok hE hK hP hS rfl mAt0) rfl rfl hl.1 rfl (lv_room (Nat.le_of_ble_eq_true rfl)) dX9_tellChord_63 ⟨Nat.zero_le _, Nat.zero_le _⟩) hS (fun r10 _ H locs hP hS h => ?_)
    have hP : va_P D vwCl (mW q cI cO I F hs) H := hP
    exact hret r10 (I, F, hs) _ _ _ _ dX9_tellChord_66 hP hS h
  by_cases c1_5 : a2 = (5 : Int32)
  · have h := h.2.2.2.2.2.1 c1_5
    refine lv_tableIn (tgt := 67) (off := 66) hx hb dX9_tellChord_1 (by rw [c1_5]; decide) (by rw [c1_5]; decide) (by rw [c1_5]; rfl) (by decide) ?_
    refine lv_aload_n hx hb dX9_tellChord_67 rfl (lv_at hl 0 rfl) ?_
    refine lv_iload_n hx hb dX9_tellChord_68 rfl (lv_at hl 1 rfl) ?_
    refine gCallI (D := D) (va_runV (As := [.int a1]) (rest := []) ⟨hx, hb, hml, hown, hts⟩ (c_X9_askOf l D q cI cO hq a1  I F hs _ h) (cwV 1 hts gX9_tellChord_X9_askOf rfl rfl rfl (by decide +kernel) ⟨Nat.le_trans (Nat.le_of_ble_eq_true rfl) hRf, Nat.le_trans (Nat.le_of_ble_eq_true rfl) hRl⟩) (gPreV (ci := 9) (q0 := 0) mEok hE hK hP hS rfl mAt0) rfl rfl hl.1 rfl (lv_room (Nat.le_of_ble_eq_true rfl)) dX9_tellChord_69 ⟨Nat.zero_le _, Nat.zero_le _⟩) hS (fun r11 _ H locs hP hS h => ?_)
    have hP : va_P D vwCl (mW q cI cO I F hs) H := hP
    exact hret r11 (I, F, hs) _ _ _ _ dX9_tellChord_72 hP hS h
  have h := h.2.2.2.2.2.2 c1_0 c1_1 c1_2 c1_3 c1_4 c1_5
  have tc1_0 := lv_neT (a := 0) c1_0 rfl
  have tc1_1 := lv_neT (a := 1) c1_1 rfl
  have tc1_2 := lv_neT (a := 2) c1_2 rfl
  have tc1_3 := lv_neT (a := 3) c1_3 rfl
  have tc1_4 := lv_neT (a := 4) c1_4 rfl
  have tc1_5 := lv_neT (a := 5) c1_5 rfl
  refine lv_tableOut (tgt := 73) hx hb dX9_tellChord_1 (by omega) (by decide) ?_
  refine lv_bipush (v := (-102 : Int32)) hx hb dX9_tellChord_73 (by decide) ?_
  exact hret (-102 : Int32) (I, F, hs) _ _ _ _ dX9_tellChord_75 hP hS h
def w_X9_chord (a1 : Int32) (a2 : Int32) (I : Nat → Int32) (F : Nat → Nat → Int32) (hs : Int64) (post : Int32 → (Nat → Int32) → (Nat → Nat → Int32) → Int64 → Prop) : Prop :=
  w_X9_isChord a1 I F hs (fun (r1 : Int32) => ((r1 = 0 → post (-101 : Int32) I F hs) ∧ (¬ r1 = 0 → w_X9_tellChord a1 a2 I F hs (fun (r3 : Int32) (I4 : Nat → Int32) (F5 : Nat → Nat → Int32) (hs6 : Int64) => post r3 I4 F5 hs6))))
set_option maxHeartbeats 4000000 in
set_option maxRecDepth 100000 in
theorem c_X9_chord (l : Launch) (D : va_G) (q : Nat → Nat) (cI cO : ClassId) (hq : mOk q) (a1 : Int32) (a2 : Int32)  (I : Nat → Int32) (F : Nat → Nat → Int32) (hs : Int64) (post : Int32 → (Nat → Int32) → (Nat → Nat → Int32) → Int64 → Prop) (h : w_X9_chord a1 a2 I F hs post) : Met l yX9_chord wsX9_chord ({ frames := 7, cells := 0, slots := 0, locals := 170 } : Room) (gPre D (mTys cI) (mW q cI cO I F hs) mEnv [.ref (q 0), .int a1, .int a2]) (va_Qi (fun r (u : mS) => post r u.1 u.2.1 u.2.2) (gB D (fun u : mS => mW q cI cO u.1 u.2.1 u.2.2)) (mA q)) 0 0 (mA q) := by
  refine gMetI (by decide) rfl (Nat.le_of_ble_eq_true rfl) ?_
  intro p e R s m args below meth c Q ls hR hx hb hml hown hts hK hE hP hl hret
  have hRf : 7 ≤ R.frames := by subst hR; exact Nat.le_refl _
  have hRl : 170 ≤ R.locals := by subst hR; exact Nat.le_refl _
  have hown : s.vm.findClass RX9 = some m.cls := hown
  have hl : lv_has ls 3 [(0, .ref (q 0)), (1, .int a1), (2, .int a2)] := hl
  have hS : va_S (mA q) s.heap s.heap [] := va_S.rf
  have hP : va_P D vwCl (mW q cI cO I F hs) s.heap := hP
  refine lv_aload_n hx hb dX9_chord_0 rfl (lv_at hl 0 rfl) ?_
  refine lv_iload_n hx hb dX9_chord_1 rfl (lv_at hl 1 rfl) ?_
  refine gCallI (D := D) (va_runV (As := [.int a1]) (rest := []) ⟨hx, hb, hml, hown, hts⟩ (c_X9_isChord l D q cI cO hq a1  I F hs _ h) (cwV 1 hts gX9_chord_X9_isChord rfl rfl rfl (by decide +kernel) ⟨Nat.le_trans (Nat.le_of_ble_eq_true rfl) hRf, Nat.le_trans (Nat.le_of_ble_eq_true rfl) hRl⟩) (gPreV (ci := 9) (q0 := 0) mEok hE hK hP hS rfl mAt0) rfl rfl hl.1 rfl (lv_room (Nat.le_of_ble_eq_true rfl)) dX9_chord_2 ⟨Nat.zero_le _, Nat.zero_le _⟩) hS (fun r1 _ H locs hP hS h => ?_)
  have hP : va_P D vwCl (mW q cI cO I F hs) H := hP
  refine lv_if_eq (tgt := 17) hx hb dX9_chord_5 (by decide) (fun c2 => ?_) (fun c2 => ?_)
  · have h := h.1 c2
    refine lv_bipush (v := (-101 : Int32)) hx hb dX9_chord_17 (by decide) ?_
    exact hret (-101 : Int32) (I, F, hs) _ _ _ _ dX9_chord_19 hP hS h
  · have h := h.2 c2
    refine lv_aload_n hx hb dX9_chord_8 rfl (lv_at hl 0 rfl) ?_
    refine lv_iload_n hx hb dX9_chord_9 rfl (lv_at hl 1 rfl) ?_
    refine lv_iload_n hx hb dX9_chord_10 rfl (lv_at hl 2 rfl) ?_
    refine gCallI (D := D) (va_runV (As := [.int a1, .int a2]) (rest := []) ⟨hx, hb, hml, hown, hts⟩ (c_X9_tellChord l D q cI cO hq a1 a2  I F hs _ h) (cwV 2 hts gX9_chord_X9_tellChord rfl rfl rfl (by decide +kernel) ⟨Nat.le_trans (Nat.le_of_ble_eq_true rfl) hRf, Nat.le_trans (Nat.le_of_ble_eq_true rfl) hRl⟩) (gPreV (ci := 9) (q0 := 0) mEok hE hK hP hS rfl mAt0) rfl rfl hl.1 rfl (lv_room (Nat.le_of_ble_eq_true rfl)) dX9_chord_11 ⟨Nat.zero_le _, Nat.zero_le _⟩) hS (fun r3 u H locs hP hS h => ?_)
    obtain ⟨I4, F5, hs6⟩ := u
    have hP : va_P D vwCl (mW q cI cO I4 F5 hs6) H := hP
    refine lv_goto (tgt := 19) hx hb dX9_chord_14 (by decide) ?_
    exact hret r3 (I4, F5, hs6) _ _ _ _ dX9_chord_19 hP hS h
def w_X9_as_J60 (x1 : Int32) (z0 : Int32) (I : Nat → Int32) (F : Nat → Nat → Int32) (hs : Int64) (post : Int32 → Prop) : Prop :=
  ((z0 = 0 → post (-1 : Int32)) ∧ (¬ z0 = 0 → post x1))
def w_X9_as_J59 (x1 : Int32) (I : Nat → Int32) (F : Nat → Nat → Int32) (hs : Int64) (post : Int32 → Prop) : Prop :=
  w_X9_as_J60 x1 (0 : Int32) I F hs post
def w_X9_as_J55 (x1 : Int32) (I : Nat → Int32) (F : Nat → Nat → Int32) (hs : Int64) (post : Int32 → Prop) : Prop :=
  w_X9_as_J60 x1 (1 : Int32) I F hs post
def w_X9_as (a1 : Int32) (a2 : Int32) (I : Nat → Int32) (F : Nat → Nat → Int32) (hs : Int64) (post : Int32 → Prop) : Prop :=
  w_X9_isChord a1 I F hs (fun (r2 : Int32) => ((¬ r2 = 0 → w_X9_in ((a2).toInt64) (0 : Int64) (4 : Int64) I F hs (fun (r4 : Int32) => ((¬ r4 = 0 → ((a2 = 0 → w_X9_as_J55 a1 I F hs post) ∧ (¬ a2 = 0 → vp_in a1 8 ∧ ((a2 = (F 14 (a1).toNatClampNeg) → w_X9_as_J55 a1 I F hs post) ∧ (¬ a2 = (F 14 (a1).toNatClampNeg) → ((¬ a2 = (2 : Int32) → w_X9_as_J59 a1 I F hs post) ∧ (a2 = (2 : Int32) → vp_in a1 8 ∧ ((¬ (F 14 (a1).toNatClampNeg) = (4 : Int32) → w_X9_as_J59 a1 I F hs post) ∧ ((F 14 (a1).toNatClampNeg) = (4 : Int32) → w_X9_as_J55 a1 I F hs post))))))))) ∧ (r4 = 0 → post (-102 : Int32))))) ∧ (r2 = 0 → post (-101 : Int32))))
set_option maxHeartbeats 4000000 in
set_option maxRecDepth 100000 in
theorem c_X9_as (l : Launch) (D : va_G) (q : Nat → Nat) (cI cO : ClassId) (hq : mOk q) (a1 : Int32) (a2 : Int32)  (I : Nat → Int32) (F : Nat → Nat → Int32) (hs : Int64) (post : Int32 → Prop) (h : w_X9_as a1 a2 I F hs post) : Met l yX9_as wsX9_as ({ frames := 2, cells := 0, slots := 0, locals := 46 } : Room) (gPre D (mTys cI) (mW q cI cO I F hs) mEnv [.ref (q 0), .int a1, .int a2]) (va_Qi (fun r (_ : Unit) => post r) (gB D (fun _ : Unit => mW q cI cO I F hs)) (mA q)) 0 0 (mA q) := by
  refine gMetI (by decide) rfl (Nat.le_of_ble_eq_true rfl) ?_
  intro p e R s m args below meth c Q ls hR hx hb hml hown hts hK hE hP hl hret
  have hRf : 2 ≤ R.frames := by subst hR; exact Nat.le_refl _
  have hRl : 46 ≤ R.locals := by subst hR; exact Nat.le_refl _
  have hown : s.vm.findClass RX9 = some m.cls := hown
  have hl : lv_has ls 4 [(0, .ref (q 0)), (1, .int a1), (2, .int a2)] := hl
  have hS : va_S (mA q) s.heap s.heap [] := va_S.rf
  have hP : va_P D vwCl (mW q cI cO I F hs) s.heap := hP
  have J60 : ∀ (x1 : Int32) (z0 : Int32) (H : Heap) (locs : List Loc) (ls : Array Slot), va_P D vwCl (mW q cI cO I F hs) H → va_S (mA q) s.heap H locs → lv_has ls 4 [(1, .int x1)] → w_X9_as_J60 x1 z0 I F hs post → W p l e R s m args below meth c H locs 0 0 Q (F0 m 60 ls [.int z0]) := by
    intro x1 z0 H locs ls  hP hS hl h
    refine lv_istore_n (lv' := [(3, .int z0), (1, .int x1)]) hx hb dX9_as_60 rfl hl (by decide) rfl (fun ls hl => ?_)
    refine lv_iload_n hx hb dX9_as_61 rfl (lv_at hl 0 rfl) ?_
    refine lv_if_eq (tgt := 69) hx hb dX9_as_62 (by decide) (fun c1 => ?_) (fun c1 => ?_)
    · have h := h.1 c1
      refine lv_iconst (v := (-1 : Int32)) hx hb dX9_as_69 (by decide) ?_
      exact hret (-1 : Int32) () _ _ _ _ dX9_as_70 hP hS h
    · have h := h.2 c1
      refine lv_iload_n hx hb dX9_as_65 rfl (lv_at hl 1 rfl) ?_
      refine lv_goto (tgt := 70) hx hb dX9_as_66 (by decide) ?_
      exact hret x1 () _ _ _ _ dX9_as_70 hP hS h
  have J59 : ∀ (x1 : Int32) (H : Heap) (locs : List Loc) (ls : Array Slot), va_P D vwCl (mW q cI cO I F hs) H → va_S (mA q) s.heap H locs → lv_has ls 4 [(1, .int x1)] → w_X9_as_J59 x1 I F hs post → W p l e R s m args below meth c H locs 0 0 Q (F0 m 59 ls []) := by
    intro x1 H locs ls  hP hS hl h
    refine lv_iconst (v := (0 : Int32)) hx hb dX9_as_59 (by decide) ?_
    exact J60 x1 (0 : Int32) _ _ _  hP hS (lv_sub hl [0] rfl) h
  have J55 : ∀ (x1 : Int32) (H : Heap) (locs : List Loc) (ls : Array Slot), va_P D vwCl (mW q cI cO I F hs) H → va_S (mA q) s.heap H locs → lv_has ls 4 [(1, .int x1)] → w_X9_as_J55 x1 I F hs post → W p l e R s m args below meth c H locs 0 0 Q (F0 m 55 ls []) := by
    intro x1 H locs ls  hP hS hl h
    refine lv_iconst (v := (1 : Int32)) hx hb dX9_as_55 (by decide) ?_
    refine lv_goto (tgt := 60) hx hb dX9_as_56 (by decide) ?_
    exact J60 x1 (1 : Int32) _ _ _  hP hS (lv_sub hl [0] rfl) h
  refine lv_aload_n hx hb dX9_as_0 rfl (lv_at hl 0 rfl) ?_
  refine lv_iload_n hx hb dX9_as_1 rfl (lv_at hl 1 rfl) ?_
  refine gCallI (D := D) (va_runV (As := [.int a1]) (rest := []) ⟨hx, hb, hml, hown, hts⟩ (c_X9_isChord l D q cI cO hq a1  I F hs _ h) (cwV 1 hts gX9_as_X9_isChord rfl rfl rfl (by decide +kernel) ⟨Nat.le_trans (Nat.le_of_ble_eq_true rfl) hRf, Nat.le_trans (Nat.le_of_ble_eq_true rfl) hRl⟩) (gPreV (ci := 9) (q0 := 0) mEok hE hK hP hS rfl mAt0) rfl rfl hl.1 rfl (lv_room (Nat.le_of_ble_eq_true rfl)) dX9_as_2 ⟨Nat.zero_le _, Nat.zero_le _⟩) hS (fun r2 _ H locs hP hS h => ?_)
  have hP : va_P D vwCl (mW q cI cO I F hs) H := hP
  refine lv_if_ne (tgt := 11) hx hb dX9_as_5 (by decide) (fun c3 => ?_) (fun c3 => ?_)
  · have h := h.1 c3
    refine lv_iload_n hx hb dX9_as_11 rfl (lv_at hl 2 rfl) ?_
    refine lv_i2l (v := (a2).toInt64) hx hb dX9_as_12 rfl ?_
    refine lv_lconst (v := (0 : Int64)) hx hb dX9_as_13 (by decide) ?_
    refine lv_ldc2 (v := (4 : Int64)) hx hb hown (hts _ (List.mem_of_getElem? (l := wsX9_as) (i := 1) rfl)) dX9_as_14 ?_
    refine gCallI (D := D) (va_runS (As := [.long ((a2).toInt64), .long (0 : Int64), .long (4 : Int64)]) (rest := []) ⟨hx, hb, hml, hown, hts⟩ (c_X9_in l D q cI cO hq ((a2).toInt64) (0 : Int64) (4 : Int64)  I F hs _ h) (va_cwS 3 hts gX9_as_X9_in rfl rfl rfl (by decide +kernel) ⟨Nat.le_trans (Nat.le_of_ble_eq_true rfl) hRf, Nat.le_trans (Nat.le_of_ble_eq_true rfl) hRl⟩) (gPreS mEok hE hK hP hS) rfl rfl hl.1 rfl (lv_room (Nat.le_of_ble_eq_true rfl)) dX9_as_17 ⟨Nat.zero_le _, Nat.zero_le _⟩) hS (fun r4 _ H locs hP hS h => ?_)
    have hP : va_P D vwCl (mW q cI cO I F hs) H := hP
    refine lv_if_ne (tgt := 26) hx hb dX9_as_20 (by decide) (fun c5 => ?_) (fun c5 => ?_)
    · have h := h.1 c5
      refine lv_iload_n hx hb dX9_as_26 rfl (lv_at hl 2 rfl) ?_
      refine lv_if_eq (tgt := 55) hx hb dX9_as_27 (by decide) (fun c6 => ?_) (fun c6 => ?_)
      · have h := h.1 c6
        exact J55 a1 _ _ _  hP hS (lv_sub hl [1] rfl) h
      · have h := h.2 c6
        refine lv_iload_n hx hb dX9_as_30 rfl (lv_at hl 2 rfl) ?_
        refine lv_aload_n hx hb dX9_as_31 rfl (lv_at hl 0 rfl) ?_
        refine va_get (D := D) (ci := 9) (v := .ref (q 14)) (C := RX9) (T := TX9) (N := 44) hx hb hts (fun _ h9 => List.mem_cons_of_mem _ (List.mem_append_right _ h9)) hown hK hP 0 mAt0 rfl 19 (by decide) (hts _ (List.mem_of_getElem? (l := wsX9_as) (i := 2) rfl)) (fun _ h9 => h9) rfl dX9_as_32 ?_
        refine lv_iload_n hx hb dX9_as_35 rfl (lv_at hl 1 rfl) ?_
        refine va_iald (D := D) hx hb hK hP 14 0 mAr14 rfl h.1 dX9_as_36 ?_
        have h := h.2
        refine lv_icmp_eq (tgt := 55) hx hb dX9_as_37 (by decide) (fun c7 => ?_) (fun c7 => ?_)
        · have h := h.1 c7
          exact J55 a1 _ _ _  hP hS (lv_sub hl [1] rfl) h
        · have h := h.2 c7
          refine lv_iload_n hx hb dX9_as_40 rfl (lv_at hl 2 rfl) ?_
          refine lv_iconst (v := (2 : Int32)) hx hb dX9_as_41 (by decide) ?_
          refine lv_icmp_ne (tgt := 59) hx hb dX9_as_42 (by decide) (fun c8 => ?_) (fun c8 => ?_)
          · have h := h.1 c8
            exact J59 a1 _ _ _  hP hS (lv_sub hl [1] rfl) h
          · have h := h.2 c8
            refine lv_aload_n hx hb dX9_as_45 rfl (lv_at hl 0 rfl) ?_
            refine va_get (D := D) (ci := 9) (v := .ref (q 14)) (C := RX9) (T := TX9) (N := 44) hx hb hts (fun _ h9 => List.mem_cons_of_mem _ (List.mem_append_right _ h9)) hown hK hP 0 mAt0 rfl 19 (by decide) (hts _ (List.mem_of_getElem? (l := wsX9_as) (i := 2) rfl)) (fun _ h9 => h9) rfl dX9_as_46 ?_
            refine lv_iload_n hx hb dX9_as_49 rfl (lv_at hl 1 rfl) ?_
            refine va_iald (D := D) hx hb hK hP 14 0 mAr14 rfl h.1 dX9_as_50 ?_
            have h := h.2
            refine lv_iconst (v := (4 : Int32)) hx hb dX9_as_51 (by decide) ?_
            refine lv_icmp_ne (tgt := 59) hx hb dX9_as_52 (by decide) (fun c9 => ?_) (fun c9 => ?_)
            · have h := h.1 c9
              exact J59 a1 _ _ _  hP hS (lv_sub hl [1] rfl) h
            · have h := h.2 c9
              exact J55 a1 _ _ _  hP hS (lv_sub hl [1] rfl) h
    · have h := h.2 c5
      refine lv_bipush (v := (-102 : Int32)) hx hb dX9_as_23 (by decide) ?_
      exact hret (-102 : Int32) () _ _ _ _ dX9_as_25 hP hS h
  · have h := h.2 c3
    refine lv_bipush (v := (-101 : Int32)) hx hb dX9_as_8 (by decide) ?_
    exact hret (-101 : Int32) () _ _ _ _ dX9_as_10 hP hS h
def w_X9_tone (a1 : Int32) (a2 : Int32) (I : Nat → Int32) (F : Nat → Nat → Int32) (hs : Int64) (post : Int32 → Prop) : Prop :=
  w_X9_in ((a1).toInt64) (0 : Int64) (6 : Int64) I F hs (fun (r1 : Int32) => ((¬ r1 = 0 → w_X9_in ((a2).toInt64) (0 : Int64) (2 : Int64) I F hs (fun (r3 : Int32) => ((r3 = 0 → post (-102 : Int32)) ∧ (¬ r3 = 0 → w_X9_toneOf a1 a2 I F hs (fun (r5 : Int32) => post r5))))) ∧ (r1 = 0 → post (-101 : Int32))))
set_option maxHeartbeats 4000000 in
set_option maxRecDepth 100000 in
theorem c_X9_tone (l : Launch) (D : va_G) (q : Nat → Nat) (cI cO : ClassId) (hq : mOk q) (a1 : Int32) (a2 : Int32)  (I : Nat → Int32) (F : Nat → Nat → Int32) (hs : Int64) (post : Int32 → Prop) (h : w_X9_tone a1 a2 I F hs post) : Met l yX9_tone wsX9_tone ({ frames := 1, cells := 0, slots := 0, locals := 25 } : Room) (gPre D (mTys cI) (mW q cI cO I F hs) mEnv [.ref (q 0), .int a1, .int a2]) (va_Qi (fun r (_ : Unit) => post r) (gB D (fun _ : Unit => mW q cI cO I F hs)) (mA q)) 0 0 (mA q) := by
  refine gMetI (by decide) rfl (Nat.le_of_ble_eq_true rfl) ?_
  intro p e R s m args below meth c Q ls hR hx hb hml hown hts hK hE hP hl hret
  have hRf : 1 ≤ R.frames := by subst hR; exact Nat.le_refl _
  have hRl : 25 ≤ R.locals := by subst hR; exact Nat.le_refl _
  have hown : s.vm.findClass RX9 = some m.cls := hown
  have hl : lv_has ls 3 [(0, .ref (q 0)), (1, .int a1), (2, .int a2)] := hl
  have hS : va_S (mA q) s.heap s.heap [] := va_S.rf
  have hP : va_P D vwCl (mW q cI cO I F hs) s.heap := hP
  refine lv_iload_n hx hb dX9_tone_0 rfl (lv_at hl 1 rfl) ?_
  refine lv_i2l (v := (a1).toInt64) hx hb dX9_tone_1 rfl ?_
  refine lv_lconst (v := (0 : Int64)) hx hb dX9_tone_2 (by decide) ?_
  refine lv_ldc2 (v := (6 : Int64)) hx hb hown (hts _ (List.mem_of_getElem? (l := wsX9_tone) (i := 1) rfl)) dX9_tone_3 ?_
  refine gCallI (D := D) (va_runS (As := [.long ((a1).toInt64), .long (0 : Int64), .long (6 : Int64)]) (rest := []) ⟨hx, hb, hml, hown, hts⟩ (c_X9_in l D q cI cO hq ((a1).toInt64) (0 : Int64) (6 : Int64)  I F hs _ h) (va_cwS 3 hts gX9_tone_X9_in rfl rfl rfl (by decide +kernel) ⟨Nat.le_trans (Nat.le_of_ble_eq_true rfl) hRf, Nat.le_trans (Nat.le_of_ble_eq_true rfl) hRl⟩) (gPreS mEok hE hK hP hS) rfl rfl hl.1 rfl (lv_room (Nat.le_of_ble_eq_true rfl)) dX9_tone_6 ⟨Nat.zero_le _, Nat.zero_le _⟩) hS (fun r1 _ H locs hP hS h => ?_)
  have hP : va_P D vwCl (mW q cI cO I F hs) H := hP
  refine lv_if_ne (tgt := 15) hx hb dX9_tone_9 (by decide) (fun c2 => ?_) (fun c2 => ?_)
  · have h := h.1 c2
    refine lv_iload_n hx hb dX9_tone_15 rfl (lv_at hl 2 rfl) ?_
    refine lv_i2l (v := (a2).toInt64) hx hb dX9_tone_16 rfl ?_
    refine lv_lconst (v := (0 : Int64)) hx hb dX9_tone_17 (by decide) ?_
    refine lv_ldc2 (v := (2 : Int64)) hx hb hown (hts _ (List.mem_of_getElem? (l := wsX9_tone) (i := 2) rfl)) dX9_tone_18 ?_
    refine gCallI (D := D) (va_runS (As := [.long ((a2).toInt64), .long (0 : Int64), .long (2 : Int64)]) (rest := []) ⟨hx, hb, hml, hown, hts⟩ (c_X9_in l D q cI cO hq ((a2).toInt64) (0 : Int64) (2 : Int64)  I F hs _ h) (va_cwS 3 hts gX9_tone_X9_in rfl rfl rfl (by decide +kernel) ⟨Nat.le_trans (Nat.le_of_ble_eq_true rfl) hRf, Nat.le_trans (Nat.le_of_ble_eq_true rfl) hRl⟩) (gPreS mEok hE hK hP hS) rfl rfl hl.1 rfl (lv_room (Nat.le_of_ble_eq_true rfl)) dX9_tone_21 ⟨Nat.zero_le _, Nat.zero_le _⟩) hS (fun r3 _ H locs hP hS h => ?_)
    have hP : va_P D vwCl (mW q cI cO I F hs) H := hP
    refine lv_if_eq (tgt := 36) hx hb dX9_tone_24 (by decide) (fun c4 => ?_) (fun c4 => ?_)
    · have h := h.1 c4
      refine lv_bipush (v := (-102 : Int32)) hx hb dX9_tone_36 (by decide) ?_
      exact hret (-102 : Int32) () _ _ _ _ dX9_tone_38 hP hS h
    · have h := h.2 c4
      refine lv_aload_n hx hb dX9_tone_27 rfl (lv_at hl 0 rfl) ?_
      refine lv_iload_n hx hb dX9_tone_28 rfl (lv_at hl 1 rfl) ?_
      refine lv_iload_n hx hb dX9_tone_29 rfl (lv_at hl 2 rfl) ?_
      refine gCallI (D := D) (va_runV (As := [.int a1, .int a2]) (rest := []) ⟨hx, hb, hml, hown, hts⟩ (c_X9_toneOf l D q cI cO hq a1 a2  I F hs _ h) (cwV 2 hts gX9_tone_X9_toneOf rfl rfl rfl (by decide +kernel) ⟨Nat.le_trans (Nat.le_of_ble_eq_true rfl) hRf, Nat.le_trans (Nat.le_of_ble_eq_true rfl) hRl⟩) (gPreV (ci := 9) (q0 := 0) mEok hE hK hP hS rfl mAt0) rfl rfl hl.1 rfl (lv_room (Nat.le_of_ble_eq_true rfl)) dX9_tone_30 ⟨Nat.zero_le _, Nat.zero_le _⟩) hS (fun r5 _ H locs hP hS h => ?_)
      have hP : va_P D vwCl (mW q cI cO I F hs) H := hP
      refine lv_goto (tgt := 38) hx hb dX9_tone_33 (by decide) ?_
      exact hret r5 () _ _ _ _ dX9_tone_38 hP hS h
  · have h := h.2 c2
    refine lv_bipush (v := (-101 : Int32)) hx hb dX9_tone_12 (by decide) ?_
    exact hret (-101 : Int32) () _ _ _ _ dX9_tone_14 hP hS h
def w_X9_lacks  (I : Nat → Int32) (F : Nat → Nat → Int32) (hs : Int64) (post : Int32 → Prop) : Prop :=
  ((¬ (I 3) = 0 → post (0 : Int32)) ∧ ((I 3) = 0 → post (1 : Int32)))
set_option maxHeartbeats 4000000 in
set_option maxRecDepth 100000 in
theorem c_X9_lacks (l : Launch) (D : va_G) (q : Nat → Nat) (cI cO : ClassId) (hq : mOk q)   (I : Nat → Int32) (F : Nat → Nat → Int32) (hs : Int64) (post : Int32 → Prop) (h : w_X9_lacks  I F hs post) : Met l yX9_lacks wsX9_lacks ({ frames := 0, cells := 0, slots := 0, locals := 0 } : Room) (gPre D (mTys cI) (mW q cI cO I F hs) mEnv [.ref (q 0)]) (va_Qi (fun r (_ : Unit) => post r) (gB D (fun _ : Unit => mW q cI cO I F hs)) (mA q)) 0 0 (mA q) := by
  refine gMetZ (by decide) rfl (Nat.le_of_ble_eq_true rfl) ?_
  intro p e R s m args below meth c Q ls hR hx hb hml hown hts hK hE hP hl hret
  have hRf : 0 ≤ R.frames := by subst hR; exact Nat.le_refl _
  have hRl : 0 ≤ R.locals := by subst hR; exact Nat.le_refl _
  have hown : s.vm.findClass RX9 = some m.cls := hown
  have hl : lv_has ls 1 [(0, .ref (q 0))] := hl
  have hS : va_S (mA q) s.heap s.heap [] := va_S.rf
  have hP : va_P D vwCl (mW q cI cO I F hs) s.heap := hP
  refine lv_aload_n hx hb dX9_lacks_0 rfl (lv_at hl 0 rfl) ?_
  refine va_get (D := D) (ci := 9) (v := .int (I 3)) (C := RX9) (T := TX9) (N := 44) hx hb hts (fun _ h9 => List.mem_cons_of_mem _ (List.mem_append_right _ h9)) hown hK hP 0 mAt0 rfl 16 (by decide) (hts _ (List.mem_of_getElem? (l := wsX9_lacks) (i := 1) rfl)) (fun _ h9 => h9) rfl dX9_lacks_1 ?_
  refine lv_if_ne (tgt := 11) hx hb dX9_lacks_4 (by decide) (fun c1 => ?_) (fun c1 => ?_)
  · have h := h.1 c1
    refine lv_iconst (v := (0 : Int32)) hx hb dX9_lacks_11 (by decide) ?_
    exact hret (0 : Int32) () _ _ _ _ dX9_lacks_12 hP hS (by decide) h
  · have h := h.2 c1
    refine lv_iconst (v := (1 : Int32)) hx hb dX9_lacks_7 (by decide) ?_
    refine lv_goto (tgt := 12) hx hb dX9_lacks_8 (by decide) ?_
    exact hret (1 : Int32) () _ _ _ _ dX9_lacks_12 hP hS (by decide) h
def w_X9_press (a1 : Int32) (a2 : Int32) (I : Nat → Int32) (F : Nat → Nat → Int32) (hs : Int64) (post : Int32 → (Nat → Int32) → (Nat → Nat → Int32) → Int64 → Prop) : Prop :=
  w_X9_in ((a1).toInt64) (0 : Int64) (6 : Int64) I F hs (fun (r1 : Int32) => ((¬ r1 = 0 → w_X9_in ((a2).toInt64) (0 : Int64) (2 : Int64) I F hs (fun (r3 : Int32) => ((¬ r3 = 0 → w_X9_lacks I F hs (fun (r5 : Int32) => ((r5 = 0 → w_X9_positionOf (I 4) a1 I F hs (fun (r7 : Int32) => vp_in a1 7 ∧ ∀ I8 : Nat → Int32, I8 = upd I 4 ((I 4) + ((a2 - r7) * (F 1 (a1).toNatClampNeg))) → ∀ I9 : Nat → Int32, I9 = upd I8 6 (1 : Int32) → w_X9_told (I9 4) I9 F hs (fun (r10 : Int32) => post r10 I9 F hs))) ∧ (¬ r5 = 0 → post (-103 : Int32) I F hs)))) ∧ (r3 = 0 → post (-102 : Int32) I F hs)))) ∧ (r1 = 0 → post (-101 : Int32) I F hs)))
set_option maxHeartbeats 4000000 in
set_option maxRecDepth 100000 in
theorem c_X9_press (l : Launch) (D : va_G) (q : Nat → Nat) (cI cO : ClassId) (hq : mOk q) (a1 : Int32) (a2 : Int32)  (I : Nat → Int32) (F : Nat → Nat → Int32) (hs : Int64) (post : Int32 → (Nat → Int32) → (Nat → Nat → Int32) → Int64 → Prop) (h : w_X9_press a1 a2 I F hs post) : Met l yX9_press wsX9_press ({ frames := 2, cells := 0, slots := 0, locals := 45 } : Room) (gPre D (mTys cI) (mW q cI cO I F hs) mEnv [.ref (q 0), .int a1, .int a2]) (va_Qi (fun r (u : mS) => post r u.1 u.2.1 u.2.2) (gB D (fun u : mS => mW q cI cO u.1 u.2.1 u.2.2)) (mA q)) 0 0 (mA q) := by
  refine gMetI (by decide) rfl (Nat.le_of_ble_eq_true rfl) ?_
  intro p e R s m args below meth c Q ls hR hx hb hml hown hts hK hE hP hl hret
  have hRf : 2 ≤ R.frames := by subst hR; exact Nat.le_refl _
  have hRl : 45 ≤ R.locals := by subst hR; exact Nat.le_refl _
  have hown : s.vm.findClass RX9 = some m.cls := hown
  have hl : lv_has ls 3 [(0, .ref (q 0)), (1, .int a1), (2, .int a2)] := hl
  have hS : va_S (mA q) s.heap s.heap [] := va_S.rf
  have hP : va_P D vwCl (mW q cI cO I F hs) s.heap := hP
  refine lv_iload_n hx hb dX9_press_0 rfl (lv_at hl 1 rfl) ?_
  refine lv_i2l (v := (a1).toInt64) hx hb dX9_press_1 rfl ?_
  refine lv_lconst (v := (0 : Int64)) hx hb dX9_press_2 (by decide) ?_
  refine lv_ldc2 (v := (6 : Int64)) hx hb hown (hts _ (List.mem_of_getElem? (l := wsX9_press) (i := 1) rfl)) dX9_press_3 ?_
  refine gCallI (D := D) (va_runS (As := [.long ((a1).toInt64), .long (0 : Int64), .long (6 : Int64)]) (rest := []) ⟨hx, hb, hml, hown, hts⟩ (c_X9_in l D q cI cO hq ((a1).toInt64) (0 : Int64) (6 : Int64)  I F hs _ h) (va_cwS 3 hts gX9_press_X9_in rfl rfl rfl (by decide +kernel) ⟨Nat.le_trans (Nat.le_of_ble_eq_true rfl) hRf, Nat.le_trans (Nat.le_of_ble_eq_true rfl) hRl⟩) (gPreS mEok hE hK hP hS) rfl rfl hl.1 rfl (lv_room (Nat.le_of_ble_eq_true rfl)) dX9_press_6 ⟨Nat.zero_le _, Nat.zero_le _⟩) hS (fun r1 _ H locs hP hS h => ?_)
  have hP : va_P D vwCl (mW q cI cO I F hs) H := hP
  refine lv_if_ne (tgt := 15) hx hb dX9_press_9 (by decide) (fun c2 => ?_) (fun c2 => ?_)
  · have h := h.1 c2
    refine lv_iload_n hx hb dX9_press_15 rfl (lv_at hl 2 rfl) ?_
    refine lv_i2l (v := (a2).toInt64) hx hb dX9_press_16 rfl ?_
    refine lv_lconst (v := (0 : Int64)) hx hb dX9_press_17 (by decide) ?_
    refine lv_ldc2 (v := (2 : Int64)) hx hb hown (hts _ (List.mem_of_getElem? (l := wsX9_press) (i := 2) rfl)) dX9_press_18 ?_
    refine gCallI (D := D) (va_runS (As := [.long ((a2).toInt64), .long (0 : Int64), .long (2 : Int64)]) (rest := []) ⟨hx, hb, hml, hown, hts⟩ (c_X9_in l D q cI cO hq ((a2).toInt64) (0 : Int64) (2 : Int64)  I F hs _ h) (va_cwS 3 hts gX9_press_X9_in rfl rfl rfl (by decide +kernel) ⟨Nat.le_trans (Nat.le_of_ble_eq_true rfl) hRf, Nat.le_trans (Nat.le_of_ble_eq_true rfl) hRl⟩) (gPreS mEok hE hK hP hS) rfl rfl hl.1 rfl (lv_room (Nat.le_of_ble_eq_true rfl)) dX9_press_21 ⟨Nat.zero_le _, Nat.zero_le _⟩) hS (fun r3 _ H locs hP hS h => ?_)
    have hP : va_P D vwCl (mW q cI cO I F hs) H := hP
    refine lv_if_ne (tgt := 30) hx hb dX9_press_24 (by decide) (fun c4 => ?_) (fun c4 => ?_)
    · have h := h.1 c4
      refine lv_aload_n hx hb dX9_press_30 rfl (lv_at hl 0 rfl) ?_
      refine gCallI (D := D) (va_runV (As := []) (rest := []) ⟨hx, hb, hml, hown, hts⟩ (c_X9_lacks l D q cI cO hq   I F hs _ h) (cwV 0 hts gX9_press_X9_lacks rfl rfl rfl (by decide +kernel) ⟨Nat.le_trans (Nat.le_of_ble_eq_true rfl) hRf, Nat.le_trans (Nat.le_of_ble_eq_true rfl) hRl⟩) (gPreV (ci := 9) (q0 := 0) mEok hE hK hP hS rfl mAt0) rfl rfl hl.1 rfl (lv_room (Nat.le_of_ble_eq_true rfl)) dX9_press_31 ⟨Nat.zero_le _, Nat.zero_le _⟩) hS (fun r5 _ H locs hP hS h => ?_)
      have hP : va_P D vwCl (mW q cI cO I F hs) H := hP
      refine lv_if_eq (tgt := 40) hx hb dX9_press_34 (by decide) (fun c6 => ?_) (fun c6 => ?_)
      · have h := h.1 c6
        refine lv_aload_n hx hb dX9_press_40 rfl (lv_at hl 0 rfl) ?_
        refine lv_dup hx hb dX9_press_41 rfl ?_
        refine va_get (D := D) (ci := 9) (v := .int (I 4)) (C := RX9) (T := TX9) (N := 44) hx hb hts (fun _ h9 => List.mem_cons_of_mem _ (List.mem_append_right _ h9)) hown hK hP 0 mAt0 rfl 17 (by decide) (hts _ (List.mem_of_getElem? (l := wsX9_press) (i := 3) rfl)) (fun _ h9 => h9) rfl dX9_press_42 ?_
        refine lv_iload_n hx hb dX9_press_45 rfl (lv_at hl 2 rfl) ?_
        refine lv_aload_n hx hb dX9_press_46 rfl (lv_at hl 0 rfl) ?_
        refine lv_aload_n hx hb dX9_press_47 rfl (lv_at hl 0 rfl) ?_
        refine va_get (D := D) (ci := 9) (v := .int (I 4)) (C := RX9) (T := TX9) (N := 44) hx hb hts (fun _ h9 => List.mem_cons_of_mem _ (List.mem_append_right _ h9)) hown hK hP 0 mAt0 rfl 17 (by decide) (hts _ (List.mem_of_getElem? (l := wsX9_press) (i := 3) rfl)) (fun _ h9 => h9) rfl dX9_press_48 ?_
        refine lv_iload_n hx hb dX9_press_51 rfl (lv_at hl 1 rfl) ?_
        refine gCallI (D := D) (va_runV (As := [.int (I 4), .int a1]) (rest := [.int a2, .int (I 4), .ref (q 0)]) ⟨hx, hb, hml, hown, hts⟩ (c_X9_positionOf l D q cI cO hq (I 4) a1  I F hs _ h) (cwV 2 hts gX9_press_X9_positionOf rfl rfl rfl (by decide +kernel) ⟨Nat.le_trans (Nat.le_of_ble_eq_true rfl) hRf, Nat.le_trans (Nat.le_of_ble_eq_true rfl) hRl⟩) (gPreV (ci := 9) (q0 := 0) mEok hE hK hP hS rfl mAt0) rfl rfl hl.1 rfl (lv_room (Nat.le_of_ble_eq_true rfl)) dX9_press_52 ⟨Nat.zero_le _, Nat.zero_le _⟩) hS (fun r7 _ H locs hP hS h => ?_)
        have hP : va_P D vwCl (mW q cI cO I F hs) H := hP
        refine lv_isub hx hb dX9_press_55 ?_
        refine lv_aload_n hx hb dX9_press_56 rfl (lv_at hl 0 rfl) ?_
        refine va_get (D := D) (ci := 9) (v := .ref (q 1)) (C := RX9) (T := TX9) (N := 44) hx hb hts (fun _ h9 => List.mem_cons_of_mem _ (List.mem_append_right _ h9)) hown hK hP 0 mAt0 rfl 0 (by decide) (hts _ (List.mem_of_getElem? (l := wsX9_press) (i := 4) rfl)) (fun _ h9 => h9) rfl dX9_press_57 ?_
        refine lv_iload_n hx hb dX9_press_60 rfl (lv_at hl 1 rfl) ?_
        refine va_iald (D := D) hx hb hK hP 1 0 mAr1 rfl h.1 dX9_press_61 ?_
        have h := h.2
        refine lv_imul hx hb dX9_press_62 ?_
        refine lv_iadd hx hb dX9_press_63 ?_
        refine gPut (D := D) (ci := 9) (ty := .int) (C := RX9) (T := TX9) (N := 44) hx hb hts (fun _ h9 => List.mem_cons_of_mem _ (List.mem_append_right _ h9)) tyX9 tyX9_ok nmX9 hown hK hP (mD hq) hS 0 mAt0 rfl 17 (by decide) (hts _ (List.mem_of_getElem? (l := wsX9_press) (i := 3) rfl)) (fun _ h9 => h9) rfl (by decide +kernel) rfl rfl (Nat.le_of_ble_eq_true rfl) dX9_press_64 (mSet4 ((I 4) + ((a2 - r7) * (F 1 (a1).toNatClampNeg)))) (fun H locs hP hS => ?_)
        obtain ⟨I8, eI8⟩ : ∃ z : Nat → Int32, z = upd I 4 ((I 4) + ((a2 - r7) * (F 1 (a1).toNatClampNeg))) := ⟨_, rfl⟩
        rw [← eI8] at hP
        have h := h I8 eI8
        refine lv_aload_n hx hb dX9_press_67 rfl (lv_at hl 0 rfl) ?_
        refine lv_iconst (v := (1 : Int32)) hx hb dX9_press_68 (by decide) ?_
        refine gPut (D := D) (ci := 9) (ty := .boolean) (C := RX9) (T := TX9) (N := 44) hx hb hts (fun _ h9 => List.mem_cons_of_mem _ (List.mem_append_right _ h9)) tyX9 tyX9_ok nmX9 hown hK hP (mD hq) hS 0 mAt0 rfl 21 (by decide) (hts _ (List.mem_of_getElem? (l := wsX9_press) (i := 5) rfl)) (fun _ h9 => h9) rfl (by decide +kernel) (by decide) (by decide) (Nat.le_of_ble_eq_true rfl) dX9_press_69 (mSet6 (1 : Int32)) (fun H locs hP hS => ?_)
        obtain ⟨I9, eI9⟩ : ∃ z : Nat → Int32, z = upd I8 6 (1 : Int32) := ⟨_, rfl⟩
        rw [← eI9] at hP
        have h := h I9 eI9
        refine lv_aload_n hx hb dX9_press_72 rfl (lv_at hl 0 rfl) ?_
        refine lv_aload_n hx hb dX9_press_73 rfl (lv_at hl 0 rfl) ?_
        refine va_get (D := D) (ci := 9) (v := .int (I9 4)) (C := RX9) (T := TX9) (N := 44) hx hb hts (fun _ h9 => List.mem_cons_of_mem _ (List.mem_append_right _ h9)) hown hK hP 0 mAt0 rfl 17 (by decide) (hts _ (List.mem_of_getElem? (l := wsX9_press) (i := 3) rfl)) (fun _ h9 => h9) rfl dX9_press_74 ?_
        refine gCallI (D := D) (va_runV (As := [.int (I9 4)]) (rest := []) ⟨hx, hb, hml, hown, hts⟩ (c_X9_told l D q cI cO hq (I9 4)  I9 F hs _ h) (cwV 1 hts gX9_press_X9_told rfl rfl rfl (by decide +kernel) ⟨Nat.le_trans (Nat.le_of_ble_eq_true rfl) hRf, Nat.le_trans (Nat.le_of_ble_eq_true rfl) hRl⟩) (gPreV (ci := 9) (q0 := 0) mEok hE hK hP hS rfl mAt0) rfl rfl hl.1 rfl (lv_room (Nat.le_of_ble_eq_true rfl)) dX9_press_77 ⟨Nat.zero_le _, Nat.zero_le _⟩) hS (fun r10 _ H locs hP hS h => ?_)
        have hP : va_P D vwCl (mW q cI cO I9 F hs) H := hP
        exact hret r10 (I9, F, hs) _ _ _ _ dX9_press_80 hP hS h
      · have h := h.2 c6
        refine lv_bipush (v := (-103 : Int32)) hx hb dX9_press_37 (by decide) ?_
        exact hret (-103 : Int32) (I, F, hs) _ _ _ _ dX9_press_39 hP hS h
    · have h := h.2 c4
      refine lv_bipush (v := (-102 : Int32)) hx hb dX9_press_27 (by decide) ?_
      exact hret (-102 : Int32) (I, F, hs) _ _ _ _ dX9_press_29 hP hS h
  · have h := h.2 c2
    refine lv_bipush (v := (-101 : Int32)) hx hb dX9_press_12 (by decide) ?_
    exact hret (-101 : Int32) (I, F, hs) _ _ _ _ dX9_press_14 hP hS h
def w_X9_put_B80 (x1 : Int32) (x2 : Int32) (x3 : Int32) (k again : Int32 → (Nat → Int32) → (Nat → Nat → Int32) → Int64 → Prop) (x4 : Int32) (I : Nat → Int32) (F : Nat → Nat → Int32) (hs : Int64) : Prop :=
  ((x4 ≤ x1 → k x4 I F hs) ∧ (¬ x4 ≤ x1 → vp_in (x4 - (1 : Int32)) 8 ∧ vp_in x4 8 ∧ ∀ F2 : Nat → Nat → Int32, F2 = upF F 14 (upd (F 14) (x4).toNatClampNeg (F 14 ((x4 - (1 : Int32))).toNatClampNeg)) → vp_in (x4 - (1 : Int32)) 8 ∧ vp_in x4 8 ∧ ∀ F3 : Nat → Nat → Int32, F3 = upF F2 15 (upd (F2 15) (x4).toNatClampNeg (F2 15 ((x4 - (1 : Int32))).toNatClampNeg)) → again (x4 + (-1 : Int32)) I F3 hs))
def w_X9_put (a1 : Int32) (a2 : Int32) (a3 : Int32) (I : Nat → Int32) (F : Nat → Nat → Int32) (hs : Int64) (post : Int32 → (Nat → Int32) → (Nat → Nat → Int32) → Int64 → Prop) : Prop :=
  w_X9_in ((a1).toInt64) (0 : Int64) (((I 3)).toInt64) I F hs (fun (r4 : Int32) => ((¬ r4 = 0 → w_X9_in ((a2).toInt64) (0 : Int64) (4 : Int64) I F hs (fun (r6 : Int32) => ((r6 = 0 → post (-102 : Int32) I F hs) ∧ (¬ r6 = 0 → w_X9_in ((a3).toInt64) (1 : Int64) (4095 : Int64) I F hs (fun (r8 : Int32) => ((r8 = 0 → post (-102 : Int32) I F hs) ∧ (¬ r8 = 0 → w_X9_ones a3 I F hs (fun (r10 : Int32) => ((r10 ≤ (4 : Int32) → w_X9_lacks I F hs (fun (r12 : Int32) => ((r12 = 0 → ((¬ (I 3) = (8 : Int32) → ∀ v15 : Int32, v15 = (I 3) → gL (fun ag v => w_X9_put_B80 a1 a2 a3 (fun (y16 : Int32) (I17 : Nat → Int32) (F18 : Nat → Nat → Int32) (hs19 : Int64) => vp_in a1 8 ∧ ∀ F20 : Nat → Nat → Int32, F20 = upF F18 14 (upd (F18 14) (a1).toNatClampNeg a2) → vp_in a1 8 ∧ ∀ F21 : Nat → Nat → Int32, F21 = upF F20 15 (upd (F20 15) (a1).toNatClampNeg a3) → ∀ I22 : Nat → Int32, I22 = upd I17 3 ((I17 3) + (1 : Int32)) → ∀ I23 : Nat → Int32, I23 = upd I22 6 (1 : Int32) → post (I23 3) I23 F21 hs19) (fun b0 b1 b2 b3 => ag (b0, b1, b2, b3)) v.1 v.2.1 v.2.2.1 v.2.2.2) (v15, I, F, hs)) ∧ ((I 3) = (8 : Int32) → post (-104 : Int32) I F hs))) ∧ (¬ r12 = 0 → post (-103 : Int32) I F hs)))) ∧ (¬ r10 ≤ (4 : Int32) → post (-102 : Int32) I F hs)))))))))) ∧ (r4 = 0 → post (-101 : Int32) I F hs)))
set_option maxHeartbeats 4000000 in
set_option maxRecDepth 100000 in
theorem c_X9_put (l : Launch) (D : va_G) (q : Nat → Nat) (cI cO : ClassId) (hq : mOk q) (a1 : Int32) (a2 : Int32) (a3 : Int32)  (I : Nat → Int32) (F : Nat → Nat → Int32) (hs : Int64) (post : Int32 → (Nat → Int32) → (Nat → Nat → Int32) → Int64 → Prop) (h : w_X9_put a1 a2 a3 I F hs post) : Met l yX9_put wsX9_put ({ frames := 1, cells := 0, slots := 0, locals := 25 } : Room) (gPre D (mTys cI) (mW q cI cO I F hs) mEnv [.ref (q 0), .int a1, .int a2, .int a3]) (va_Qi (fun r (u : mS) => post r u.1 u.2.1 u.2.2) (gB D (fun u : mS => mW q cI cO u.1 u.2.1 u.2.2)) (mA q)) 0 0 (mA q) := by
  refine gMetI (by decide) rfl (Nat.le_of_ble_eq_true rfl) ?_
  intro p e R s m args below meth c Q ls hR hx hb hml hown hts hK hE hP hl hret
  have hRf : 1 ≤ R.frames := by subst hR; exact Nat.le_refl _
  have hRl : 25 ≤ R.locals := by subst hR; exact Nat.le_refl _
  have hown : s.vm.findClass RX9 = some m.cls := hown
  have hl : lv_has ls 5 [(0, .ref (q 0)), (1, .int a1), (2, .int a2), (3, .int a3)] := hl
  have hS : va_S (mA q) s.heap s.heap [] := va_S.rf
  have hP : va_P D vwCl (mW q cI cO I F hs) s.heap := hP
  have L80 : ∀ (n : Nat) (x1 : Int32) (x2 : Int32) (x3 : Int32) (k : Int32 → (Nat → Int32) → (Nat → Nat → Int32) → Int64 → Prop) (x4 : Int32) (I : Nat → Int32) (F : Nat → Nat → Int32) (hs : Int64) (H : Heap) (locs : List Loc) (ls : Array Slot), va_P D vwCl (mW q cI cO I F hs) H → va_S (mA q) s.heap H locs → lv_has ls 5 [(0, .ref (q 0)), (1, .int x1), (2, .int x2), (3, .int x3), (4, .int x4)] → gLN (fun ag v => w_X9_put_B80 x1 x2 x3 k (fun b0 b1 b2 b3 => ag (b0, b1, b2, b3)) v.1 v.2.1 v.2.2.1 v.2.2.2) n (x4, I, F, hs) → (∀ (x4 : Int32) (I : Nat → Int32) (F : Nat → Nat → Int32) (hs : Int64) (H : Heap) (locs : List Loc) (ls : Array Slot), va_P D vwCl (mW q cI cO I F hs) H → va_S (mA q) s.heap H locs → lv_has ls 5 [(0, .ref (q 0)), (1, .int x1), (2, .int x2), (3, .int x3)] → k x4 I F hs → W p l e R s m args below meth c H locs 0 0 Q (F0 m 124 ls [])) → W p l e R s m args below meth c H locs 0 0 Q (F0 m 80 ls []) := by
    intro n
    induction n with
    | zero =>
      intro x1 x2 x3 k x4 I F hs H locs ls  hP hS hl h K
      exact False.elim h
    | succ n ih =>
      intro x1 x2 x3 k x4 I F hs H locs ls  hP hS hl h K
      have h : w_X9_put_B80 x1 x2 x3 k (fun b0 b1 b2 b3 => gLN (fun ag v => w_X9_put_B80 x1 x2 x3 k (fun b0 b1 b2 b3 => ag (b0, b1, b2, b3)) v.1 v.2.1 v.2.2.1 v.2.2.2) n (b0, b1, b2, b3)) x4 I F hs := h
      refine lv_iload hx hb dX9_put_80 (lv_at hl 4 rfl) ?_
      refine lv_iload_n hx hb dX9_put_82 rfl (lv_at hl 1 rfl) ?_
      refine lv_icmp_le (tgt := 124) hx hb dX9_put_83 (by decide) (fun c1 => ?_) (fun c1 => ?_)
      · have h := h.1 c1
        exact K x4 I F hs _ _ _  hP hS (lv_sub hl [0, 1, 2, 3] rfl) h
      · have h := h.2 c1
        refine lv_aload_n hx hb dX9_put_86 rfl (lv_at hl 0 rfl) ?_
        refine va_get (D := D) (ci := 9) (v := .ref (q 14)) (C := RX9) (T := TX9) (N := 44) hx hb hts (fun _ h9 => List.mem_cons_of_mem _ (List.mem_append_right _ h9)) hown hK hP 0 mAt0 rfl 19 (by decide) (hts _ (List.mem_of_getElem? (l := wsX9_put) (i := 4) rfl)) (fun _ h9 => h9) rfl dX9_put_87 ?_
        refine lv_iload hx hb dX9_put_90 (lv_at hl 4 rfl) ?_
        refine lv_aload_n hx hb dX9_put_92 rfl (lv_at hl 0 rfl) ?_
        refine va_get (D := D) (ci := 9) (v := .ref (q 14)) (C := RX9) (T := TX9) (N := 44) hx hb hts (fun _ h9 => List.mem_cons_of_mem _ (List.mem_append_right _ h9)) hown hK hP 0 mAt0 rfl 19 (by decide) (hts _ (List.mem_of_getElem? (l := wsX9_put) (i := 4) rfl)) (fun _ h9 => h9) rfl dX9_put_93 ?_
        refine lv_iload hx hb dX9_put_96 (lv_at hl 4 rfl) ?_
        refine lv_iconst (v := (1 : Int32)) hx hb dX9_put_98 (by decide) ?_
        refine lv_isub hx hb dX9_put_99 ?_
        refine va_iald (D := D) hx hb hK hP 14 0 mAr14 rfl h.1 dX9_put_100 ?_
        have h := h.2
        refine gAst (D := D) hx hb hK hP (mD hq) hS 14 0 mAr14 rfl h.1 dX9_put_101 (mSA14 _) (fun H locs hP hS => ?_)
        obtain ⟨F2, eF2⟩ : ∃ z : Nat → Nat → Int32, z = upF F 14 (upd (F 14) (x4).toNatClampNeg (F 14 ((x4 - (1 : Int32))).toNatClampNeg)) := ⟨_, rfl⟩
        rw [← eF2] at hP
        have h := h.2 F2 eF2
        refine lv_aload_n hx hb dX9_put_102 rfl (lv_at hl 0 rfl) ?_
        refine va_get (D := D) (ci := 9) (v := .ref (q 15)) (C := RX9) (T := TX9) (N := 44) hx hb hts (fun _ h9 => List.mem_cons_of_mem _ (List.mem_append_right _ h9)) hown hK hP 0 mAt0 rfl 20 (by decide) (hts _ (List.mem_of_getElem? (l := wsX9_put) (i := 5) rfl)) (fun _ h9 => h9) rfl dX9_put_103 ?_
        refine lv_iload hx hb dX9_put_106 (lv_at hl 4 rfl) ?_
        refine lv_aload_n hx hb dX9_put_108 rfl (lv_at hl 0 rfl) ?_
        refine va_get (D := D) (ci := 9) (v := .ref (q 15)) (C := RX9) (T := TX9) (N := 44) hx hb hts (fun _ h9 => List.mem_cons_of_mem _ (List.mem_append_right _ h9)) hown hK hP 0 mAt0 rfl 20 (by decide) (hts _ (List.mem_of_getElem? (l := wsX9_put) (i := 5) rfl)) (fun _ h9 => h9) rfl dX9_put_109 ?_
        refine lv_iload hx hb dX9_put_112 (lv_at hl 4 rfl) ?_
        refine lv_iconst (v := (1 : Int32)) hx hb dX9_put_114 (by decide) ?_
        refine lv_isub hx hb dX9_put_115 ?_
        refine va_iald (D := D) hx hb hK hP 15 0 mAr15 rfl h.1 dX9_put_116 ?_
        have h := h.2
        refine gAst (D := D) hx hb hK hP (mD hq) hS 15 0 mAr15 rfl h.1 dX9_put_117 (mSA15 _) (fun H locs hP hS => ?_)
        obtain ⟨F3, eF3⟩ : ∃ z : Nat → Nat → Int32, z = upF F2 15 (upd (F2 15) (x4).toNatClampNeg (F2 15 ((x4 - (1 : Int32))).toNatClampNeg)) := ⟨_, rfl⟩
        rw [← eF3] at hP
        have h := h.2 F3 eF3
        refine lv_iinc (v := (x4 + (-1 : Int32))) (lv' := [(4, .int (x4 + (-1 : Int32))), (0, .ref (q 0)), (1, .int x1), (2, .int x2), (3, .int x3)]) hx hb dX9_put_118 hl (k := 4) rfl rfl (by decide) rfl (fun ls hl => ?_)
        refine lv_goto (tgt := 80) hx hb dX9_put_121 (by decide) ?_
        exact ih x1 x2 x3 _ (x4 + (-1 : Int32)) I F3 hs _ _ _  hP hS (lv_sub hl [1, 2, 3, 4, 0] rfl) h K
  refine lv_iload_n hx hb dX9_put_0 rfl (lv_at hl 1 rfl) ?_
  refine lv_i2l (v := (a1).toInt64) hx hb dX9_put_1 rfl ?_
  refine lv_lconst (v := (0 : Int64)) hx hb dX9_put_2 (by decide) ?_
  refine lv_aload_n hx hb dX9_put_3 rfl (lv_at hl 0 rfl) ?_
  refine va_get (D := D) (ci := 9) (v := .int (I 3)) (C := RX9) (T := TX9) (N := 44) hx hb hts (fun _ h9 => List.mem_cons_of_mem _ (List.mem_append_right _ h9)) hown hK hP 0 mAt0 rfl 16 (by decide) (hts _ (List.mem_of_getElem? (l := wsX9_put) (i := 1) rfl)) (fun _ h9 => h9) rfl dX9_put_4 ?_
  refine lv_i2l (v := ((I 3)).toInt64) hx hb dX9_put_7 rfl ?_
  refine gCallI (D := D) (va_runS (As := [.long ((a1).toInt64), .long (0 : Int64), .long (((I 3)).toInt64)]) (rest := []) ⟨hx, hb, hml, hown, hts⟩ (c_X9_in l D q cI cO hq ((a1).toInt64) (0 : Int64) (((I 3)).toInt64)  I F hs _ h) (va_cwS 3 hts gX9_put_X9_in rfl rfl rfl (by decide +kernel) ⟨Nat.le_trans (Nat.le_of_ble_eq_true rfl) hRf, Nat.le_trans (Nat.le_of_ble_eq_true rfl) hRl⟩) (gPreS mEok hE hK hP hS) rfl rfl hl.1 rfl (lv_room (Nat.le_of_ble_eq_true rfl)) dX9_put_8 ⟨Nat.zero_le _, Nat.zero_le _⟩) hS (fun r4 _ H locs hP hS h => ?_)
  have hP : va_P D vwCl (mW q cI cO I F hs) H := hP
  refine lv_if_ne (tgt := 17) hx hb dX9_put_11 (by decide) (fun c5 => ?_) (fun c5 => ?_)
  · have h := h.1 c5
    refine lv_iload_n hx hb dX9_put_17 rfl (lv_at hl 2 rfl) ?_
    refine lv_i2l (v := (a2).toInt64) hx hb dX9_put_18 rfl ?_
    refine lv_lconst (v := (0 : Int64)) hx hb dX9_put_19 (by decide) ?_
    refine lv_ldc2 (v := (4 : Int64)) hx hb hown (hts _ (List.mem_of_getElem? (l := wsX9_put) (i := 2) rfl)) dX9_put_20 ?_
    refine gCallI (D := D) (va_runS (As := [.long ((a2).toInt64), .long (0 : Int64), .long (4 : Int64)]) (rest := []) ⟨hx, hb, hml, hown, hts⟩ (c_X9_in l D q cI cO hq ((a2).toInt64) (0 : Int64) (4 : Int64)  I F hs _ h) (va_cwS 3 hts gX9_put_X9_in rfl rfl rfl (by decide +kernel) ⟨Nat.le_trans (Nat.le_of_ble_eq_true rfl) hRf, Nat.le_trans (Nat.le_of_ble_eq_true rfl) hRl⟩) (gPreS mEok hE hK hP hS) rfl rfl hl.1 rfl (lv_room (Nat.le_of_ble_eq_true rfl)) dX9_put_23 ⟨Nat.zero_le _, Nat.zero_le _⟩) hS (fun r6 _ H locs hP hS h => ?_)
    have hP : va_P D vwCl (mW q cI cO I F hs) H := hP
    refine lv_if_eq (tgt := 49) hx hb dX9_put_26 (by decide) (fun c7 => ?_) (fun c7 => ?_)
    · have h := h.1 c7
      refine lv_bipush (v := (-102 : Int32)) hx hb dX9_put_49 (by decide) ?_
      exact hret (-102 : Int32) (I, F, hs) _ _ _ _ dX9_put_51 hP hS h
    · have h := h.2 c7
      refine lv_iload_n hx hb dX9_put_29 rfl (lv_at hl 3 rfl) ?_
      refine lv_i2l (v := (a3).toInt64) hx hb dX9_put_30 rfl ?_
      refine lv_lconst (v := (1 : Int64)) hx hb dX9_put_31 (by decide) ?_
      refine lv_ldc2 (v := (4095 : Int64)) hx hb hown (hts _ (List.mem_of_getElem? (l := wsX9_put) (i := 3) rfl)) dX9_put_32 ?_
      refine gCallI (D := D) (va_runS (As := [.long ((a3).toInt64), .long (1 : Int64), .long (4095 : Int64)]) (rest := []) ⟨hx, hb, hml, hown, hts⟩ (c_X9_in l D q cI cO hq ((a3).toInt64) (1 : Int64) (4095 : Int64)  I F hs _ h) (va_cwS 3 hts gX9_put_X9_in rfl rfl rfl (by decide +kernel) ⟨Nat.le_trans (Nat.le_of_ble_eq_true rfl) hRf, Nat.le_trans (Nat.le_of_ble_eq_true rfl) hRl⟩) (gPreS mEok hE hK hP hS) rfl rfl hl.1 rfl (lv_room (Nat.le_of_ble_eq_true rfl)) dX9_put_35 ⟨Nat.zero_le _, Nat.zero_le _⟩) hS (fun r8 _ H locs hP hS h => ?_)
      have hP : va_P D vwCl (mW q cI cO I F hs) H := hP
      refine lv_if_eq (tgt := 49) hx hb dX9_put_38 (by decide) (fun c9 => ?_) (fun c9 => ?_)
      · have h := h.1 c9
        refine lv_bipush (v := (-102 : Int32)) hx hb dX9_put_49 (by decide) ?_
        exact hret (-102 : Int32) (I, F, hs) _ _ _ _ dX9_put_51 hP hS h
      · have h := h.2 c9
        refine lv_iload_n hx hb dX9_put_41 rfl (lv_at hl 3 rfl) ?_
        refine gCallI (D := D) (va_runS (As := [.int a3]) (rest := []) ⟨hx, hb, hml, hown, hts⟩ (c_X9_ones l D q cI cO hq a3  I F hs _ h) (va_cwS 1 hts gX9_put_X9_ones rfl rfl rfl (by decide +kernel) ⟨Nat.le_trans (Nat.le_of_ble_eq_true rfl) hRf, Nat.le_trans (Nat.le_of_ble_eq_true rfl) hRl⟩) (gPreS mEok hE hK hP hS) rfl rfl hl.1 rfl (lv_room (Nat.le_of_ble_eq_true rfl)) dX9_put_42 ⟨Nat.zero_le _, Nat.zero_le _⟩) hS (fun r10 _ H locs hP hS h => ?_)
        have hP : va_P D vwCl (mW q cI cO I F hs) H := hP
        refine lv_iconst (v := (4 : Int32)) hx hb dX9_put_45 (by decide) ?_
        refine lv_icmp_le (tgt := 52) hx hb dX9_put_46 (by decide) (fun c11 => ?_) (fun c11 => ?_)
        · have h := h.1 c11
          refine lv_aload_n hx hb dX9_put_52 rfl (lv_at hl 0 rfl) ?_
          refine gCallI (D := D) (va_runV (As := []) (rest := []) ⟨hx, hb, hml, hown, hts⟩ (c_X9_lacks l D q cI cO hq   I F hs _ h) (cwV 0 hts gX9_put_X9_lacks rfl rfl rfl (by decide +kernel) ⟨Nat.le_trans (Nat.le_of_ble_eq_true rfl) hRf, Nat.le_trans (Nat.le_of_ble_eq_true rfl) hRl⟩) (gPreV (ci := 9) (q0 := 0) mEok hE hK hP hS rfl mAt0) rfl rfl hl.1 rfl (lv_room (Nat.le_of_ble_eq_true rfl)) dX9_put_53 ⟨Nat.zero_le _, Nat.zero_le _⟩) hS (fun r12 _ H locs hP hS h => ?_)
          have hP : va_P D vwCl (mW q cI cO I F hs) H := hP
          refine lv_if_eq (tgt := 62) hx hb dX9_put_56 (by decide) (fun c13 => ?_) (fun c13 => ?_)
          · have h := h.1 c13
            refine lv_aload_n hx hb dX9_put_62 rfl (lv_at hl 0 rfl) ?_
            refine va_get (D := D) (ci := 9) (v := .int (I 3)) (C := RX9) (T := TX9) (N := 44) hx hb hts (fun _ h9 => List.mem_cons_of_mem _ (List.mem_append_right _ h9)) hown hK hP 0 mAt0 rfl 16 (by decide) (hts _ (List.mem_of_getElem? (l := wsX9_put) (i := 1) rfl)) (fun _ h9 => h9) rfl dX9_put_63 ?_
            refine lv_bipush (v := (8 : Int32)) hx hb dX9_put_66 (by decide) ?_
            refine lv_icmp_ne (tgt := 74) hx hb dX9_put_68 (by decide) (fun c14 => ?_) (fun c14 => ?_)
            · have h := h.1 c14
              refine lv_aload_n hx hb dX9_put_74 rfl (lv_at hl 0 rfl) ?_
              refine va_get (D := D) (ci := 9) (v := .int (I 3)) (C := RX9) (T := TX9) (N := 44) hx hb hts (fun _ h9 => List.mem_cons_of_mem _ (List.mem_append_right _ h9)) hown hK hP 0 mAt0 rfl 16 (by decide) (hts _ (List.mem_of_getElem? (l := wsX9_put) (i := 1) rfl)) (fun _ h9 => h9) rfl dX9_put_75 ?_
              refine lv_topi (fun v15 ev15 => ?_)
              have h := h v15 ev15
              refine lv_istore (lv' := [(4, .int v15), (0, .ref (q 0)), (1, .int a1), (2, .int a2), (3, .int a3)]) hx hb dX9_put_78 hl (by decide) rfl (fun ls hl => ?_)
              obtain ⟨n, h⟩ := h
              refine L80 n a1 a2 a3 _ v15 I F hs _ _ _  hP hS (lv_sub hl [1, 2, 3, 4, 0] rfl) h (fun y16 I17 F18 hs19 H locs ls  hP hS hl h => ?_)
              refine lv_aload_n hx hb dX9_put_124 rfl (lv_at hl 0 rfl) ?_
              refine va_get (D := D) (ci := 9) (v := .ref (q 14)) (C := RX9) (T := TX9) (N := 44) hx hb hts (fun _ h9 => List.mem_cons_of_mem _ (List.mem_append_right _ h9)) hown hK hP 0 mAt0 rfl 19 (by decide) (hts _ (List.mem_of_getElem? (l := wsX9_put) (i := 4) rfl)) (fun _ h9 => h9) rfl dX9_put_125 ?_
              refine lv_iload_n hx hb dX9_put_128 rfl (lv_at hl 1 rfl) ?_
              refine lv_iload_n hx hb dX9_put_129 rfl (lv_at hl 2 rfl) ?_
              refine gAst (D := D) hx hb hK hP (mD hq) hS 14 0 mAr14 rfl h.1 dX9_put_130 (mSA14 _) (fun H locs hP hS => ?_)
              obtain ⟨F20, eF20⟩ : ∃ z : Nat → Nat → Int32, z = upF F18 14 (upd (F18 14) (a1).toNatClampNeg a2) := ⟨_, rfl⟩
              rw [← eF20] at hP
              have h := h.2 F20 eF20
              refine lv_aload_n hx hb dX9_put_131 rfl (lv_at hl 0 rfl) ?_
              refine va_get (D := D) (ci := 9) (v := .ref (q 15)) (C := RX9) (T := TX9) (N := 44) hx hb hts (fun _ h9 => List.mem_cons_of_mem _ (List.mem_append_right _ h9)) hown hK hP 0 mAt0 rfl 20 (by decide) (hts _ (List.mem_of_getElem? (l := wsX9_put) (i := 5) rfl)) (fun _ h9 => h9) rfl dX9_put_132 ?_
              refine lv_iload_n hx hb dX9_put_135 rfl (lv_at hl 1 rfl) ?_
              refine lv_iload_n hx hb dX9_put_136 rfl (lv_at hl 3 rfl) ?_
              refine gAst (D := D) hx hb hK hP (mD hq) hS 15 0 mAr15 rfl h.1 dX9_put_137 (mSA15 _) (fun H locs hP hS => ?_)
              obtain ⟨F21, eF21⟩ : ∃ z : Nat → Nat → Int32, z = upF F20 15 (upd (F20 15) (a1).toNatClampNeg a3) := ⟨_, rfl⟩
              rw [← eF21] at hP
              have h := h.2 F21 eF21
              refine lv_aload_n hx hb dX9_put_138 rfl (lv_at hl 0 rfl) ?_
              refine lv_dup hx hb dX9_put_139 rfl ?_
              refine va_get (D := D) (ci := 9) (v := .int (I17 3)) (C := RX9) (T := TX9) (N := 44) hx hb hts (fun _ h9 => List.mem_cons_of_mem _ (List.mem_append_right _ h9)) hown hK hP 0 mAt0 rfl 16 (by decide) (hts _ (List.mem_of_getElem? (l := wsX9_put) (i := 1) rfl)) (fun _ h9 => h9) rfl dX9_put_140 ?_
              refine lv_iconst (v := (1 : Int32)) hx hb dX9_put_143 (by decide) ?_
              refine lv_iadd hx hb dX9_put_144 ?_
              refine gPut (D := D) (ci := 9) (ty := .int) (C := RX9) (T := TX9) (N := 44) hx hb hts (fun _ h9 => List.mem_cons_of_mem _ (List.mem_append_right _ h9)) tyX9 tyX9_ok nmX9 hown hK hP (mD hq) hS 0 mAt0 rfl 16 (by decide) (hts _ (List.mem_of_getElem? (l := wsX9_put) (i := 1) rfl)) (fun _ h9 => h9) rfl (by decide +kernel) rfl rfl (Nat.le_of_ble_eq_true rfl) dX9_put_145 (mSet3 ((I17 3) + (1 : Int32))) (fun H locs hP hS => ?_)
              obtain ⟨I22, eI22⟩ : ∃ z : Nat → Int32, z = upd I17 3 ((I17 3) + (1 : Int32)) := ⟨_, rfl⟩
              rw [← eI22] at hP
              have h := h I22 eI22
              refine lv_aload_n hx hb dX9_put_148 rfl (lv_at hl 0 rfl) ?_
              refine lv_iconst (v := (1 : Int32)) hx hb dX9_put_149 (by decide) ?_
              refine gPut (D := D) (ci := 9) (ty := .boolean) (C := RX9) (T := TX9) (N := 44) hx hb hts (fun _ h9 => List.mem_cons_of_mem _ (List.mem_append_right _ h9)) tyX9 tyX9_ok nmX9 hown hK hP (mD hq) hS 0 mAt0 rfl 21 (by decide) (hts _ (List.mem_of_getElem? (l := wsX9_put) (i := 6) rfl)) (fun _ h9 => h9) rfl (by decide +kernel) (by decide) (by decide) (Nat.le_of_ble_eq_true rfl) dX9_put_150 (mSet6 (1 : Int32)) (fun H locs hP hS => ?_)
              obtain ⟨I23, eI23⟩ : ∃ z : Nat → Int32, z = upd I22 6 (1 : Int32) := ⟨_, rfl⟩
              rw [← eI23] at hP
              have h := h I23 eI23
              refine lv_aload_n hx hb dX9_put_153 rfl (lv_at hl 0 rfl) ?_
              refine va_get (D := D) (ci := 9) (v := .int (I23 3)) (C := RX9) (T := TX9) (N := 44) hx hb hts (fun _ h9 => List.mem_cons_of_mem _ (List.mem_append_right _ h9)) hown hK hP 0 mAt0 rfl 16 (by decide) (hts _ (List.mem_of_getElem? (l := wsX9_put) (i := 1) rfl)) (fun _ h9 => h9) rfl dX9_put_154 ?_
              exact hret (I23 3) (I23, F21, hs19) _ _ _ _ dX9_put_157 hP hS h
            · have h := h.2 c14
              refine lv_bipush (v := (-104 : Int32)) hx hb dX9_put_71 (by decide) ?_
              exact hret (-104 : Int32) (I, F, hs) _ _ _ _ dX9_put_73 hP hS h
          · have h := h.2 c13
            refine lv_bipush (v := (-103 : Int32)) hx hb dX9_put_59 (by decide) ?_
            exact hret (-103 : Int32) (I, F, hs) _ _ _ _ dX9_put_61 hP hS h
        · have h := h.2 c11
          refine lv_bipush (v := (-102 : Int32)) hx hb dX9_put_49 (by decide) ?_
          exact hret (-102 : Int32) (I, F, hs) _ _ _ _ dX9_put_51 hP hS h
  · have h := h.2 c5
    refine lv_bipush (v := (-101 : Int32)) hx hb dX9_put_14 (by decide) ?_
    exact hret (-101 : Int32) (I, F, hs) _ _ _ _ dX9_put_16 hP hS h
