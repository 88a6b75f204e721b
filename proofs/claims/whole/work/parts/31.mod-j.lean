def w_X9_leastShift_B35  (k again : Int32 → Int32 → Int32 → (Nat → Int32) → (Nat → Nat → Int32) → Int64 → Prop) (x1 : Int32) (x2 : Int32) (x3 : Int32) (I : Nat → Int32) (F : Nat → Nat → Int32) (hs : Int64) : Prop :=
  (((12 : Int32) ≤ x3 → k x1 x2 x3 I F hs) ∧ (¬ (12 : Int32) ≤ x3 → w_X9_shiftedOf x3 I F hs (fun (r2 : Int32) (I3 : Nat → Int32) (F4 : Nat → Nat → Int32) (hs5 : Int64) => ((r2 = (-1 : Int32) → ((r2 = (-1 : Int32) → again x1 x2 (x3 + (1 : Int32)) I3 F4 hs5) ∧ (¬ r2 = (-1 : Int32) → ((x2 ≤ r2 → again x1 x2 (x3 + (1 : Int32)) I3 F4 hs5) ∧ (¬ x2 ≤ r2 → again x1 r2 (x3 + (1 : Int32)) I3 F4 hs5))))) ∧ (¬ r2 = (-1 : Int32) → ((x2 ≤ r2 → ((r2 = (-1 : Int32) → again x1 x2 (x3 + (1 : Int32)) I3 F4 hs5) ∧ (¬ r2 = (-1 : Int32) → ((x2 ≤ r2 → again x1 x2 (x3 + (1 : Int32)) I3 F4 hs5) ∧ (¬ x2 ≤ r2 → again x1 r2 (x3 + (1 : Int32)) I3 F4 hs5))))) ∧ (¬ x2 ≤ r2 → ((r2 = (-1 : Int32) → again x3 x2 (x3 + (1 : Int32)) I3 F4 hs5) ∧ (¬ r2 = (-1 : Int32) → ((x2 ≤ r2 → again x3 x2 (x3 + (1 : Int32)) I3 F4 hs5) ∧ (¬ x2 ≤ r2 → again x3 r2 (x3 + (1 : Int32)) I3 F4 hs5)))))))))))
def w_X9_leastShift  (I : Nat → Int32) (F : Nat → Nat → Int32) (hs : Int64) (post : Int32 → (Nat → Int32) → (Nat → Nat → Int32) → Int64 → Prop) : Prop :=
  w_X9_lacks I F hs (fun (r14 : Int32) => ((¬ r14 = 0 → post (-103 : Int32) I F hs) ∧ (r14 = 0 → ((¬ (I 10) = (5 : Int32) → ∀ I17 : Nat → Int32, I17 = upd I 10 ((I 10) + (1 : Int32)) → gL (fun ag v => w_X9_leastShift_B35  (fun (y18 : Int32) (y19 : Int32) (y20 : Int32) (I21 : Nat → Int32) (F22 : Nat → Nat → Int32) (hs23 : Int64) => post y18 I21 F22 hs23) (fun b0 b1 b2 b3 b4 b5 => ag (b0, b1, b2, b3, b4, b5)) v.1 v.2.1 v.2.2.1 v.2.2.2.1 v.2.2.2.2.1 v.2.2.2.2.2) ((-1 : Int32), (99999 : Int32), (0 : Int32), I17, F, hs)) ∧ ((I 10) = (5 : Int32) → post (-103 : Int32) I F hs)))))
set_option maxHeartbeats 4000000 in
set_option maxRecDepth 100000 in
theorem c_X9_leastShift (l : Launch) (D : va_G) (q : Nat → Nat) (cI cO : ClassId) (hq : mOk q)   (I : Nat → Int32) (F : Nat → Nat → Int32) (hs : Int64) (post : Int32 → (Nat → Int32) → (Nat → Nat → Int32) → Int64 → Prop) (h : w_X9_leastShift  I F hs post) : Met l yX9_leastShift wsX9_leastShift ({ frames := 5, cells := 0, slots := 0, locals := 120 } : Room) (gPre D (mTys cI) (mW q cI cO I F hs) mEnv [.ref (q 0)]) (va_Qi (fun r (u : mS) => post r u.1 u.2.1 u.2.2) (gB D (fun u : mS => mW q cI cO u.1 u.2.1 u.2.2)) (mA q)) 0 0 (mA q) := by
  refine gMetI (by decide) rfl (Nat.le_of_ble_eq_true rfl) ?_
  intro p e R s m args below meth c Q ls hR hx hb hml hown hts hK hE hP hl hret
  have hRf : 5 ≤ R.frames := by subst hR; exact Nat.le_refl _
  have hRl : 120 ≤ R.locals := by subst hR; exact Nat.le_refl _
  have hown : s.vm.findClass RX9 = some m.cls := hown
  have hl : lv_has ls 5 [(0, .ref (q 0))] := hl
  have hS : va_S (mA q) s.heap s.heap [] := va_S.rf
  have hP : va_P D vwCl (mW q cI cO I F hs) s.heap := hP
  have L35 : ∀ (n : Nat)  (k : Int32 → Int32 → Int32 → (Nat → Int32) → (Nat → Nat → Int32) → Int64 → Prop) (x1 : Int32) (x2 : Int32) (x3 : Int32) (I : Nat → Int32) (F : Nat → Nat → Int32) (hs : Int64) (H : Heap) (locs : List Loc) (ls : Array Slot), va_P D vwCl (mW q cI cO I F hs) H → va_S (mA q) s.heap H locs → lv_has ls 5 [(0, .ref (q 0)), (1, .int x1), (2, .int x2), (3, .int x3)] → gLN (fun ag v => w_X9_leastShift_B35  k (fun b0 b1 b2 b3 b4 b5 => ag (b0, b1, b2, b3, b4, b5)) v.1 v.2.1 v.2.2.1 v.2.2.2.1 v.2.2.2.2.1 v.2.2.2.2.2) n (x1, x2, x3, I, F, hs) → (∀ (x1 : Int32) (x2 : Int32) (x3 : Int32) (I : Nat → Int32) (F : Nat → Nat → Int32) (hs : Int64) (H : Heap) (locs : List Loc) (ls : Array Slot), va_P D vwCl (mW q cI cO I F hs) H → va_S (mA q) s.heap H locs → lv_has ls 5 [(1, .int x1)] → k x1 x2 x3 I F hs → W p l e R s m args below meth c H locs 0 0 Q (F0 m 91 ls [])) → W p l e R s m args below meth c H locs 0 0 Q (F0 m 35 ls []) := by
    intro n
    induction n with
    | zero =>
      intro  k x1 x2 x3 I F hs H locs ls  hP hS hl h K
      exact False.elim h
    | succ n ih =>
      intro  k x1 x2 x3 I F hs H locs ls  hP hS hl h K
      have h : w_X9_leastShift_B35  k (fun b0 b1 b2 b3 b4 b5 => gLN (fun ag v => w_X9_leastShift_B35  k (fun b0 b1 b2 b3 b4 b5 => ag (b0, b1, b2, b3, b4, b5)) v.1 v.2.1 v.2.2.1 v.2.2.2.1 v.2.2.2.2.1 v.2.2.2.2.2) n (b0, b1, b2, b3, b4, b5)) x1 x2 x3 I F hs := h
      refine lv_iload_n hx hb dX9_leastShift_35 rfl (lv_at hl 3 rfl) ?_
      refine lv_bipush (v := (12 : Int32)) hx hb dX9_leastShift_36 (by decide) ?_
      refine lv_icmp_ge (tgt := 91) hx hb dX9_leastShift_38 (by decide) (fun c1 => ?_) (fun c1 => ?_)
      · have h := h.1 c1
        exact K x1 x2 x3 I F hs _ _ _  hP hS (lv_sub hl [1] rfl) h
      · have h := h.2 c1
        refine lv_aload_n hx hb dX9_leastShift_41 rfl (lv_at hl 0 rfl) ?_
        refine lv_iload_n hx hb dX9_leastShift_42 rfl (lv_at hl 3 rfl) ?_
        refine gCallI (D := D) (va_runV (As := [.int x3]) (rest := []) ⟨hx, hb, hml, hown, hts⟩ (c_X9_shiftedOf l D q cI cO hq x3  I F hs _ h) (cwV 1 hts gX9_leastShift_X9_shiftedOf rfl rfl rfl (by decide +kernel) ⟨Nat.le_trans (Nat.le_of_ble_eq_true rfl) hRf, Nat.le_trans (Nat.le_of_ble_eq_true rfl) hRl⟩) (gPreV (ci := 9) (q0 := 0) mEok hE hK hP hS rfl mAt0) rfl rfl hl.1 rfl (lv_room (Nat.le_of_ble_eq_true rfl)) dX9_leastShift_43 ⟨Nat.zero_le _, Nat.zero_le _⟩) hS (fun r2 u H locs hP hS h => ?_)
        obtain ⟨I3, F4, hs5⟩ := u
        have hP : va_P D vwCl (mW q cI cO I3 F4 hs5) H := hP
        refine lv_istore (lv' := [(4, .int r2), (0, .ref (q 0)), (1, .int x1), (2, .int x2), (3, .int x3)]) hx hb dX9_leastShift_46 hl (by decide) rfl (fun ls hl => ?_)
        refine lv_iload hx hb dX9_leastShift_48 (lv_at hl 0 rfl) ?_
        refine lv_iconst (v := (-1 : Int32)) hx hb dX9_leastShift_50 (by decide) ?_
        refine lv_icmp_eq (tgt := 64) hx hb dX9_leastShift_51 (by decide) (fun c6 => ?_) (fun c6 => ?_)
        · have h := h.1 c6
          refine lv_iload_n hx hb dX9_leastShift_64 rfl (lv_at hl 2 rfl) ?_
          refine lv_istore_n (lv' := [(1, .int x1), (4, .int r2), (0, .ref (q 0)), (2, .int x2), (3, .int x3)]) hx hb dX9_leastShift_65 rfl hl (by decide) rfl (fun ls hl => ?_)
          refine lv_iload hx hb dX9_leastShift_66 (lv_at hl 1 rfl) ?_
          refine lv_iconst (v := (-1 : Int32)) hx hb dX9_leastShift_68 (by decide) ?_
          refine lv_icmp_eq (tgt := 83) hx hb dX9_leastShift_69 (by decide) (fun c7 => ?_) (fun c7 => ?_)
          · have h := h.1 c7
            refine lv_iload_n hx hb dX9_leastShift_83 rfl (lv_at hl 3 rfl) ?_
            refine lv_istore_n (lv' := [(2, .int x2), (1, .int x1), (4, .int r2), (0, .ref (q 0)), (3, .int x3)]) hx hb dX9_leastShift_84 rfl hl (by decide) rfl (fun ls hl => ?_)
            refine lv_iinc (v := (x3 + (1 : Int32))) (lv' := [(3, .int (x3 + (1 : Int32))), (2, .int x2), (1, .int x1), (4, .int r2), (0, .ref (q 0))]) hx hb dX9_leastShift_85 hl (k := 4) rfl rfl (by decide) rfl (fun ls hl => ?_)
            refine lv_goto (tgt := 35) hx hb dX9_leastShift_88 (by decide) ?_
            exact ih  _ x1 x2 (x3 + (1 : Int32)) I3 F4 hs5 _ _ _  hP hS (lv_sub hl [4, 2, 1, 0] rfl) h K
          · have h := h.2 c7
            refine lv_iload hx hb dX9_leastShift_72 (lv_at hl 1 rfl) ?_
            refine lv_iload_n hx hb dX9_leastShift_74 rfl (lv_at hl 3 rfl) ?_
            refine lv_icmp_ge (tgt := 83) hx hb dX9_leastShift_75 (by decide) (fun c8 => ?_) (fun c8 => ?_)
            · have h := h.1 c8
              refine lv_iload_n hx hb dX9_leastShift_83 rfl (lv_at hl 3 rfl) ?_
              refine lv_istore_n (lv' := [(2, .int x2), (1, .int x1), (4, .int r2), (0, .ref (q 0)), (3, .int x3)]) hx hb dX9_leastShift_84 rfl hl (by decide) rfl (fun ls hl => ?_)
              refine lv_iinc (v := (x3 + (1 : Int32))) (lv' := [(3, .int (x3 + (1 : Int32))), (2, .int x2), (1, .int x1), (4, .int r2), (0, .ref (q 0))]) hx hb dX9_leastShift_85 hl (k := 4) rfl rfl (by decide) rfl (fun ls hl => ?_)
              refine lv_goto (tgt := 35) hx hb dX9_leastShift_88 (by decide) ?_
              exact ih  _ x1 x2 (x3 + (1 : Int32)) I3 F4 hs5 _ _ _  hP hS (lv_sub hl [4, 2, 1, 0] rfl) h K
            · have h := h.2 c8
              refine lv_iload hx hb dX9_leastShift_78 (lv_at hl 1 rfl) ?_
              refine lv_goto (tgt := 84) hx hb dX9_leastShift_80 (by decide) ?_
              refine lv_istore_n (lv' := [(2, .int r2), (1, .int x1), (4, .int r2), (0, .ref (q 0)), (3, .int x3)]) hx hb dX9_leastShift_84 rfl hl (by decide) rfl (fun ls hl => ?_)
              refine lv_iinc (v := (x3 + (1 : Int32))) (lv' := [(3, .int (x3 + (1 : Int32))), (2, .int r2), (1, .int x1), (4, .int r2), (0, .ref (q 0))]) hx hb dX9_leastShift_85 hl (k := 4) rfl rfl (by decide) rfl (fun ls hl => ?_)
              refine lv_goto (tgt := 35) hx hb dX9_leastShift_88 (by decide) ?_
              exact ih  _ x1 r2 (x3 + (1 : Int32)) I3 F4 hs5 _ _ _  hP hS (lv_sub hl [4, 2, 1, 0] rfl) h K
        · have h := h.2 c6
          refine lv_iload hx hb dX9_leastShift_54 (lv_at hl 0 rfl) ?_
          refine lv_iload_n hx hb dX9_leastShift_56 rfl (lv_at hl 3 rfl) ?_
          refine lv_icmp_ge (tgt := 64) hx hb dX9_leastShift_57 (by decide) (fun c9 => ?_) (fun c9 => ?_)
          · have h := h.1 c9
            refine lv_iload_n hx hb dX9_leastShift_64 rfl (lv_at hl 2 rfl) ?_
            refine lv_istore_n (lv' := [(1, .int x1), (4, .int r2), (0, .ref (q 0)), (2, .int x2), (3, .int x3)]) hx hb dX9_leastShift_65 rfl hl (by decide) rfl (fun ls hl => ?_)
            refine lv_iload hx hb dX9_leastShift_66 (lv_at hl 1 rfl) ?_
            refine lv_iconst (v := (-1 : Int32)) hx hb dX9_leastShift_68 (by decide) ?_
            refine lv_icmp_eq (tgt := 83) hx hb dX9_leastShift_69 (by decide) (fun c10 => ?_) (fun c10 => ?_)
            · have h := h.1 c10
              refine lv_iload_n hx hb dX9_leastShift_83 rfl (lv_at hl 3 rfl) ?_
              refine lv_istore_n (lv' := [(2, .int x2), (1, .int x1), (4, .int r2), (0, .ref (q 0)), (3, .int x3)]) hx hb dX9_leastShift_84 rfl hl (by decide) rfl (fun ls hl => ?_)
              refine lv_iinc (v := (x3 + (1 : Int32))) (lv' := [(3, .int (x3 + (1 : Int32))), (2, .int x2), (1, .int x1), (4, .int r2), (0, .ref (q 0))]) hx hb dX9_leastShift_85 hl (k := 4) rfl rfl (by decide) rfl (fun ls hl => ?_)
              refine lv_goto (tgt := 35) hx hb dX9_leastShift_88 (by decide) ?_
              exact ih  _ x1 x2 (x3 + (1 : Int32)) I3 F4 hs5 _ _ _  hP hS (lv_sub hl [4, 2, 1, 0] rfl) h K
            · have h := h.2 c10
              refine lv_iload hx hb dX9_leastShift_72 (lv_at hl 1 rfl) ?_
              refine lv_iload_n hx hb dX9_leastShift_74 rfl (lv_at hl 3 rfl) ?_
              refine lv_icmp_ge (tgt := 83) hx hb dX9_leastShift_75 (by decide) (fun c11 => ?_) (fun c11 => ?_)
              · have h := h.1 c11
                refine lv_iload_n hx hb dX9_leastShift_83 rfl (lv_at hl 3 rfl) ?_
                refine lv_istore_n (lv' := [(2, .int x2), (1, .int x1), (4, .int r2), (0, .ref (q 0)), (3, .int x3)]) hx hb dX9_leastShift_84 rfl hl (by decide) rfl (fun ls hl => ?_)
                refine lv_iinc (v := (x3 + (1 : Int32))) (lv' := [(3, .int (x3 + (1 : Int32))), (2, .int x2), (1, .int x1), (4, .int r2), (0, .ref (q 0))]) hx hb dX9_leastShift_85 hl (k := 4) rfl rfl (by decide) rfl (fun ls hl => ?_)
                refine lv_goto (tgt := 35) hx hb dX9_leastShift_88 (by decide) ?_
                exact ih  _ x1 x2 (x3 + (1 : Int32)) I3 F4 hs5 _ _ _  hP hS (lv_sub hl [4, 2, 1, 0] rfl) h K
              · have h := h.2 c11
                refine lv_iload hx hb dX9_leastShift_78 (lv_at hl 1 rfl) ?_
                refine lv_goto (tgt := 84) hx hb dX9_leastShift_80 (by decide) ?_
                refine lv_istore_n (lv' := [(2, .int r2), (1, .int x1), (4, .int r2), (0, .ref (q 0)), (3, .int x3)]) hx hb dX9_leastShift_84 rfl hl (by decide) rfl (fun ls hl => ?_)
                refine lv_iinc (v := (x3 + (1 : Int32))) (lv' := [(3, .int (x3 + (1 : Int32))), (2, .int r2), (1, .int x1), (4, .int r2), (0, .ref (q 0))]) hx hb dX9_leastShift_85 hl (k := 4) rfl rfl (by decide) rfl (fun ls hl => ?_)
                refine lv_goto (tgt := 35) hx hb dX9_leastShift_88 (by decide) ?_
                exact ih  _ x1 r2 (x3 + (1 : Int32)) I3 F4 hs5 _ _ _  hP hS (lv_sub hl [4, 2, 1, 0] rfl) h K
          · have h := h.2 c9
            refine lv_iload_n hx hb dX9_leastShift_60 rfl (lv_at hl 4 rfl) ?_
            refine lv_goto (tgt := 65) hx hb dX9_leastShift_61 (by decide) ?_
            refine lv_istore_n (lv' := [(1, .int x3), (4, .int r2), (0, .ref (q 0)), (2, .int x2), (3, .int x3)]) hx hb dX9_leastShift_65 rfl hl (by decide) rfl (fun ls hl => ?_)
            refine lv_iload hx hb dX9_leastShift_66 (lv_at hl 1 rfl) ?_
            refine lv_iconst (v := (-1 : Int32)) hx hb dX9_leastShift_68 (by decide) ?_
            refine lv_icmp_eq (tgt := 83) hx hb dX9_leastShift_69 (by decide) (fun c12 => ?_) (fun c12 => ?_)
            · have h := h.1 c12
              refine lv_iload_n hx hb dX9_leastShift_83 rfl (lv_at hl 3 rfl) ?_
              refine lv_istore_n (lv' := [(2, .int x2), (1, .int x3), (4, .int r2), (0, .ref (q 0)), (3, .int x3)]) hx hb dX9_leastShift_84 rfl hl (by decide) rfl (fun ls hl => ?_)
              refine lv_iinc (v := (x3 + (1 : Int32))) (lv' := [(3, .int (x3 + (1 : Int32))), (2, .int x2), (1, .int x3), (4, .int r2), (0, .ref (q 0))]) hx hb dX9_leastShift_85 hl (k := 4) rfl rfl (by decide) rfl (fun ls hl => ?_)
              refine lv_goto (tgt := 35) hx hb dX9_leastShift_88 (by decide) ?_
              exact ih  _ x3 x2 (x3 + (1 : Int32)) I3 F4 hs5 _ _ _  hP hS (lv_sub hl [4, 2, 1, 0] rfl) h K
            · have h := h.2 c12
              refine lv_iload hx hb dX9_leastShift_72 (lv_at hl 1 rfl) ?_
              refine lv_iload_n hx hb dX9_leastShift_74 rfl (lv_at hl 3 rfl) ?_
              refine lv_icmp_ge (tgt := 83) hx hb dX9_leastShift_75 (by decide) (fun c13 => ?_) (fun c13 => ?_)
              · have h := h.1 c13
                refine lv_iload_n hx hb dX9_leastShift_83 rfl (lv_at hl 3 rfl) ?_
                refine lv_istore_n (lv' := [(2, .int x2), (1, .int x3), (4, .int r2), (0, .ref (q 0)), (3, .int x3)]) hx hb dX9_leastShift_84 rfl hl (by decide) rfl (fun ls hl => ?_)
                refine lv_iinc (v := (x3 + (1 : Int32))) (lv' := [(3, .int (x3 + (1 : Int32))), (2, .int x2), (1, .int x3), (4, .int r2), (0, .ref (q 0))]) hx hb dX9_leastShift_85 hl (k := 4) rfl rfl (by decide) rfl (fun ls hl => ?_)
                refine lv_goto (tgt := 35) hx hb dX9_leastShift_88 (by decide) ?_
                exact ih  _ x3 x2 (x3 + (1 : Int32)) I3 F4 hs5 _ _ _  hP hS (lv_sub hl [4, 2, 1, 0] rfl) h K
              · have h := h.2 c13
                refine lv_iload hx hb dX9_leastShift_78 (lv_at hl 1 rfl) ?_
                refine lv_goto (tgt := 84) hx hb dX9_leastShift_80 (by decide) ?_
                refine lv_istore_n (lv' := [(2, .int r2), (1, .int x3), (4, .int r2), (0, .ref (q 0)), (3, .int x3)]) hx hb dX9_leastShift_84 rfl hl (by decide) rfl (fun ls hl => ?_)
                refine lv_iinc (v := (x3 + (1 : Int32))) (lv' := [(3, .int (x3 + (1 : Int32))), (2, .int r2), (1, .int x3), (4, .int r2), (0, .ref (q 0))]) hx hb dX9_leastShift_85 hl (k := 4) rfl rfl (by decide) rfl (fun ls hl => ?_)
                refine lv_goto (tgt := 35) hx hb dX9_leastShift_88 (by decide) ?_
                exact ih  _ x3 r2 (x3 + (1 : Int32)) I3 F4 hs5 _ _ _  hP hS (lv_sub hl [4, 2, 1, 0] rfl) h K
  refine lv_aload_n hx hb dX9_leastShift_0 rfl (lv_at hl 0 rfl) ?_
  refine gCallI (D := D) (va_runV (As := []) (rest := []) ⟨hx, hb, hml, hown, hts⟩ (c_X9_lacks l D q cI cO hq   I F hs _ h) (cwV 0 hts gX9_leastShift_X9_lacks rfl rfl rfl (by decide +kernel) ⟨Nat.le_trans (Nat.le_of_ble_eq_true rfl) hRf, Nat.le_trans (Nat.le_of_ble_eq_true rfl) hRl⟩) (gPreV (ci := 9) (q0 := 0) mEok hE hK hP hS rfl mAt0) rfl rfl hl.1 rfl (lv_room (Nat.le_of_ble_eq_true rfl)) dX9_leastShift_1 ⟨Nat.zero_le _, Nat.zero_le _⟩) hS (fun r14 _ H locs hP hS h => ?_)
  have hP : va_P D vwCl (mW q cI cO I F hs) H := hP
  refine lv_if_ne (tgt := 15) hx hb dX9_leastShift_4 (by decide) (fun c15 => ?_) (fun c15 => ?_)
  · have h := h.1 c15
    refine lv_bipush (v := (-103 : Int32)) hx hb dX9_leastShift_15 (by decide) ?_
    exact hret (-103 : Int32) (I, F, hs) _ _ _ _ dX9_leastShift_17 hP hS h
  · have h := h.2 c15
    refine lv_aload_n hx hb dX9_leastShift_7 rfl (lv_at hl 0 rfl) ?_
    refine va_get (D := D) (ci := 9) (v := .int (I 10)) (C := RX9) (T := TX9) (N := 44) hx hb hts (fun _ h9 => List.mem_cons_of_mem _ (List.mem_append_right _ h9)) hown hK hP 0 mAt0 rfl 31 (by decide) (hts _ (List.mem_of_getElem? (l := wsX9_leastShift) (i := 1) rfl)) (fun _ h9 => h9) rfl dX9_leastShift_8 ?_
    refine lv_iconst (v := (5 : Int32)) hx hb dX9_leastShift_11 (by decide) ?_
    refine lv_icmp_ne (tgt := 18) hx hb dX9_leastShift_12 (by decide) (fun c16 => ?_) (fun c16 => ?_)
    · have h := h.1 c16
      refine lv_aload_n hx hb dX9_leastShift_18 rfl (lv_at hl 0 rfl) ?_
      refine lv_dup hx hb dX9_leastShift_19 rfl ?_
      refine va_get (D := D) (ci := 9) (v := .int (I 10)) (C := RX9) (T := TX9) (N := 44) hx hb hts (fun _ h9 => List.mem_cons_of_mem _ (List.mem_append_right _ h9)) hown hK hP 0 mAt0 rfl 31 (by decide) (hts _ (List.mem_of_getElem? (l := wsX9_leastShift) (i := 1) rfl)) (fun _ h9 => h9) rfl dX9_leastShift_20 ?_
      refine lv_iconst (v := (1 : Int32)) hx hb dX9_leastShift_23 (by decide) ?_
      refine lv_iadd hx hb dX9_leastShift_24 ?_
      refine gPut (D := D) (ci := 9) (ty := .int) (C := RX9) (T := TX9) (N := 44) hx hb hts (fun _ h9 => List.mem_cons_of_mem _ (List.mem_append_right _ h9)) tyX9 tyX9_ok nmX9 hown hK hP (mD hq) hS 0 mAt0 rfl 31 (by decide) (hts _ (List.mem_of_getElem? (l := wsX9_leastShift) (i := 1) rfl)) (fun _ h9 => h9) rfl (by decide +kernel) rfl rfl (Nat.le_of_ble_eq_true rfl) dX9_leastShift_25 (mSet10 ((I 10) + (1 : Int32))) (fun H locs hP hS => ?_)
      obtain ⟨I17, eI17⟩ : ∃ z : Nat → Int32, z = upd I 10 ((I 10) + (1 : Int32)) := ⟨_, rfl⟩
      rw [← eI17] at hP
      have h := h I17 eI17
      refine lv_iconst (v := (-1 : Int32)) hx hb dX9_leastShift_28 (by decide) ?_
      refine lv_istore_n (lv' := [(1, .int (-1 : Int32)), (0, .ref (q 0))]) hx hb dX9_leastShift_29 rfl hl (by decide) rfl (fun ls hl => ?_)
      refine lv_ldc (v := (99999 : Int32)) hx hb hown (hts _ (List.mem_of_getElem? (l := wsX9_leastShift) (i := 2) rfl)) dX9_leastShift_30 ?_
      refine lv_istore_n (lv' := [(2, .int (99999 : Int32)), (1, .int (-1 : Int32)), (0, .ref (q 0))]) hx hb dX9_leastShift_32 rfl hl (by decide) rfl (fun ls hl => ?_)
      refine lv_iconst (v := (0 : Int32)) hx hb dX9_leastShift_33 (by decide) ?_
      refine lv_istore_n (lv' := [(3, .int (0 : Int32)), (2, .int (99999 : Int32)), (1, .int (-1 : Int32)), (0, .ref (q 0))]) hx hb dX9_leastShift_34 rfl hl (by decide) rfl (fun ls hl => ?_)
      obtain ⟨n, h⟩ := h
      refine L35 n  _ (-1 : Int32) (99999 : Int32) (0 : Int32) I17 F hs _ _ _  hP hS (lv_sub hl [3, 2, 1, 0] rfl) h (fun y18 y19 y20 I21 F22 hs23 H locs ls  hP hS hl h => ?_)
      refine lv_iload_n hx hb dX9_leastShift_91 rfl (lv_at hl 0 rfl) ?_
      exact hret y18 (I21, F22, hs23) _ _ _ _ dX9_leastShift_92 hP hS h
    · have h := h.2 c16
      refine lv_bipush (v := (-103 : Int32)) hx hb dX9_leastShift_15 (by decide) ?_
      exact hret (-103 : Int32) (I, F, hs) _ _ _ _ dX9_leastShift_17 hP hS h
def w_X9_freeOf_B12 (I : Nat → Int32) (F : Nat → Nat → Int32) (hs : Int64) (k again : Int32 → Int32 → Int32 → Prop) (x1 : Int32) (x2 : Int32) (x3 : Int32) : Prop :=
  (((2187 : Int32) ≤ x3 → k x1 x2 x3) ∧ (¬ (2187 : Int32) ≤ x3 → w_X9_bestFrom x3 (0 : Int32) (0 : Int32) I F hs (fun (r2 : Int32) => ((x2 ≤ r2 → ((x2 ≤ r2 → again x1 x2 (x3 + (1 : Int32))) ∧ (¬ x2 ≤ r2 → again x1 r2 (x3 + (1 : Int32))))) ∧ (¬ x2 ≤ r2 → ((x2 ≤ r2 → again x3 x2 (x3 + (1 : Int32))) ∧ (¬ x2 ≤ r2 → again x3 r2 (x3 + (1 : Int32)))))))))
def w_X9_freeOf  (I : Nat → Int32) (F : Nat → Nat → Int32) (hs : Int64) (post : Int32 → (Nat → Int32) → (Nat → Nat → Int32) → Int64 → Prop) : Prop :=
  w_X9_layRest (0 : Int32) I F hs (fun (I6 : Nat → Int32) (F7 : Nat → Nat → Int32) (hs8 : Int64) => gL (fun ag v => w_X9_freeOf_B12 I6 F7 hs8 (fun (y9 : Int32) (y10 : Int32) (y11 : Int32) => ((¬ y9 = (-1 : Int32) → w_X9_told y9 I6 F7 hs8 (fun (r13 : Int32) => post r13 I6 F7 hs8)) ∧ (y9 = (-1 : Int32) → post (-1 : Int32) I6 F7 hs8))) (fun b0 b1 b2 => ag (b0, b1, b2)) v.1 v.2.1 v.2.2) ((-1 : Int32), (99999 : Int32), (0 : Int32)))
set_option maxHeartbeats 4000000 in
set_option maxRecDepth 100000 in
theorem c_X9_freeOf (l : Launch) (D : va_G) (q : Nat → Nat) (cI cO : ClassId) (hq : mOk q)   (I : Nat → Int32) (F : Nat → Nat → Int32) (hs : Int64) (post : Int32 → (Nat → Int32) → (Nat → Nat → Int32) → Int64 → Prop) (h : w_X9_freeOf  I F hs post) : Met l yX9_freeOf wsX9_freeOf ({ frames := 4, cells := 0, slots := 0, locals := 98 } : Room) (gPre D (mTys cI) (mW q cI cO I F hs) mEnv [.ref (q 0)]) (va_Qi (fun r (u : mS) => post r u.1 u.2.1 u.2.2) (gB D (fun u : mS => mW q cI cO u.1 u.2.1 u.2.2)) (mA q)) 0 0 (mA q) := by
  refine gMetI (by decide) rfl (Nat.le_of_ble_eq_true rfl) ?_
  intro p e R s m args below meth c Q ls hR hx hb hml hown hts hK hE hP hl hret
  have hRf : 4 ≤ R.frames := by subst hR; exact Nat.le_refl _
  have hRl : 98 ≤ R.locals := by subst hR; exact Nat.le_refl _
  have hown : s.vm.findClass RX9 = some m.cls := hown
  have hl : lv_has ls 5 [(0, .ref (q 0))] := hl
  have hS : va_S (mA q) s.heap s.heap [] := va_S.rf
  have hP : va_P D vwCl (mW q cI cO I F hs) s.heap := hP
  have L12 : ∀ (n : Nat) (I : Nat → Int32) (F : Nat → Nat → Int32) (hs : Int64) (k : Int32 → Int32 → Int32 → Prop) (x1 : Int32) (x2 : Int32) (x3 : Int32) (H : Heap) (locs : List Loc) (ls : Array Slot), va_P D vwCl (mW q cI cO I F hs) H → va_S (mA q) s.heap H locs → lv_has ls 5 [(0, .ref (q 0)), (1, .int x1), (2, .int x2), (3, .int x3)] → gLN (fun ag v => w_X9_freeOf_B12 I F hs k (fun b0 b1 b2 => ag (b0, b1, b2)) v.1 v.2.1 v.2.2) n (x1, x2, x3) → (∀ (x1 : Int32) (x2 : Int32) (x3 : Int32) (H : Heap) (locs : List Loc) (ls : Array Slot), va_P D vwCl (mW q cI cO I F hs) H → va_S (mA q) s.heap H locs → lv_has ls 5 [(0, .ref (q 0)), (1, .int x1)] → k x1 x2 x3 → W p l e R s m args below meth c H locs 0 0 Q (F0 m 59 ls [])) → W p l e R s m args below meth c H locs 0 0 Q (F0 m 12 ls []) := by
    intro n
    induction n with
    | zero =>
      intro I F hs k x1 x2 x3 H locs ls  hP hS hl h K
      exact False.elim h
    | succ n ih =>
      intro I F hs k x1 x2 x3 H locs ls  hP hS hl h K
      have h : w_X9_freeOf_B12 I F hs k (fun b0 b1 b2 => gLN (fun ag v => w_X9_freeOf_B12 I F hs k (fun b0 b1 b2 => ag (b0, b1, b2)) v.1 v.2.1 v.2.2) n (b0, b1, b2)) x1 x2 x3 := h
      refine lv_iload_n hx hb dX9_freeOf_12 rfl (lv_at hl 3 rfl) ?_
      refine lv_sipush (v := (2187 : Int32)) hx hb dX9_freeOf_13 (by decide) ?_
      refine lv_icmp_ge (tgt := 59) hx hb dX9_freeOf_16 (by decide) (fun c1 => ?_) (fun c1 => ?_)
      · have h := h.1 c1
        exact K x1 x2 x3 _ _ _  hP hS (lv_sub hl [0, 1] rfl) h
      · have h := h.2 c1
        refine lv_aload_n hx hb dX9_freeOf_19 rfl (lv_at hl 0 rfl) ?_
        refine lv_iload_n hx hb dX9_freeOf_20 rfl (lv_at hl 3 rfl) ?_
        refine lv_iconst (v := (0 : Int32)) hx hb dX9_freeOf_21 (by decide) ?_
        refine lv_iconst (v := (0 : Int32)) hx hb dX9_freeOf_22 (by decide) ?_
        refine gCallI (D := D) (va_runV (As := [.int x3, .int (0 : Int32), .int (0 : Int32)]) (rest := []) ⟨hx, hb, hml, hown, hts⟩ (c_X9_bestFrom l D q cI cO hq x3 (0 : Int32) (0 : Int32)  I F hs _ h) (cwV 3 hts gX9_freeOf_X9_bestFrom rfl rfl rfl (by decide +kernel) ⟨Nat.le_trans (Nat.le_of_ble_eq_true rfl) hRf, Nat.le_trans (Nat.le_of_ble_eq_true rfl) hRl⟩) (gPreV (ci := 9) (q0 := 0) mEok hE hK hP hS rfl mAt0) rfl rfl hl.1 rfl (lv_room (Nat.le_of_ble_eq_true rfl)) dX9_freeOf_23 ⟨Nat.zero_le _, Nat.zero_le _⟩) hS (fun r2 _ H locs hP hS h => ?_)
        have hP : va_P D vwCl (mW q cI cO I F hs) H := hP
        refine lv_istore (lv' := [(4, .int r2), (0, .ref (q 0)), (1, .int x1), (2, .int x2), (3, .int x3)]) hx hb dX9_freeOf_26 hl (by decide) rfl (fun ls hl => ?_)
        refine lv_iload hx hb dX9_freeOf_28 (lv_at hl 0 rfl) ?_
        refine lv_iload_n hx hb dX9_freeOf_30 rfl (lv_at hl 3 rfl) ?_
        refine lv_icmp_ge (tgt := 38) hx hb dX9_freeOf_31 (by decide) (fun c3 => ?_) (fun c3 => ?_)
        · have h := h.1 c3
          refine lv_iload_n hx hb dX9_freeOf_38 rfl (lv_at hl 2 rfl) ?_
          refine lv_istore_n (lv' := [(1, .int x1), (4, .int r2), (0, .ref (q 0)), (2, .int x2), (3, .int x3)]) hx hb dX9_freeOf_39 rfl hl (by decide) rfl (fun ls hl => ?_)
          refine lv_iload hx hb dX9_freeOf_40 (lv_at hl 1 rfl) ?_
          refine lv_iload_n hx hb dX9_freeOf_42 rfl (lv_at hl 3 rfl) ?_
          refine lv_icmp_ge (tgt := 51) hx hb dX9_freeOf_43 (by decide) (fun c4 => ?_) (fun c4 => ?_)
          · have h := h.1 c4
            refine lv_iload_n hx hb dX9_freeOf_51 rfl (lv_at hl 3 rfl) ?_
            refine lv_istore_n (lv' := [(2, .int x2), (1, .int x1), (4, .int r2), (0, .ref (q 0)), (3, .int x3)]) hx hb dX9_freeOf_52 rfl hl (by decide) rfl (fun ls hl => ?_)
            refine lv_iinc (v := (x3 + (1 : Int32))) (lv' := [(3, .int (x3 + (1 : Int32))), (2, .int x2), (1, .int x1), (4, .int r2), (0, .ref (q 0))]) hx hb dX9_freeOf_53 hl (k := 4) rfl rfl (by decide) rfl (fun ls hl => ?_)
            refine lv_goto (tgt := 12) hx hb dX9_freeOf_56 (by decide) ?_
            exact ih I F hs _ x1 x2 (x3 + (1 : Int32)) _ _ _  hP hS (lv_sub hl [4, 2, 1, 0] rfl) h K
          · have h := h.2 c4
            refine lv_iload hx hb dX9_freeOf_46 (lv_at hl 1 rfl) ?_
            refine lv_goto (tgt := 52) hx hb dX9_freeOf_48 (by decide) ?_
            refine lv_istore_n (lv' := [(2, .int r2), (1, .int x1), (4, .int r2), (0, .ref (q 0)), (3, .int x3)]) hx hb dX9_freeOf_52 rfl hl (by decide) rfl (fun ls hl => ?_)
            refine lv_iinc (v := (x3 + (1 : Int32))) (lv' := [(3, .int (x3 + (1 : Int32))), (2, .int r2), (1, .int x1), (4, .int r2), (0, .ref (q 0))]) hx hb dX9_freeOf_53 hl (k := 4) rfl rfl (by decide) rfl (fun ls hl => ?_)
            refine lv_goto (tgt := 12) hx hb dX9_freeOf_56 (by decide) ?_
            exact ih I F hs _ x1 r2 (x3 + (1 : Int32)) _ _ _  hP hS (lv_sub hl [4, 2, 1, 0] rfl) h K
        · have h := h.2 c3
          refine lv_iload_n hx hb dX9_freeOf_34 rfl (lv_at hl 4 rfl) ?_
          refine lv_goto (tgt := 39) hx hb dX9_freeOf_35 (by decide) ?_
          refine lv_istore_n (lv' := [(1, .int x3), (4, .int r2), (0, .ref (q 0)), (2, .int x2), (3, .int x3)]) hx hb dX9_freeOf_39 rfl hl (by decide) rfl (fun ls hl => ?_)
          refine lv_iload hx hb dX9_freeOf_40 (lv_at hl 1 rfl) ?_
          refine lv_iload_n hx hb dX9_freeOf_42 rfl (lv_at hl 3 rfl) ?_
          refine lv_icmp_ge (tgt := 51) hx hb dX9_freeOf_43 (by decide) (fun c5 => ?_) (fun c5 => ?_)
          · have h := h.1 c5
            refine lv_iload_n hx hb dX9_freeOf_51 rfl (lv_at hl 3 rfl) ?_
            refine lv_istore_n (lv' := [(2, .int x2), (1, .int x3), (4, .int r2), (0, .ref (q 0)), (3, .int x3)]) hx hb dX9_freeOf_52 rfl hl (by decide) rfl (fun ls hl => ?_)
            refine lv_iinc (v := (x3 + (1 : Int32))) (lv' := [(3, .int (x3 + (1 : Int32))), (2, .int x2), (1, .int x3), (4, .int r2), (0, .ref (q 0))]) hx hb dX9_freeOf_53 hl (k := 4) rfl rfl (by decide) rfl (fun ls hl => ?_)
            refine lv_goto (tgt := 12) hx hb dX9_freeOf_56 (by decide) ?_
            exact ih I F hs _ x3 x2 (x3 + (1 : Int32)) _ _ _  hP hS (lv_sub hl [4, 2, 1, 0] rfl) h K
          · have h := h.2 c5
            refine lv_iload hx hb dX9_freeOf_46 (lv_at hl 1 rfl) ?_
            refine lv_goto (tgt := 52) hx hb dX9_freeOf_48 (by decide) ?_
            refine lv_istore_n (lv' := [(2, .int r2), (1, .int x3), (4, .int r2), (0, .ref (q 0)), (3, .int x3)]) hx hb dX9_freeOf_52 rfl hl (by decide) rfl (fun ls hl => ?_)
            refine lv_iinc (v := (x3 + (1 : Int32))) (lv' := [(3, .int (x3 + (1 : Int32))), (2, .int r2), (1, .int x3), (4, .int r2), (0, .ref (q 0))]) hx hb dX9_freeOf_53 hl (k := 4) rfl rfl (by decide) rfl (fun ls hl => ?_)
            refine lv_goto (tgt := 12) hx hb dX9_freeOf_56 (by decide) ?_
            exact ih I F hs _ x3 r2 (x3 + (1 : Int32)) _ _ _  hP hS (lv_sub hl [4, 2, 1, 0] rfl) h K
  refine lv_aload_n hx hb dX9_freeOf_0 rfl (lv_at hl 0 rfl) ?_
  refine lv_iconst (v := (0 : Int32)) hx hb dX9_freeOf_1 (by decide) ?_
  refine gCallV (D := D) (va_runV (As := [.int (0 : Int32)]) (rest := []) ⟨hx, hb, hml, hown, hts⟩ (c_X9_layRest l D q cI cO hq (0 : Int32)  I F hs _ h) (cwV 1 hts gX9_freeOf_X9_layRest rfl rfl rfl (by decide +kernel) ⟨Nat.le_trans (Nat.le_of_ble_eq_true rfl) hRf, Nat.le_trans (Nat.le_of_ble_eq_true rfl) hRl⟩) (gPreV (ci := 9) (q0 := 0) mEok hE hK hP hS rfl mAt0) rfl rfl hl.1 rfl (lv_room (Nat.le_of_ble_eq_true rfl)) dX9_freeOf_2 ⟨Nat.zero_le _, Nat.zero_le _⟩) hS (fun u H locs hP hS h => ?_)
  obtain ⟨I6, F7, hs8⟩ := u
  have hP : va_P D vwCl (mW q cI cO I6 F7 hs8) H := hP
  refine lv_iconst (v := (-1 : Int32)) hx hb dX9_freeOf_5 (by decide) ?_
  refine lv_istore_n (lv' := [(1, .int (-1 : Int32)), (0, .ref (q 0))]) hx hb dX9_freeOf_6 rfl hl (by decide) rfl (fun ls hl => ?_)
  refine lv_ldc (v := (99999 : Int32)) hx hb hown (hts _ (List.mem_of_getElem? (l := wsX9_freeOf) (i := 1) rfl)) dX9_freeOf_7 ?_
  refine lv_istore_n (lv' := [(2, .int (99999 : Int32)), (1, .int (-1 : Int32)), (0, .ref (q 0))]) hx hb dX9_freeOf_9 rfl hl (by decide) rfl (fun ls hl => ?_)
  refine lv_iconst (v := (0 : Int32)) hx hb dX9_freeOf_10 (by decide) ?_
  refine lv_istore_n (lv' := [(3, .int (0 : Int32)), (2, .int (99999 : Int32)), (1, .int (-1 : Int32)), (0, .ref (q 0))]) hx hb dX9_freeOf_11 rfl hl (by decide) rfl (fun ls hl => ?_)
  obtain ⟨n, h⟩ := h
  refine L12 n I6 F7 hs8 _ (-1 : Int32) (99999 : Int32) (0 : Int32) _ _ _  hP hS (lv_sub hl [3, 2, 1, 0] rfl) h (fun y9 y10 y11 H locs ls  hP hS hl h => ?_)
  refine lv_iload_n hx hb dX9_freeOf_59 rfl (lv_at hl 1 rfl) ?_
  refine lv_iconst (v := (-1 : Int32)) hx hb dX9_freeOf_60 (by decide) ?_
  refine lv_icmp_ne (tgt := 68) hx hb dX9_freeOf_61 (by decide) (fun c12 => ?_) (fun c12 => ?_)
  · have h := h.1 c12
    refine lv_aload_n hx hb dX9_freeOf_68 rfl (lv_at hl 0 rfl) ?_
    refine lv_iload_n hx hb dX9_freeOf_69 rfl (lv_at hl 1 rfl) ?_
    refine gCallI (D := D) (va_runV (As := [.int y9]) (rest := []) ⟨hx, hb, hml, hown, hts⟩ (c_X9_told l D q cI cO hq y9  I6 F7 hs8 _ h) (cwV 1 hts gX9_freeOf_X9_told rfl rfl rfl (by decide +kernel) ⟨Nat.le_trans (Nat.le_of_ble_eq_true rfl) hRf, Nat.le_trans (Nat.le_of_ble_eq_true rfl) hRl⟩) (gPreV (ci := 9) (q0 := 0) mEok hE hK hP hS rfl mAt0) rfl rfl hl.1 rfl (lv_room (Nat.le_of_ble_eq_true rfl)) dX9_freeOf_70 ⟨Nat.zero_le _, Nat.zero_le _⟩) hS (fun r13 _ H locs hP hS h => ?_)
    have hP : va_P D vwCl (mW q cI cO I6 F7 hs8) H := hP
    exact hret r13 (I6, F7, hs8) _ _ _ _ dX9_freeOf_73 hP hS h
  · have h := h.2 c12
    refine lv_iconst (v := (-1 : Int32)) hx hb dX9_freeOf_64 (by decide) ?_
    refine lv_goto (tgt := 73) hx hb dX9_freeOf_65 (by decide) ?_
    exact hret (-1 : Int32) (I6, F7, hs8) _ _ _ _ dX9_freeOf_73 hP hS h
def w_X9_free  (I : Nat → Int32) (F : Nat → Nat → Int32) (hs : Int64) (post : Int32 → (Nat → Int32) → (Nat → Nat → Int32) → Int64 → Prop) : Prop :=
  w_X9_lacks I F hs (fun (r1 : Int32) => ((r1 = 0 → w_X9_freeOf I F hs (fun (r3 : Int32) (I4 : Nat → Int32) (F5 : Nat → Nat → Int32) (hs6 : Int64) => post r3 I4 F5 hs6)) ∧ (¬ r1 = 0 → post (-103 : Int32) I F hs)))
set_option maxHeartbeats 4000000 in
set_option maxRecDepth 100000 in
theorem c_X9_free (l : Launch) (D : va_G) (q : Nat → Nat) (cI cO : ClassId) (hq : mOk q)   (I : Nat → Int32) (F : Nat → Nat → Int32) (hs : Int64) (post : Int32 → (Nat → Int32) → (Nat → Nat → Int32) → Int64 → Prop) (h : w_X9_free  I F hs post) : Met l yX9_free wsX9_free ({ frames := 5, cells := 0, slots := 0, locals := 122 } : Room) (gPre D (mTys cI) (mW q cI cO I F hs) mEnv [.ref (q 0)]) (va_Qi (fun r (u : mS) => post r u.1 u.2.1 u.2.2) (gB D (fun u : mS => mW q cI cO u.1 u.2.1 u.2.2)) (mA q)) 0 0 (mA q) := by
  refine gMetI (by decide) rfl (Nat.le_of_ble_eq_true rfl) ?_
  intro p e R s m args below meth c Q ls hR hx hb hml hown hts hK hE hP hl hret
  have hRf : 5 ≤ R.frames := by subst hR; exact Nat.le_refl _
  have hRl : 122 ≤ R.locals := by subst hR; exact Nat.le_refl _
  have hown : s.vm.findClass RX9 = some m.cls := hown
  have hl : lv_has ls 1 [(0, .ref (q 0))] := hl
  have hS : va_S (mA q) s.heap s.heap [] := va_S.rf
  have hP : va_P D vwCl (mW q cI cO I F hs) s.heap := hP
  refine lv_aload_n hx hb dX9_free_0 rfl (lv_at hl 0 rfl) ?_
  refine gCallI (D := D) (va_runV (As := []) (rest := []) ⟨hx, hb, hml, hown, hts⟩ (c_X9_lacks l D q cI cO hq   I F hs _ h) (cwV 0 hts gX9_free_X9_lacks rfl rfl rfl (by decide +kernel) ⟨Nat.le_trans (Nat.le_of_ble_eq_true rfl) hRf, Nat.le_trans (Nat.le_of_ble_eq_true rfl) hRl⟩) (gPreV (ci := 9) (q0 := 0) mEok hE hK hP hS rfl mAt0) rfl rfl hl.1 rfl (lv_room (Nat.le_of_ble_eq_true rfl)) dX9_free_1 ⟨Nat.zero_le _, Nat.zero_le _⟩) hS (fun r1 _ H locs hP hS h => ?_)
  have hP : va_P D vwCl (mW q cI cO I F hs) H := hP
  refine lv_if_eq (tgt := 12) hx hb dX9_free_4 (by decide) (fun c2 => ?_) (fun c2 => ?_)
  · have h := h.1 c2
    refine lv_aload_n hx hb dX9_free_12 rfl (lv_at hl 0 rfl) ?_
    refine gCallI (D := D) (va_runV (As := []) (rest := []) ⟨hx, hb, hml, hown, hts⟩ (c_X9_freeOf l D q cI cO hq   I F hs _ h) (cwV 0 hts gX9_free_X9_freeOf rfl rfl rfl (by decide +kernel) ⟨Nat.le_trans (Nat.le_of_ble_eq_true rfl) hRf, Nat.le_trans (Nat.le_of_ble_eq_true rfl) hRl⟩) (gPreV (ci := 9) (q0 := 0) mEok hE hK hP hS rfl mAt0) rfl rfl hl.1 rfl (lv_room (Nat.le_of_ble_eq_true rfl)) dX9_free_13 ⟨Nat.zero_le _, Nat.zero_le _⟩) hS (fun r3 u H locs hP hS h => ?_)
    obtain ⟨I4, F5, hs6⟩ := u
    have hP : va_P D vwCl (mW q cI cO I4 F5 hs6) H := hP
    exact hret r3 (I4, F5, hs6) _ _ _ _ dX9_free_16 hP hS h
  · have h := h.2 c2
    refine lv_bipush (v := (-103 : Int32)) hx hb dX9_free_7 (by decide) ?_
    refine lv_goto (tgt := 16) hx hb dX9_free_9 (by decide) ?_
    exact hret (-103 : Int32) (I, F, hs) _ _ _ _ dX9_free_16 hP hS h
def w_X9_see_J85 (z1 : Int32) (z2 : Int32) (I : Nat → Int32) (F : Nat → Nat → Int32) (hs : Int64) (post : Int32 → (Nat → Int32) → (Nat → Nat → Int32) → Int64 → Prop) : Prop :=
  vp_in z1 18 ∧ ∀ F1 : Nat → Nat → Int32, F1 = upF F 22 (upd (F 22) (z1).toNatClampNeg z2) → ∀ I2 : Nat → Int32, I2 = upd I 11 ((I 11) + (1 : Int32)) → post (I2 11) I2 F1 hs
def w_X9_see (a1 : Int32) (a2 : Int32) (a3 : Int32) (I : Nat → Int32) (F : Nat → Nat → Int32) (hs : Int64) (post : Int32 → (Nat → Int32) → (Nat → Nat → Int32) → Int64 → Prop) : Prop :=
  w_X9_isChord a1 I F hs (fun (r3 : Int32) => ((¬ r3 = 0 → w_X9_in ((a2).toInt64) (0 : Int64) (3 : Int64) I F hs (fun (r5 : Int32) => ((¬ r5 = 0 → ((¬ (I 11) = (6 : Int32) → vp_in ((3 : Int32) * (I 11)) 18 ∧ ∀ F8 : Nat → Nat → Int32, F8 = upF F 22 (upd (F 22) (((3 : Int32) * (I 11))).toNatClampNeg a1) → vp_in (((3 : Int32) * (I 11)) + (1 : Int32)) 18 ∧ ∀ F9 : Nat → Nat → Int32, F9 = upF F8 22 (upd (F8 22) ((((3 : Int32) * (I 11)) + (1 : Int32))).toNatClampNeg a2) → ((a3 = 0 → w_X9_see_J85 (((3 : Int32) * (I 11)) + (2 : Int32)) (0 : Int32) I F9 hs post) ∧ (¬ a3 = 0 → w_X9_see_J85 (((3 : Int32) * (I 11)) + (2 : Int32)) (1 : Int32) I F9 hs post))) ∧ ((I 11) = (6 : Int32) → post (-104 : Int32) I F hs))) ∧ (r5 = 0 → post (-102 : Int32) I F hs)))) ∧ (r3 = 0 → post (-101 : Int32) I F hs)))
set_option maxHeartbeats 4000000 in
set_option maxRecDepth 100000 in
theorem c_X9_see (l : Launch) (D : va_G) (q : Nat → Nat) (cI cO : ClassId) (hq : mOk q) (a1 : Int32) (a2 : Int32) (a3 : Int32)  (I : Nat → Int32) (F : Nat → Nat → Int32) (hs : Int64) (post : Int32 → (Nat → Int32) → (Nat → Nat → Int32) → Int64 → Prop) (h : w_X9_see a1 a2 a3 I F hs post) : Met l yX9_see wsX9_see ({ frames := 2, cells := 0, slots := 0, locals := 46 } : Room) (gPre D (mTys cI) (mW q cI cO I F hs) mEnv [.ref (q 0), .int a1, .int a2, .int a3]) (va_Qi (fun r (u : mS) => post r u.1 u.2.1 u.2.2) (gB D (fun u : mS => mW q cI cO u.1 u.2.1 u.2.2)) (mA q)) 0 0 (mA q) := by
  refine gMetI (by decide) rfl (Nat.le_of_ble_eq_true rfl) ?_
  intro p e R s m args below meth c Q ls hR hx hb hml hown hts hK hE hP hl hret
  have hRf : 2 ≤ R.frames := by subst hR; exact Nat.le_refl _
  have hRl : 46 ≤ R.locals := by subst hR; exact Nat.le_refl _
  have hown : s.vm.findClass RX9 = some m.cls := hown
  have hl : lv_has ls 4 [(0, .ref (q 0)), (1, .int a1), (2, .int a2), (3, .int a3)] := hl
  have hS : va_S (mA q) s.heap s.heap [] := va_S.rf
  have hP : va_P D vwCl (mW q cI cO I F hs) s.heap := hP
  have J85 : ∀ (z1 : Int32) (z2 : Int32) (I : Nat → Int32) (F : Nat → Nat → Int32) (hs : Int64) (H : Heap) (locs : List Loc) (ls : Array Slot), va_P D vwCl (mW q cI cO I F hs) H → va_S (mA q) s.heap H locs → lv_has ls 4 [(0, .ref (q 0))] → w_X9_see_J85 z1 z2 I F hs post → W p l e R s m args below meth c H locs 0 0 Q (F0 m 85 ls [.int z2, .int z1, .ref (q 22)]) := by
    intro z1 z2 I F hs H locs ls  hP hS hl h
    refine gAst (D := D) hx hb hK hP (mD hq) hS 22 0 mAr22 rfl h.1 dX9_see_85 (mSA22 _) (fun H locs hP hS => ?_)
    obtain ⟨F1, eF1⟩ : ∃ z : Nat → Nat → Int32, z = upF F 22 (upd (F 22) (z1).toNatClampNeg z2) := ⟨_, rfl⟩
    rw [← eF1] at hP
    have h := h.2 F1 eF1
    refine lv_aload_n hx hb dX9_see_86 rfl (lv_at hl 0 rfl) ?_
    refine lv_dup hx hb dX9_see_87 rfl ?_
    refine va_get (D := D) (ci := 9) (v := .int (I 11)) (C := RX9) (T := TX9) (N := 44) hx hb hts (fun _ h9 => List.mem_cons_of_mem _ (List.mem_append_right _ h9)) hown hK hP 0 mAt0 rfl 32 (by decide) (hts _ (List.mem_of_getElem? (l := wsX9_see) (i := 2) rfl)) (fun _ h9 => h9) rfl dX9_see_88 ?_
    refine lv_iconst (v := (1 : Int32)) hx hb dX9_see_91 (by decide) ?_
    refine lv_iadd hx hb dX9_see_92 ?_
    refine gPut (D := D) (ci := 9) (ty := .int) (C := RX9) (T := TX9) (N := 44) hx hb hts (fun _ h9 => List.mem_cons_of_mem _ (List.mem_append_right _ h9)) tyX9 tyX9_ok nmX9 hown hK hP (mD hq) hS 0 mAt0 rfl 32 (by decide) (hts _ (List.mem_of_getElem? (l := wsX9_see) (i := 2) rfl)) (fun _ h9 => h9) rfl (by decide +kernel) rfl rfl (Nat.le_of_ble_eq_true rfl) dX9_see_93 (mSet11 ((I 11) + (1 : Int32))) (fun H locs hP hS => ?_)
    obtain ⟨I2, eI2⟩ : ∃ z : Nat → Int32, z = upd I 11 ((I 11) + (1 : Int32)) := ⟨_, rfl⟩
    rw [← eI2] at hP
    have h := h I2 eI2
    refine lv_aload_n hx hb dX9_see_96 rfl (lv_at hl 0 rfl) ?_
    refine va_get (D := D) (ci := 9) (v := .int (I2 11)) (C := RX9) (T := TX9) (N := 44) hx hb hts (fun _ h9 => List.mem_cons_of_mem _ (List.mem_append_right _ h9)) hown hK hP 0 mAt0 rfl 32 (by decide) (hts _ (List.mem_of_getElem? (l := wsX9_see) (i := 2) rfl)) (fun _ h9 => h9) rfl dX9_see_97 ?_
    exact hret (I2 11) (I2, F1, hs) _ _ _ _ dX9_see_100 hP hS h
  refine lv_aload_n hx hb dX9_see_0 rfl (lv_at hl 0 rfl) ?_
  refine lv_iload_n hx hb dX9_see_1 rfl (lv_at hl 1 rfl) ?_
  refine gCallI (D := D) (va_runV (As := [.int a1]) (rest := []) ⟨hx, hb, hml, hown, hts⟩ (c_X9_isChord l D q cI cO hq a1  I F hs _ h) (cwV 1 hts gX9_see_X9_isChord rfl rfl rfl (by decide +kernel) ⟨Nat.le_trans (Nat.le_of_ble_eq_true rfl) hRf, Nat.le_trans (Nat.le_of_ble_eq_true rfl) hRl⟩) (gPreV (ci := 9) (q0 := 0) mEok hE hK hP hS rfl mAt0) rfl rfl hl.1 rfl (lv_room (Nat.le_of_ble_eq_true rfl)) dX9_see_2 ⟨Nat.zero_le _, Nat.zero_le _⟩) hS (fun r3 _ H locs hP hS h => ?_)
  have hP : va_P D vwCl (mW q cI cO I F hs) H := hP
  refine lv_if_ne (tgt := 11) hx hb dX9_see_5 (by decide) (fun c4 => ?_) (fun c4 => ?_)
  · have h := h.1 c4
    refine lv_iload_n hx hb dX9_see_11 rfl (lv_at hl 2 rfl) ?_
    refine lv_i2l (v := (a2).toInt64) hx hb dX9_see_12 rfl ?_
    refine lv_lconst (v := (0 : Int64)) hx hb dX9_see_13 (by decide) ?_
    refine lv_ldc2 (v := (3 : Int64)) hx hb hown (hts _ (List.mem_of_getElem? (l := wsX9_see) (i := 1) rfl)) dX9_see_14 ?_
    refine gCallI (D := D) (va_runS (As := [.long ((a2).toInt64), .long (0 : Int64), .long (3 : Int64)]) (rest := []) ⟨hx, hb, hml, hown, hts⟩ (c_X9_in l D q cI cO hq ((a2).toInt64) (0 : Int64) (3 : Int64)  I F hs _ h) (va_cwS 3 hts gX9_see_X9_in rfl rfl rfl (by decide +kernel) ⟨Nat.le_trans (Nat.le_of_ble_eq_true rfl) hRf, Nat.le_trans (Nat.le_of_ble_eq_true rfl) hRl⟩) (gPreS mEok hE hK hP hS) rfl rfl hl.1 rfl (lv_room (Nat.le_of_ble_eq_true rfl)) dX9_see_17 ⟨Nat.zero_le _, Nat.zero_le _⟩) hS (fun r5 _ H locs hP hS h => ?_)
    have hP : va_P D vwCl (mW q cI cO I F hs) H := hP
    refine lv_if_ne (tgt := 26) hx hb dX9_see_20 (by decide) (fun c6 => ?_) (fun c6 => ?_)
    · have h := h.1 c6
      refine lv_aload_n hx hb dX9_see_26 rfl (lv_at hl 0 rfl) ?_
      refine va_get (D := D) (ci := 9) (v := .int (I 11)) (C := RX9) (T := TX9) (N := 44) hx hb hts (fun _ h9 => List.mem_cons_of_mem _ (List.mem_append_right _ h9)) hown hK hP 0 mAt0 rfl 32 (by decide) (hts _ (List.mem_of_getElem? (l := wsX9_see) (i := 2) rfl)) (fun _ h9 => h9) rfl dX9_see_27 ?_
      refine lv_bipush (v := (6 : Int32)) hx hb dX9_see_30 (by decide) ?_
      refine lv_icmp_ne (tgt := 38) hx hb dX9_see_32 (by decide) (fun c7 => ?_) (fun c7 => ?_)
      · have h := h.1 c7
        refine lv_aload_n hx hb dX9_see_38 rfl (lv_at hl 0 rfl) ?_
        refine va_get (D := D) (ci := 9) (v := .ref (q 22)) (C := RX9) (T := TX9) (N := 44) hx hb hts (fun _ h9 => List.mem_cons_of_mem _ (List.mem_append_right _ h9)) hown hK hP 0 mAt0 rfl 33 (by decide) (hts _ (List.mem_of_getElem? (l := wsX9_see) (i := 3) rfl)) (fun _ h9 => h9) rfl dX9_see_39 ?_
        refine lv_iconst (v := (3 : Int32)) hx hb dX9_see_42 (by decide) ?_
        refine lv_aload_n hx hb dX9_see_43 rfl (lv_at hl 0 rfl) ?_
        refine va_get (D := D) (ci := 9) (v := .int (I 11)) (C := RX9) (T := TX9) (N := 44) hx hb hts (fun _ h9 => List.mem_cons_of_mem _ (List.mem_append_right _ h9)) hown hK hP 0 mAt0 rfl 32 (by decide) (hts _ (List.mem_of_getElem? (l := wsX9_see) (i := 2) rfl)) (fun _ h9 => h9) rfl dX9_see_44 ?_
        refine lv_imul hx hb dX9_see_47 ?_
        refine lv_iload_n hx hb dX9_see_48 rfl (lv_at hl 1 rfl) ?_
        refine gAst (D := D) hx hb hK hP (mD hq) hS 22 0 mAr22 rfl h.1 dX9_see_49 (mSA22 _) (fun H locs hP hS => ?_)
        obtain ⟨F8, eF8⟩ : ∃ z : Nat → Nat → Int32, z = upF F 22 (upd (F 22) (((3 : Int32) * (I 11))).toNatClampNeg a1) := ⟨_, rfl⟩
        rw [← eF8] at hP
        have h := h.2 F8 eF8
        refine lv_aload_n hx hb dX9_see_50 rfl (lv_at hl 0 rfl) ?_
        refine va_get (D := D) (ci := 9) (v := .ref (q 22)) (C := RX9) (T := TX9) (N := 44) hx hb hts (fun _ h9 => List.mem_cons_of_mem _ (List.mem_append_right _ h9)) hown hK hP 0 mAt0 rfl 33 (by decide) (hts _ (List.mem_of_getElem? (l := wsX9_see) (i := 3) rfl)) (fun _ h9 => h9) rfl dX9_see_51 ?_
        refine lv_iconst (v := (3 : Int32)) hx hb dX9_see_54 (by decide) ?_
        refine lv_aload_n hx hb dX9_see_55 rfl (lv_at hl 0 rfl) ?_
        refine va_get (D := D) (ci := 9) (v := .int (I 11)) (C := RX9) (T := TX9) (N := 44) hx hb hts (fun _ h9 => List.mem_cons_of_mem _ (List.mem_append_right _ h9)) hown hK hP 0 mAt0 rfl 32 (by decide) (hts _ (List.mem_of_getElem? (l := wsX9_see) (i := 2) rfl)) (fun _ h9 => h9) rfl dX9_see_56 ?_
        refine lv_imul hx hb dX9_see_59 ?_
        refine lv_iconst (v := (1 : Int32)) hx hb dX9_see_60 (by decide) ?_
        refine lv_iadd hx hb dX9_see_61 ?_
        refine lv_iload_n hx hb dX9_see_62 rfl (lv_at hl 2 rfl) ?_
        refine gAst (D := D) hx hb hK hP (mD hq) hS 22 0 mAr22 rfl h.1 dX9_see_63 (mSA22 _) (fun H locs hP hS => ?_)
        obtain ⟨F9, eF9⟩ : ∃ z : Nat → Nat → Int32, z = upF F8 22 (upd (F8 22) ((((3 : Int32) * (I 11)) + (1 : Int32))).toNatClampNeg a2) := ⟨_, rfl⟩
        rw [← eF9] at hP
        have h := h.2 F9 eF9
        refine lv_aload_n hx hb dX9_see_64 rfl (lv_at hl 0 rfl) ?_
        refine va_get (D := D) (ci := 9) (v := .ref (q 22)) (C := RX9) (T := TX9) (N := 44) hx hb hts (fun _ h9 => List.mem_cons_of_mem _ (List.mem_append_right _ h9)) hown hK hP 0 mAt0 rfl 33 (by decide) (hts _ (List.mem_of_getElem? (l := wsX9_see) (i := 3) rfl)) (fun _ h9 => h9) rfl dX9_see_65 ?_
        refine lv_iconst (v := (3 : Int32)) hx hb dX9_see_68 (by decide) ?_
        refine lv_aload_n hx hb dX9_see_69 rfl (lv_at hl 0 rfl) ?_
        refine va_get (D := D) (ci := 9) (v := .int (I 11)) (C := RX9) (T := TX9) (N := 44) hx hb hts (fun _ h9 => List.mem_cons_of_mem _ (List.mem_append_right _ h9)) hown hK hP 0 mAt0 rfl 32 (by decide) (hts _ (List.mem_of_getElem? (l := wsX9_see) (i := 2) rfl)) (fun _ h9 => h9) rfl dX9_see_70 ?_
        refine lv_imul hx hb dX9_see_73 ?_
        refine lv_iconst (v := (2 : Int32)) hx hb dX9_see_74 (by decide) ?_
        refine lv_iadd hx hb dX9_see_75 ?_
        refine lv_iload_n hx hb dX9_see_76 rfl (lv_at hl 3 rfl) ?_
        refine lv_if_eq (tgt := 84) hx hb dX9_see_77 (by decide) (fun c10 => ?_) (fun c10 => ?_)
        · have h := h.1 c10
          refine lv_iconst (v := (0 : Int32)) hx hb dX9_see_84 (by decide) ?_
          exact J85 (((3 : Int32) * (I 11)) + (2 : Int32)) (0 : Int32) I F9 hs _ _ _  hP hS (lv_sub hl [0] rfl) h
        · have h := h.2 c10
          refine lv_iconst (v := (1 : Int32)) hx hb dX9_see_80 (by decide) ?_
          refine lv_goto (tgt := 85) hx hb dX9_see_81 (by decide) ?_
          exact J85 (((3 : Int32) * (I 11)) + (2 : Int32)) (1 : Int32) I F9 hs _ _ _  hP hS (lv_sub hl [0] rfl) h
      · have h := h.2 c7
        refine lv_bipush (v := (-104 : Int32)) hx hb dX9_see_35 (by decide) ?_
        exact hret (-104 : Int32) (I, F, hs) _ _ _ _ dX9_see_37 hP hS h
    · have h := h.2 c6
      refine lv_bipush (v := (-102 : Int32)) hx hb dX9_see_23 (by decide) ?_
      exact hret (-102 : Int32) (I, F, hs) _ _ _ _ dX9_see_25 hP hS h
  · have h := h.2 c4
    refine lv_bipush (v := (-101 : Int32)) hx hb dX9_see_8 (by decide) ?_
    exact hret (-101 : Int32) (I, F, hs) _ _ _ _ dX9_see_10 hP hS h
def w_X9_forget  (I : Nat → Int32) (F : Nat → Nat → Int32) (hs : Int64) (post : Int32 → (Nat → Int32) → (Nat → Nat → Int32) → Int64 → Prop) : Prop :=
  ∀ v1 : Int32, v1 = (I 11) → ∀ I2 : Nat → Int32, I2 = upd I 11 (0 : Int32) → post v1 I2 F hs
set_option maxHeartbeats 4000000 in
set_option maxRecDepth 100000 in
theorem c_X9_forget (l : Launch) (D : va_G) (q : Nat → Nat) (cI cO : ClassId) (hq : mOk q)   (I : Nat → Int32) (F : Nat → Nat → Int32) (hs : Int64) (post : Int32 → (Nat → Int32) → (Nat → Nat → Int32) → Int64 → Prop) (h : w_X9_forget  I F hs post) : Met l yX9_forget wsX9_forget ({ frames := 0, cells := 0, slots := 0, locals := 0 } : Room) (gPre D (mTys cI) (mW q cI cO I F hs) mEnv [.ref (q 0)]) (va_Qi (fun r (u : mS) => post r u.1 u.2.1 u.2.2) (gB D (fun u : mS => mW q cI cO u.1 u.2.1 u.2.2)) (mA q)) 0 0 (mA q) := by
  refine gMetI (by decide) rfl (Nat.le_of_ble_eq_true rfl) ?_
  intro p e R s m args below meth c Q ls hR hx hb hml hown hts hK hE hP hl hret
  have hRf : 0 ≤ R.frames := by subst hR; exact Nat.le_refl _
  have hRl : 0 ≤ R.locals := by subst hR; exact Nat.le_refl _
  have hown : s.vm.findClass RX9 = some m.cls := hown
  have hl : lv_has ls 2 [(0, .ref (q 0))] := hl
  have hS : va_S (mA q) s.heap s.heap [] := va_S.rf
  have hP : va_P D vwCl (mW q cI cO I F hs) s.heap := hP
  refine lv_aload_n hx hb dX9_forget_0 rfl (lv_at hl 0 rfl) ?_
  refine va_get (D := D) (ci := 9) (v := .int (I 11)) (C := RX9) (T := TX9) (N := 44) hx hb hts (fun _ h9 => List.mem_cons_of_mem _ (List.mem_append_right _ h9)) hown hK hP 0 mAt0 rfl 32 (by decide) (hts _ (List.mem_of_getElem? (l := wsX9_forget) (i := 1) rfl)) (fun _ h9 => h9) rfl dX9_forget_1 ?_
  refine lv_topi (fun v1 ev1 => ?_)
  have h := h v1 ev1
  refine lv_istore_n (lv' := [(1, .int v1), (0, .ref (q 0))]) hx hb dX9_forget_4 rfl hl (by decide) rfl (fun ls hl => ?_)
  refine lv_aload_n hx hb dX9_forget_5 rfl (lv_at hl 1 rfl) ?_
  refine lv_iconst (v := (0 : Int32)) hx hb dX9_forget_6 (by decide) ?_
  refine gPut (D := D) (ci := 9) (ty := .int) (C := RX9) (T := TX9) (N := 44) hx hb hts (fun _ h9 => List.mem_cons_of_mem _ (List.mem_append_right _ h9)) tyX9 tyX9_ok nmX9 hown hK hP (mD hq) hS 0 mAt0 rfl 32 (by decide) (hts _ (List.mem_of_getElem? (l := wsX9_forget) (i := 1) rfl)) (fun _ h9 => h9) rfl (by decide +kernel) rfl rfl (Nat.le_of_ble_eq_true rfl) dX9_forget_7 (mSet11 (0 : Int32)) (fun H locs hP hS => ?_)
  obtain ⟨I2, eI2⟩ : ∃ z : Nat → Int32, z = upd I 11 (0 : Int32) := ⟨_, rfl⟩
  rw [← eI2] at hP
  have h := h I2 eI2
  refine lv_iload_n hx hb dX9_forget_10 rfl (lv_at hl 0 rfl) ?_
  exact hret v1 (I2, F, hs) _ _ _ _ dX9_forget_11 hP hS h
def w_X9_draw (a1 : Int32) (I : Nat → Int32) (F : Nat → Nat → Int32) (hs : Int64) (post : Int32 → (Nat → Int32) → (Nat → Nat → Int32) → Int64 → Prop) : Prop :=
  ∀ I1 : Nat → Int32, I1 = upd I 12 ((((((1103515245 : Int64) * (((I 12)).toInt64)) + (12345 : Int64)) &&& (2147483647 : Int64))).toInt32) → ¬ a1 = (0 : Int32) ∧ post (((I1 12) / (65536 : Int32)) - ((I1 12) / (65536 : Int32)) / a1 * a1) I1 F hs
set_option maxHeartbeats 4000000 in
set_option maxRecDepth 100000 in
theorem c_X9_draw (l : Launch) (D : va_G) (q : Nat → Nat) (cI cO : ClassId) (hq : mOk q) (a1 : Int32)  (I : Nat → Int32) (F : Nat → Nat → Int32) (hs : Int64) (post : Int32 → (Nat → Int32) → (Nat → Nat → Int32) → Int64 → Prop) (h : w_X9_draw a1 I F hs post) : Met l yX9_draw wsX9_draw ({ frames := 0, cells := 0, slots := 0, locals := 0 } : Room) (gPre D (mTys cI) (mW q cI cO I F hs) mEnv [.ref (q 0), .int a1]) (va_Qi (fun r (u : mS) => post r u.1 u.2.1 u.2.2) (gB D (fun u : mS => mW q cI cO u.1 u.2.1 u.2.2)) (mA q)) 0 0 (mA q) := by
  refine gMetI (by decide) rfl (Nat.le_of_ble_eq_true rfl) ?_
  intro p e R s m args below meth c Q ls hR hx hb hml hown hts hK hE hP hl hret
  have hRf : 0 ≤ R.frames := by subst hR; exact Nat.le_refl _
  have hRl : 0 ≤ R.locals := by subst hR; exact Nat.le_refl _
  have hown : s.vm.findClass RX9 = some m.cls := hown
  have hl : lv_has ls 2 [(0, .ref (q 0)), (1, .int a1)] := hl
  have hS : va_S (mA q) s.heap s.heap [] := va_S.rf
  have hP : va_P D vwCl (mW q cI cO I F hs) s.heap := hP
  refine lv_aload_n hx hb dX9_draw_0 rfl (lv_at hl 0 rfl) ?_
  refine lv_ldc2 (v := (1103515245 : Int64)) hx hb hown (hts _ (List.mem_of_getElem? (l := wsX9_draw) (i := 1) rfl)) dX9_draw_1 ?_
  refine lv_aload_n hx hb dX9_draw_4 rfl (lv_at hl 0 rfl) ?_
  refine va_get (D := D) (ci := 9) (v := .int (I 12)) (C := RX9) (T := TX9) (N := 44) hx hb hts (fun _ h9 => List.mem_cons_of_mem _ (List.mem_append_right _ h9)) hown hK hP 0 mAt0 rfl 34 (by decide) (hts _ (List.mem_of_getElem? (l := wsX9_draw) (i := 2) rfl)) (fun _ h9 => h9) rfl dX9_draw_5 ?_
  refine lv_i2l (v := ((I 12)).toInt64) hx hb dX9_draw_8 rfl ?_
  refine lv_lmul hx hb dX9_draw_9 ?_
  refine lv_ldc2 (v := (12345 : Int64)) hx hb hown (hts _ (List.mem_of_getElem? (l := wsX9_draw) (i := 3) rfl)) dX9_draw_10 ?_
  refine lv_ladd hx hb dX9_draw_13 ?_
  refine lv_ldc2 (v := (2147483647 : Int64)) hx hb hown (hts _ (List.mem_of_getElem? (l := wsX9_draw) (i := 4) rfl)) dX9_draw_14 ?_
  refine lv_land hx hb dX9_draw_17 ?_
  refine lv_l2i (v := (((((1103515245 : Int64) * (((I 12)).toInt64)) + (12345 : Int64)) &&& (2147483647 : Int64))).toInt32) hx hb dX9_draw_18 rfl ?_
  refine gPut (D := D) (ci := 9) (ty := .int) (C := RX9) (T := TX9) (N := 44) hx hb hts (fun _ h9 => List.mem_cons_of_mem _ (List.mem_append_right _ h9)) tyX9 tyX9_ok nmX9 hown hK hP (mD hq) hS 0 mAt0 rfl 34 (by decide) (hts _ (List.mem_of_getElem? (l := wsX9_draw) (i := 2) rfl)) (fun _ h9 => h9) rfl (by decide +kernel) rfl rfl (Nat.le_of_ble_eq_true rfl) dX9_draw_19 (mSet12 ((((((1103515245 : Int64) * (((I 12)).toInt64)) + (12345 : Int64)) &&& (2147483647 : Int64))).toInt32)) (fun H locs hP hS => ?_)
  obtain ⟨I1, eI1⟩ : ∃ z : Nat → Int32, z = upd I 12 ((((((1103515245 : Int64) * (((I 12)).toInt64)) + (12345 : Int64)) &&& (2147483647 : Int64))).toInt32) := ⟨_, rfl⟩
  rw [← eI1] at hP
  have h := h I1 eI1
  refine lv_aload_n hx hb dX9_draw_22 rfl (lv_at hl 0 rfl) ?_
  refine va_get (D := D) (ci := 9) (v := .int (I1 12)) (C := RX9) (T := TX9) (N := 44) hx hb hts (fun _ h9 => List.mem_cons_of_mem _ (List.mem_append_right _ h9)) hown hK hP 0 mAt0 rfl 34 (by decide) (hts _ (List.mem_of_getElem? (l := wsX9_draw) (i := 2) rfl)) (fun _ h9 => h9) rfl dX9_draw_23 ?_
  refine lv_ldcw (v := (65536 : Int32)) hx hb hown (hts _ (List.mem_of_getElem? (l := wsX9_draw) (i := 5) rfl)) dX9_draw_26 ?_
  refine lv_idiv hx hb dX9_draw_29 (by decide) ?_
  refine lv_iload_n hx hb dX9_draw_30 rfl (lv_at hl 1 rfl) ?_
  refine lv_irem hx hb dX9_draw_31 h.1 ?_
  have h := h.2
  exact hret (((I1 12) / (65536 : Int32)) - ((I1 12) / (65536 : Int32)) / a1 * a1) (I1, F, hs) _ _ _ _ dX9_draw_32 hP hS h
def w_X9_played_B8 (x1 : Int32) (x2 : Int32) (I : Nat → Int32) (F : Nat → Nat → Int32) (hs : Int64) (k again : Int32 → Int32 → Int32 → Prop) (x3 : Int32) (x4 : Int32) (x5 : Int32) : Prop :=
  (((63 : Int32) ≤ x5 → k x3 x4 x5) ∧ (¬ (63 : Int32) ≤ x5 → w_X9_after x1 x5 I F hs (fun (r2 : Int32) => w_X9_movedBy x5 I F hs (fun (r3 : Int32) => w_X9_isFitting r2 (0 : Int32) x2 I F hs (fun (r4 : Int32) => ((r4 = 0 → (((0 : Int32) = 0 → (((0 : Int32) = 0 → again x3 x4 (x5 + (1 : Int32))) ∧ (¬ (0 : Int32) = 0 → again x3 r3 (x5 + (1 : Int32))))) ∧ (¬ (0 : Int32) = 0 → (((0 : Int32) = 0 → again r2 x4 (x5 + (1 : Int32))) ∧ (¬ (0 : Int32) = 0 → again r2 r3 (x5 + (1 : Int32))))))) ∧ (¬ r4 = 0 → ((r3 < x4 → (((1 : Int32) = 0 → (((1 : Int32) = 0 → again x3 x4 (x5 + (1 : Int32))) ∧ (¬ (1 : Int32) = 0 → again x3 r3 (x5 + (1 : Int32))))) ∧ (¬ (1 : Int32) = 0 → (((1 : Int32) = 0 → again r2 x4 (x5 + (1 : Int32))) ∧ (¬ (1 : Int32) = 0 → again r2 r3 (x5 + (1 : Int32))))))) ∧ (¬ r3 < x4 → ((¬ r3 = x4 → (((0 : Int32) = 0 → (((0 : Int32) = 0 → again x3 x4 (x5 + (1 : Int32))) ∧ (¬ (0 : Int32) = 0 → again x3 r3 (x5 + (1 : Int32))))) ∧ (¬ (0 : Int32) = 0 → (((0 : Int32) = 0 → again r2 x4 (x5 + (1 : Int32))) ∧ (¬ (0 : Int32) = 0 → again r2 r3 (x5 + (1 : Int32))))))) ∧ (r3 = x4 → ((x3 ≤ r2 → (((0 : Int32) = 0 → (((0 : Int32) = 0 → again x3 x4 (x5 + (1 : Int32))) ∧ (¬ (0 : Int32) = 0 → again x3 r3 (x5 + (1 : Int32))))) ∧ (¬ (0 : Int32) = 0 → (((0 : Int32) = 0 → again r2 x4 (x5 + (1 : Int32))) ∧ (¬ (0 : Int32) = 0 → again r2 r3 (x5 + (1 : Int32))))))) ∧ (¬ x3 ≤ r2 → (((1 : Int32) = 0 → (((1 : Int32) = 0 → again x3 x4 (x5 + (1 : Int32))) ∧ (¬ (1 : Int32) = 0 → again x3 r3 (x5 + (1 : Int32))))) ∧ (¬ (1 : Int32) = 0 → (((1 : Int32) = 0 → again r2 x4 (x5 + (1 : Int32))) ∧ (¬ (1 : Int32) = 0 → again r2 r3 (x5 + (1 : Int32)))))))))))))))))))
def w_X9_played (a1 : Int32) (a2 : Int32) (I : Nat → Int32) (F : Nat → Nat → Int32) (hs : Int64) (post : Int32 → (Nat → Int32) → (Nat → Nat → Int32) → Int64 → Prop) : Prop :=
  gL (fun ag v => w_X9_played_B8 a1 a2 I F hs (fun (y24 : Int32) (y25 : Int32) (y26 : Int32) => ∀ I27 : Nat → Int32, I27 = upd I 13 y25 → post y24 I27 F hs) (fun b0 b1 b2 => ag (b0, b1, b2)) v.1 v.2.1 v.2.2) ((-1 : Int32), (3 : Int32), (0 : Int32))
set_option maxHeartbeats 4000000 in
set_option maxRecDepth 100000 in
theorem c_X9_played (l : Launch) (D : va_G) (q : Nat → Nat) (cI cO : ClassId) (hq : mOk q) (a1 : Int32) (a2 : Int32)  (I : Nat → Int32) (F : Nat → Nat → Int32) (hs : Int64) (post : Int32 → (Nat → Int32) → (Nat → Nat → Int32) → Int64 → Prop) (h : w_X9_played a1 a2 I F hs post) : Met l yX9_played wsX9_played ({ frames := 2, cells := 0, slots := 0, locals := 47 } : Room) (gPre D (mTys cI) (mW q cI cO I F hs) mEnv [.ref (q 0), .int a1, .int a2]) (va_Qi (fun r (u : mS) => post r u.1 u.2.1 u.2.2) (gB D (fun u : mS => mW q cI cO u.1 u.2.1 u.2.2)) (mA q)) 0 0 (mA q) := by
  refine gMetI (by decide) rfl (Nat.le_of_ble_eq_true rfl) ?_
  intro p e R s m args below meth c Q ls hR hx hb hml hown hts hK hE hP hl hret
  have hRf : 2 ≤ R.frames := by subst hR; exact Nat.le_refl _
  have hRl : 47 ≤ R.locals := by subst hR; exact Nat.le_refl _
  have hown : s.vm.findClass RX9 = some m.cls := hown
  have hl : lv_has ls 9 [(0, .ref (q 0)), (1, .int a1), (2, .int a2)] := hl
  have hS : va_S (mA q) s.heap s.heap [] := va_S.rf
  have hP : va_P D vwCl (mW q cI cO I F hs) s.heap := hP
  have L8 : ∀ (n : Nat) (x1 : Int32) (x2 : Int32) (I : Nat → Int32) (F : Nat → Nat → Int32) (hs : Int64) (k : Int32 → Int32 → Int32 → Prop) (x3 : Int32) (x4 : Int32) (x5 : Int32) (H : Heap) (locs : List Loc) (ls : Array Slot), va_P D vwCl (mW q cI cO I F hs) H → va_S (mA q) s.heap H locs → lv_has ls 9 [(0, .ref (q 0)), (1, .int x1), (2, .int x2), (3, .int x3), (4, .int x4), (5, .int x5)] → gLN (fun ag v => w_X9_played_B8 x1 x2 I F hs k (fun b0 b1 b2 => ag (b0, b1, b2)) v.1 v.2.1 v.2.2) n (x3, x4, x5) → (∀ (x3 : Int32) (x4 : Int32) (x5 : Int32) (H : Heap) (locs : List Loc) (ls : Array Slot), va_P D vwCl (mW q cI cO I F hs) H → va_S (mA q) s.heap H locs → lv_has ls 9 [(0, .ref (q 0)), (3, .int x3), (4, .int x4)] → k x3 x4 x5 → W p l e R s m args below meth c H locs 0 0 Q (F0 m 102 ls [])) → W p l e R s m args below meth c H locs 0 0 Q (F0 m 8 ls []) := by
    intro n
    induction n with
    | zero =>
      intro x1 x2 I F hs k x3 x4 x5 H locs ls  hP hS hl h K
      exact False.elim h
    | succ n ih =>
      intro x1 x2 I F hs k x3 x4 x5 H locs ls  hP hS hl h K
      have h : w_X9_played_B8 x1 x2 I F hs k (fun b0 b1 b2 => gLN (fun ag v => w_X9_played_B8 x1 x2 I F hs k (fun b0 b1 b2 => ag (b0, b1, b2)) v.1 v.2.1 v.2.2) n (b0, b1, b2)) x3 x4 x5 := h
      refine lv_iload hx hb dX9_played_8 (lv_at hl 5 rfl) ?_
      refine lv_bipush (v := (63 : Int32)) hx hb dX9_played_10 (by decide) ?_
      refine lv_icmp_ge (tgt := 102) hx hb dX9_played_12 (by decide) (fun c1 => ?_) (fun c1 => ?_)
      · have h := h.1 c1
        exact K x3 x4 x5 _ _ _  hP hS (lv_sub hl [0, 3, 4] rfl) h
      · have h := h.2 c1
        refine lv_aload_n hx hb dX9_played_15 rfl (lv_at hl 0 rfl) ?_
        refine lv_iload_n hx hb dX9_played_16 rfl (lv_at hl 1 rfl) ?_
        refine lv_iload hx hb dX9_played_17 (lv_at hl 5 rfl) ?_
        refine gCallI (D := D) (va_runV (As := [.int x1, .int x5]) (rest := []) ⟨hx, hb, hml, hown, hts⟩ (c_X9_after l D q cI cO hq x1 x5  I F hs _ h) (cwV 2 hts gX9_played_X9_after rfl rfl rfl (by decide +kernel) ⟨Nat.le_trans (Nat.le_of_ble_eq_true rfl) hRf, Nat.le_trans (Nat.le_of_ble_eq_true rfl) hRl⟩) (gPreV (ci := 9) (q0 := 0) mEok hE hK hP hS rfl mAt0) rfl rfl hl.1 rfl (lv_room (Nat.le_of_ble_eq_true rfl)) dX9_played_19 ⟨Nat.zero_le _, Nat.zero_le _⟩) hS (fun r2 _ H locs hP hS h => ?_)
        have hP : va_P D vwCl (mW q cI cO I F hs) H := hP
        refine lv_istore (lv' := [(6, .int r2), (0, .ref (q 0)), (1, .int x1), (2, .int x2), (3, .int x3), (4, .int x4), (5, .int x5)]) hx hb dX9_played_22 hl (by decide) rfl (fun ls hl => ?_)
        refine lv_aload_n hx hb dX9_played_24 rfl (lv_at hl 1 rfl) ?_
        refine lv_iload hx hb dX9_played_25 (lv_at hl 6 rfl) ?_
        refine gCallI (D := D) (va_runV (As := [.int x5]) (rest := []) ⟨hx, hb, hml, hown, hts⟩ (c_X9_movedBy l D q cI cO hq x5  I F hs _ h) (cwV 1 hts gX9_played_X9_movedBy rfl rfl rfl (by decide +kernel) ⟨Nat.le_trans (Nat.le_of_ble_eq_true rfl) hRf, Nat.le_trans (Nat.le_of_ble_eq_true rfl) hRl⟩) (gPreV (ci := 9) (q0 := 0) mEok hE hK hP hS rfl mAt0) rfl rfl hl.1 rfl (lv_room (Nat.le_of_ble_eq_true rfl)) dX9_played_27 ⟨Nat.zero_le _, Nat.zero_le _⟩) hS (fun r3 _ H locs hP hS h => ?_)
        have hP : va_P D vwCl (mW q cI cO I F hs) H := hP
        refine lv_istore (lv' := [(7, .int r3), (6, .int r2), (0, .ref (q 0)), (1, .int x1), (2, .int x2), (3, .int x3), (4, .int x4), (5, .int x5)]) hx hb dX9_played_30 hl (by decide) rfl (fun ls hl => ?_)
        refine lv_aload_n hx hb dX9_played_32 rfl (lv_at hl 2 rfl) ?_
        refine lv_iload hx hb dX9_played_33 (lv_at hl 1 rfl) ?_
        refine lv_iconst (v := (0 : Int32)) hx hb dX9_played_35 (by decide) ?_
        refine lv_iload_n hx hb dX9_played_36 rfl (lv_at hl 4 rfl) ?_
        refine gCallI (D := D) (va_runV (As := [.int r2, .int (0 : Int32), .int x2]) (rest := []) ⟨hx, hb, hml, hown, hts⟩ (c_X9_isFitting l D q cI cO hq r2 (0 : Int32) x2  I F hs _ h) (cwV 3 hts gX9_played_X9_isFitting rfl rfl rfl (by decide +kernel) ⟨Nat.le_trans (Nat.le_of_ble_eq_true rfl) hRf, Nat.le_trans (Nat.le_of_ble_eq_true rfl) hRl⟩) (gPreV (ci := 9) (q0 := 0) mEok hE hK hP hS rfl mAt0) rfl rfl hl.1 rfl (lv_room (Nat.le_of_ble_eq_true rfl)) dX9_played_37 ⟨Nat.zero_le _, Nat.zero_le _⟩) hS (fun r4 _ H locs hP hS h => ?_)
        have hP : va_P D vwCl (mW q cI cO I F hs) H := hP
        refine lv_if_eq (tgt := 67) hx hb dX9_played_40 (by decide) (fun c5 => ?_) (fun c5 => ?_)
        · have h := h.1 c5
          refine lv_iconst (v := (0 : Int32)) hx hb dX9_played_67 (by decide) ?_
          refine lv_istore (lv' := [(8, .int (0 : Int32)), (7, .int r3), (6, .int r2), (0, .ref (q 0)), (1, .int x1), (2, .int x2), (3, .int x3), (4, .int x4), (5, .int x5)]) hx hb dX9_played_68 hl (by decide) rfl (fun ls hl => ?_)
          refine lv_iload hx hb dX9_played_70 (lv_at hl 0 rfl) ?_
          refine lv_if_eq (tgt := 80) hx hb dX9_played_72 (by decide) (fun c6 => ?_) (fun c6 => ?_)
          · have h := h.1 c6
            refine lv_iload_n hx hb dX9_played_80 rfl (lv_at hl 6 rfl) ?_
            refine lv_istore_n (lv' := [(3, .int x3), (8, .int (0 : Int32)), (7, .int r3), (6, .int r2), (0, .ref (q 0)), (1, .int x1), (2, .int x2), (4, .int x4), (5, .int x5)]) hx hb dX9_played_81 rfl hl (by decide) rfl (fun ls hl => ?_)
            refine lv_iload hx hb dX9_played_82 (lv_at hl 1 rfl) ?_
            refine lv_if_eq (tgt := 92) hx hb dX9_played_84 (by decide) (fun c7 => ?_) (fun c7 => ?_)
            · have h := h.1 c7
              refine lv_iload hx hb dX9_played_92 (lv_at hl 7 rfl) ?_
              refine lv_istore (lv' := [(4, .int x4), (3, .int x3), (8, .int (0 : Int32)), (7, .int r3), (6, .int r2), (0, .ref (q 0)), (1, .int x1), (2, .int x2), (5, .int x5)]) hx hb dX9_played_94 hl (by decide) rfl (fun ls hl => ?_)
              refine lv_iinc (v := (x5 + (1 : Int32))) (lv' := [(5, .int (x5 + (1 : Int32))), (4, .int x4), (3, .int x3), (8, .int (0 : Int32)), (7, .int r3), (6, .int r2), (0, .ref (q 0)), (1, .int x1), (2, .int x2)]) hx hb dX9_played_96 hl (k := 8) rfl rfl (by decide) rfl (fun ls hl => ?_)
              refine lv_goto (tgt := 8) hx hb dX9_played_99 (by decide) ?_
              exact ih x1 x2 I F hs _ x3 x4 (x5 + (1 : Int32)) _ _ _  hP hS (lv_sub hl [6, 7, 8, 2, 1, 0] rfl) h K
            · have h := h.2 c7
              refine lv_iload hx hb dX9_played_87 (lv_at hl 2 rfl) ?_
              refine lv_goto (tgt := 94) hx hb dX9_played_89 (by decide) ?_
              refine lv_istore (lv' := [(4, .int r3), (3, .int x3), (8, .int (0 : Int32)), (7, .int r3), (6, .int r2), (0, .ref (q 0)), (1, .int x1), (2, .int x2), (5, .int x5)]) hx hb dX9_played_94 hl (by decide) rfl (fun ls hl => ?_)
              refine lv_iinc (v := (x5 + (1 : Int32))) (lv' := [(5, .int (x5 + (1 : Int32))), (4, .int r3), (3, .int x3), (8, .int (0 : Int32)), (7, .int r3), (6, .int r2), (0, .ref (q 0)), (1, .int x1), (2, .int x2)]) hx hb dX9_played_96 hl (k := 8) rfl rfl (by decide) rfl (fun ls hl => ?_)
              refine lv_goto (tgt := 8) hx hb dX9_played_99 (by decide) ?_
              exact ih x1 x2 I F hs _ x3 r3 (x5 + (1 : Int32)) _ _ _  hP hS (lv_sub hl [6, 7, 8, 2, 1, 0] rfl) h K
          · have h := h.2 c6
            refine lv_iload hx hb dX9_played_75 (lv_at hl 2 rfl) ?_
            refine lv_goto (tgt := 81) hx hb dX9_played_77 (by decide) ?_
            refine lv_istore_n (lv' := [(3, .int r2), (8, .int (0 : Int32)), (7, .int r3), (6, .int r2), (0, .ref (q 0)), (1, .int x1), (2, .int x2), (4, .int x4), (5, .int x5)]) hx hb dX9_played_81 rfl hl (by decide) rfl (fun ls hl => ?_)
            refine lv_iload hx hb dX9_played_82 (lv_at hl 1 rfl) ?_
            refine lv_if_eq (tgt := 92) hx hb dX9_played_84 (by decide) (fun c8 => ?_) (fun c8 => ?_)
            · have h := h.1 c8
              refine lv_iload hx hb dX9_played_92 (lv_at hl 7 rfl) ?_
              refine lv_istore (lv' := [(4, .int x4), (3, .int r2), (8, .int (0 : Int32)), (7, .int r3), (6, .int r2), (0, .ref (q 0)), (1, .int x1), (2, .int x2), (5, .int x5)]) hx hb dX9_played_94 hl (by decide) rfl (fun ls hl => ?_)
              refine lv_iinc (v := (x5 + (1 : Int32))) (lv' := [(5, .int (x5 + (1 : Int32))), (4, .int x4), (3, .int r2), (8, .int (0 : Int32)), (7, .int r3), (6, .int r2), (0, .ref (q 0)), (1, .int x1), (2, .int x2)]) hx hb dX9_played_96 hl (k := 8) rfl rfl (by decide) rfl (fun ls hl => ?_)
              refine lv_goto (tgt := 8) hx hb dX9_played_99 (by decide) ?_
              exact ih x1 x2 I F hs _ r2 x4 (x5 + (1 : Int32)) _ _ _  hP hS (lv_sub hl [6, 7, 8, 2, 1, 0] rfl) h K
            · have h := h.2 c8
              refine lv_iload hx hb dX9_played_87 (lv_at hl 2 rfl) ?_
              refine lv_goto (tgt := 94) hx hb dX9_played_89 (by decide) ?_
              refine lv_istore (lv' := [(4, .int r3), (3, .int r2), (8, .int (0 : Int32)), (7, .int r3), (6, .int r2), (0, .ref (q 0)), (1, .int x1), (2, .int x2), (5, .int x5)]) hx hb dX9_played_94 hl (by decide) rfl (fun ls hl => ?_)
              refine lv_iinc (v := (x5 + (1 : Int32))) (lv' := [(5, .int (x5 + (1 : Int32))), (4, .int r3), (3, .int r2), (8, .int (0 : Int32)), (7, .int r3), (6, .int r2), (0, .ref (q 0)), (1, .int x1), (2, .int x2)]) hx hb dX9_played_96 hl (k := 8) rfl rfl (by decide) rfl (fun ls hl => ?_)
              refine lv_goto (tgt := 8) hx hb dX9_played_99 (by decide) ?_
              exact ih x1 x2 I F hs _ r2 r3 (x5 + (1 : Int32)) _ _ _  hP hS (lv_sub hl [6, 7, 8, 2, 1, 0] rfl) h K
        · have h := h.2 c5
          refine lv_iload hx hb dX9_played_43 (lv_at hl 0 rfl) ?_
          refine lv_iload hx hb dX9_played_45 (lv_at hl 6 rfl) ?_
          refine lv_icmp_lt (tgt := 63) hx hb dX9_played_47 (by decide) (fun c9 => ?_) (fun c9 => ?_)
          · have h := h.1 c9
            refine lv_iconst (v := (1 : Int32)) hx hb dX9_played_63 (by decide) ?_
            refine lv_goto (tgt := 68) hx hb dX9_played_64 (by decide) ?_
            refine lv_istore (lv' := [(8, .int (1 : Int32)), (7, .int r3), (6, .int r2), (0, .ref (q 0)), (1, .int x1), (2, .int x2), (3, .int x3), (4, .int x4), (5, .int x5)]) hx hb dX9_played_68 hl (by decide) rfl (fun ls hl => ?_)
            refine lv_iload hx hb dX9_played_70 (lv_at hl 0 rfl) ?_
            refine lv_if_eq (tgt := 80) hx hb dX9_played_72 (by decide) (fun c10 => ?_) (fun c10 => ?_)
            · have h := h.1 c10
              refine lv_iload_n hx hb dX9_played_80 rfl (lv_at hl 6 rfl) ?_
              refine lv_istore_n (lv' := [(3, .int x3), (8, .int (1 : Int32)), (7, .int r3), (6, .int r2), (0, .ref (q 0)), (1, .int x1), (2, .int x2), (4, .int x4), (5, .int x5)]) hx hb dX9_played_81 rfl hl (by decide) rfl (fun ls hl => ?_)
              refine lv_iload hx hb dX9_played_82 (lv_at hl 1 rfl) ?_
              refine lv_if_eq (tgt := 92) hx hb dX9_played_84 (by decide) (fun c11 => ?_) (fun c11 => ?_)
              · have h := h.1 c11
                refine lv_iload hx hb dX9_played_92 (lv_at hl 7 rfl) ?_
                refine lv_istore (lv' := [(4, .int x4), (3, .int x3), (8, .int (1 : Int32)), (7, .int r3), (6, .int r2), (0, .ref (q 0)), (1, .int x1), (2, .int x2), (5, .int x5)]) hx hb dX9_played_94 hl (by decide) rfl (fun ls hl => ?_)
                refine lv_iinc (v := (x5 + (1 : Int32))) (lv' := [(5, .int (x5 + (1 : Int32))), (4, .int x4), (3, .int x3), (8, .int (1 : Int32)), (7, .int r3), (6, .int r2), (0, .ref (q 0)), (1, .int x1), (2, .int x2)]) hx hb dX9_played_96 hl (k := 8) rfl rfl (by decide) rfl (fun ls hl => ?_)
                refine lv_goto (tgt := 8) hx hb dX9_played_99 (by decide) ?_
                exact ih x1 x2 I F hs _ x3 x4 (x5 + (1 : Int32)) _ _ _  hP hS (lv_sub hl [6, 7, 8, 2, 1, 0] rfl) h K
              · have h := h.2 c11
                refine lv_iload hx hb dX9_played_87 (lv_at hl 2 rfl) ?_
                refine lv_goto (tgt := 94) hx hb dX9_played_89 (by decide) ?_
                refine lv_istore (lv' := [(4, .int r3), (3, .int x3), (8, .int (1 : Int32)), (7, .int r3), (6, .int r2), (0, .ref (q 0)), (1, .int x1), (2, .int x2), (5, .int x5)]) hx hb dX9_played_94 hl (by decide) rfl (fun ls hl => ?_)
                refine lv_iinc (v := (x5 + (1 : Int32))) (lv' := [(5, .int (x5 + (1 : Int32))), (4, .int r3), (3, .int x3), (8, .int (1 : Int32)), (7, .int r3), (6, .int r2), (0, .ref (q 0)), (1, .int x1), (2, .int x2)]) hx hb dX9_played_96 hl (k := 8) rfl rfl (by decide) rfl (fun ls hl => ?_)
                refine lv_goto (tgt := 8) hx hb dX9_played_99 (by decide) ?_
                exact ih x1 x2 I F hs _ x3 r3 (x5 + (1 : Int32)) _ _ _  hP hS (lv_sub hl [6, 7, 8, 2, 1, 0] rfl) h K
            · have h := h.2 c10
              refine lv_iload hx hb dX9_played_75 (lv_at hl 2 rfl) ?_
              refine lv_goto (tgt := 81) hx hb dX9_played_77 (by decide) ?_
              refine lv_istore_n (lv' := [(3, .int r2), (8, .int (1 : Int32)), (7, .int r3), (6, .int r2), (0, .ref (q 0)), (1, .int x1), (2, .int x2), (4, .int x4), (5, .int x5)]) hx hb dX9_played_81 rfl hl (by decide) rfl (fun ls hl => ?_)
              refine lv_iload hx hb dX9_played_82 (lv_at hl 1 rfl) ?_
              refine lv_if_eq (tgt := 92) hx hb dX9_played_84 (by decide) (fun c12 => ?_) (fun c12 => ?_)
              · have h := h.1 c12
                refine lv_iload hx hb dX9_played_92 (lv_at hl 7 rfl) ?_
                refine lv_istore (lv' := [(4, .int x4), (3, .int r2), (8, .int (1 : Int32)), (7, .int r3), (6, .int r2), (0, .ref (q 0)), (1, .int x1), (2, .int x2), (5, .int x5)]) hx hb dX9_played_94 hl (by decide) rfl (fun ls hl => ?_)
                refine lv_iinc (v := (x5 + (1 : Int32))) (lv' := [(5, .int (x5 + (1 : Int32))), (4, .int x4), (3, .int r2), (8, .int (1 : Int32)), (7, .int r3), (6, .int r2), (0, .ref (q 0)), (1, .int x1), (2, .int x2)]) hx hb dX9_played_96 hl (k := 8) rfl rfl (by decide) rfl (fun ls hl => ?_)
                refine lv_goto (tgt := 8) hx hb dX9_played_99 (by decide) ?_
                exact ih x1 x2 I F hs _ r2 x4 (x5 + (1 : Int32)) _ _ _  hP hS (lv_sub hl [6, 7, 8, 2, 1, 0] rfl) h K
              · have h := h.2 c12
                refine lv_iload hx hb dX9_played_87 (lv_at hl 2 rfl) ?_
                refine lv_goto (tgt := 94) hx hb dX9_played_89 (by decide) ?_
                refine lv_istore (lv' := [(4, .int r3), (3, .int r2), (8, .int (1 : Int32)), (7, .int r3), (6, .int r2), (0, .ref (q 0)), (1, .int x1), (2, .int x2), (5, .int x5)]) hx hb dX9_played_94 hl (by decide) rfl (fun ls hl => ?_)
                refine lv_iinc (v := (x5 + (1 : Int32))) (lv' := [(5, .int (x5 + (1 : Int32))), (4, .int r3), (3, .int r2), (8, .int (1 : Int32)), (7, .int r3), (6, .int r2), (0, .ref (q 0)), (1, .int x1), (2, .int x2)]) hx hb dX9_played_96 hl (k := 8) rfl rfl (by decide) rfl (fun ls hl => ?_)
                refine lv_goto (tgt := 8) hx hb dX9_played_99 (by decide) ?_
                exact ih x1 x2 I F hs _ r2 r3 (x5 + (1 : Int32)) _ _ _  hP hS (lv_sub hl [6, 7, 8, 2, 1, 0] rfl) h K
          · have h := h.2 c9
            refine lv_iload hx hb dX9_played_50 (lv_at hl 0 rfl) ?_
            refine lv_iload hx hb dX9_played_52 (lv_at hl 6 rfl) ?_
            refine lv_icmp_ne (tgt := 67) hx hb dX9_played_54 (by decide) (fun c13 => ?_) (fun c13 => ?_)
            · have h := h.1 c13
              refine lv_iconst (v := (0 : Int32)) hx hb dX9_played_67 (by decide) ?_
              refine lv_istore (lv' := [(8, .int (0 : Int32)), (7, .int r3), (6, .int r2), (0, .ref (q 0)), (1, .int x1), (2, .int x2), (3, .int x3), (4, .int x4), (5, .int x5)]) hx hb dX9_played_68 hl (by decide) rfl (fun ls hl => ?_)
              refine lv_iload hx hb dX9_played_70 (lv_at hl 0 rfl) ?_
              refine lv_if_eq (tgt := 80) hx hb dX9_played_72 (by decide) (fun c14 => ?_) (fun c14 => ?_)
              · have h := h.1 c14
                refine lv_iload_n hx hb dX9_played_80 rfl (lv_at hl 6 rfl) ?_
                refine lv_istore_n (lv' := [(3, .int x3), (8, .int (0 : Int32)), (7, .int r3), (6, .int r2), (0, .ref (q 0)), (1, .int x1), (2, .int x2), (4, .int x4), (5, .int x5)]) hx hb dX9_played_81 rfl hl (by decide) rfl (fun ls hl => ?_)
                refine lv_iload hx hb dX9_played_82 (lv_at hl 1 rfl) ?_
                refine lv_if_eq (tgt := 92) hx hb dX9_played_84 (by decide) (fun c15 => ?_) (fun c15 => ?_)
                · have h := h.1 c15
                  refine lv_iload hx hb dX9_played_92 (lv_at hl 7 rfl) ?_
                  refine lv_istore (lv' := [(4, .int x4), (3, .int x3), (8, .int (0 : Int32)), (7, .int r3), (6, .int r2), (0, .ref (q 0)), (1, .int x1), (2, .int x2), (5, .int x5)]) hx hb dX9_played_94 hl (by decide) rfl (fun ls hl => ?_)
                  refine lv_iinc (v := (x5 + (1 : Int32))) (lv' := [(5, .int (x5 + (1 : Int32))), (4, .int x4), (3, .int x3), (8, .int (0 : Int32)), (7, .int r3), (6, .int r2), (0, .ref (q 0)), (1, .int x1), (2, .int x2)]) hx hb dX9_played_96 hl (k := 8) rfl rfl (by decide) rfl (fun ls hl => ?_)
                  refine lv_goto (tgt := 8) hx hb dX9_played_99 (by decide) ?_
                  exact ih x1 x2 I F hs _ x3 x4 (x5 + (1 : Int32)) _ _ _  hP hS (lv_sub hl [6, 7, 8, 2, 1, 0] rfl) h K
                · have h := h.2 c15
                  refine lv_iload hx hb dX9_played_87 (lv_at hl 2 rfl) ?_
                  refine lv_goto (tgt := 94) hx hb dX9_played_89 (by decide) ?_
                  refine lv_istore (lv' := [(4, .int r3), (3, .int x3), (8, .int (0 : Int32)), (7, .int r3), (6, .int r2), (0, .ref (q 0)), (1, .int x1), (2, .int x2), (5, .int x5)]) hx hb dX9_played_94 hl (by decide) rfl (fun ls hl => ?_)
                  refine lv_iinc (v := (x5 + (1 : Int32))) (lv' := [(5, .int (x5 + (1 : Int32))), (4, .int r3), (3, .int x3), (8, .int (0 : Int32)), (7, .int r3), (6, .int r2), (0, .ref (q 0)), (1, .int x1), (2, .int x2)]) hx hb dX9_played_96 hl (k := 8) rfl rfl (by decide) rfl (fun ls hl => ?_)
                  refine lv_goto (tgt := 8) hx hb dX9_played_99 (by decide) ?_
                  exact ih x1 x2 I F hs _ x3 r3 (x5 + (1 : Int32)) _ _ _  hP hS (lv_sub hl [6, 7, 8, 2, 1, 0] rfl) h K
              · have h := h.2 c14
                refine lv_iload hx hb dX9_played_75 (lv_at hl 2 rfl) ?_
                refine lv_goto (tgt := 81) hx hb dX9_played_77 (by decide) ?_
                refine lv_istore_n (lv' := [(3, .int r2), (8, .int (0 : Int32)), (7, .int r3), (6, .int r2), (0, .ref (q 0)), (1, .int x1), (2, .int x2), (4, .int x4), (5, .int x5)]) hx hb dX9_played_81 rfl hl (by decide) rfl (fun ls hl => ?_)
                refine lv_iload hx hb dX9_played_82 (lv_at hl 1 rfl) ?_
                refine lv_if_eq (tgt := 92) hx hb dX9_played_84 (by decide) (fun c16 => ?_) (fun c16 => ?_)
                · have h := h.1 c16
                  refine lv_iload hx hb dX9_played_92 (lv_at hl 7 rfl) ?_
                  refine lv_istore (lv' := [(4, .int x4), (3, .int r2), (8, .int (0 : Int32)), (7, .int r3), (6, .int r2), (0, .ref (q 0)), (1, .int x1), (2, .int x2), (5, .int x5)]) hx hb dX9_played_94 hl (by decide) rfl (fun ls hl => ?_)
                  refine lv_iinc (v := (x5 + (1 : Int32))) (lv' := [(5, .int (x5 + (1 : Int32))), (4, .int x4), (3, .int r2), (8, .int (0 : Int32)), (7, .int r3), (6, .int r2), (0, .ref (q 0)), (1, .int x1), (2, .int x2)]) hx hb dX9_played_96 hl (k := 8) rfl rfl (by decide) rfl (fun ls hl => ?_)
                  refine lv_goto (tgt := 8) hx hb dX9_played_99 (by decide) ?_
                  exact ih x1 x2 I F hs _ r2 x4 (x5 + (1 : Int32)) _ _ _  hP hS (lv_sub hl [6, 7, 8, 2, 1, 0] rfl) h K
                · have h := h.2 c16
                  refine lv_iload hx hb dX9_played_87 (lv_at hl 2 rfl) ?_
                  refine lv_goto (tgt := 94) hx hb dX9_played_89 (by decide) ?_
                  refine lv_istore (lv' := [(4, .int r3), (3, .int r2), (8, .int (0 : Int32)), (7, .int r3), (6, .int r2), (0, .ref (q 0)), (1, .int x1), (2, .int x2), (5, .int x5)]) hx hb dX9_played_94 hl (by decide) rfl (fun ls hl => ?_)
                  refine lv_iinc (v := (x5 + (1 : Int32))) (lv' := [(5, .int (x5 + (1 : Int32))), (4, .int r3), (3, .int r2), (8, .int (0 : Int32)), (7, .int r3), (6, .int r2), (0, .ref (q 0)), (1, .int x1), (2, .int x2)]) hx hb dX9_played_96 hl (k := 8) rfl rfl (by decide) rfl (fun ls hl => ?_)
                  refine lv_goto (tgt := 8) hx hb dX9_played_99 (by decide) ?_
                  exact ih x1 x2 I F hs _ r2 r3 (x5 + (1 : Int32)) _ _ _  hP hS (lv_sub hl [6, 7, 8, 2, 1, 0] rfl) h K
            · have h := h.2 c13
              refine lv_iload hx hb dX9_played_57 (lv_at hl 1 rfl) ?_
              refine lv_iload_n hx hb dX9_played_59 rfl (lv_at hl 5 rfl) ?_
              refine lv_icmp_ge (tgt := 67) hx hb dX9_played_60 (by decide) (fun c17 => ?_) (fun c17 => ?_)
              · have h := h.1 c17
                refine lv_iconst (v := (0 : Int32)) hx hb dX9_played_67 (by decide) ?_
                refine lv_istore (lv' := [(8, .int (0 : Int32)), (7, .int r3), (6, .int r2), (0, .ref (q 0)), (1, .int x1), (2, .int x2), (3, .int x3), (4, .int x4), (5, .int x5)]) hx hb dX9_played_68 hl (by decide) rfl (fun ls hl => ?_)
                refine lv_iload hx hb dX9_played_70 (lv_at hl 0 rfl) ?_
                refine lv_if_eq (tgt := 80) hx hb dX9_played_72 (by decide) (fun c18 => ?_) (fun c18 => ?_)
                · have h := h.1 c18
                  refine lv_iload_n hx hb dX9_played_80 rfl (lv_at hl 6 rfl) ?_
                  refine lv_istore_n (lv' := [(3, .int x3), (8, .int (0 : Int32)), (7, .int r3), (6, .int r2), (0, .ref (q 0)), (1, .int x1), (2, .int x2), (4, .int x4), (5, .int x5)]) hx hb dX9_played_81 rfl hl (by decide) rfl (fun ls hl => ?_)
                  refine lv_iload hx hb dX9_played_82 (lv_at hl 1 rfl) ?_
                  refine lv_if_eq (tgt := 92) hx hb dX9_played_84 (by decide) (fun c19 => ?_) (fun c19 => ?_)
                  · have h := h.1 c19
                    refine lv_iload hx hb dX9_played_92 (lv_at hl 7 rfl) ?_
                    refine lv_istore (lv' := [(4, .int x4), (3, .int x3), (8, .int (0 : Int32)), (7, .int r3), (6, .int r2), (0, .ref (q 0)), (1, .int x1), (2, .int x2), (5, .int x5)]) hx hb dX9_played_94 hl (by decide) rfl (fun ls hl => ?_)
                    refine lv_iinc (v := (x5 + (1 : Int32))) (lv' := [(5, .int (x5 + (1 : Int32))), (4, .int x4), (3, .int x3), (8, .int (0 : Int32)), (7, .int r3), (6, .int r2), (0, .ref (q 0)), (1, .int x1), (2, .int x2)]) hx hb dX9_played_96 hl (k := 8) rfl rfl (by decide) rfl (fun ls hl => ?_)
                    refine lv_goto (tgt := 8) hx hb dX9_played_99 (by decide) ?_
                    exact ih x1 x2 I F hs _ x3 x4 (x5 + (1 : Int32)) _ _ _  hP hS (lv_sub hl [6, 7, 8, 2, 1, 0] rfl) h K
                  · have h := h.2 c19
                    refine lv_iload hx hb dX9_played_87 (lv_at hl 2 rfl) ?_
                    refine lv_goto (tgt := 94) hx hb dX9_played_89 (by decide) ?_
                    refine lv_istore (lv' := [(4, .int r3), (3, .int x3), (8, .int (0 : Int32)), (7, .int r3), (6, .int r2), (0, .ref (q 0)), (1, .int x1), (2, .int x2), (5, .int x5)]) hx hb dX9_played_94 hl (by decide) rfl (fun ls hl => ?_)
                    refine lv_iinc (v := (x5 + (1 : Int32))) (lv' := [(5, .int (x5 + (1 : Int32))), (4, .int r3), (3, .int x3), (8, .int (0 : Int32)), (7, .int r3), (6, .int r2), (0, .ref (q 0)), (1, .int x1), (2, .int x2)]) hx hb dX9_played_96 hl (k := 8) rfl rfl (by decide) rfl (fun ls hl => ?_)
                    refine lv_goto (tgt := 8) hx hb dX9_played_99 (by decide) ?_
                    exact ih x1 x2 I F hs _ x3 r3 (x5 + (1 : Int32)) _ _ _  hP hS (lv_sub hl [6, 7, 8, 2, 1, 0] rfl) h K
                · have h := h.2 c18
                  refine lv_iload hx hb dX9_played_75 (lv_at hl 2 rfl) ?_
                  refine lv_goto (tgt := 81) hx hb dX9_played_77 (by decide) ?_
                  refine lv_istore_n (lv' := [(3, .int r2), (8, .int (0 : Int32)), (7, .int r3), (6, .int r2), (0, .ref (q 0)), (1, .int x1), (2, .int x2), (4, .int x4), (5, .int x5)]) hx hb dX9_played_81 rfl hl (by decide) rfl (fun ls hl => ?_)
                  refine lv_iload hx hb dX9_played_82 (lv_at hl 1 rfl) ?_
                  refine lv_if_eq (tgt := 92) hx hb dX9_played_84 (by decide) (fun c20 => ?_) (fun c20 => ?_)
                  · have h := h.1 c20
                    refine lv_iload hx hb dX9_played_92 (lv_at hl 7 rfl) ?_
                    refine lv_istore (lv' := [(4, .int x4), (3, .int r2), (8, .int (0 : Int32)), (7, .int r3), (6, .int r2), (0, .ref (q 0)), (1, .int x1), (2, .int x2), (5, .int x5)]) hx hb dX9_played_94 hl (by decide) rfl (fun ls hl => ?_)
                    refine lv_iinc (v := (x5 + (1 : Int32))) (lv' := [(5, .int (x5 + (1 : Int32))), (4, .int x4), (3, .int r2), (8, .int (0 : Int32)), (7, .int r3), (6, .int r2), (0, .ref (q 0)), (1, .int x1), (2, .int x2)]) hx hb dX9_played_96 hl (k := 8) rfl rfl (by decide) rfl (fun ls hl => ?_)
                    refine lv_goto (tgt := 8) hx hb dX9_played_99 (by decide) ?_
                    exact ih x1 x2 I F hs _ r2 x4 (x5 + (1 : Int32)) _ _ _  hP hS (lv_sub hl [6, 7, 8, 2, 1, 0] rfl) h K
                  · have h := h.2 c20
                    refine lv_iload hx hb dX9_played_87 (lv_at hl 2 rfl) ?_
                    refine lv_goto (tgt := 94) hx hb dX9_played_89 (by decide) ?_
                    refine lv_istore (lv' := [(4, .int r3), (3, .int r2), (8, .int (0 : Int32)), (7, .int r3), (6, .int r2), (0, .ref (q 0)), (1, .int x1), (2, .int x2), (5, .int x5)]) hx hb dX9_played_94 hl (by decide) rfl (fun ls hl => ?_)
                    refine lv_iinc (v := (x5 + (1 : Int32))) (lv' := [(5, .int (x5 + (1 : Int32))), (4, .int r3), (3, .int r2), (8, .int (0 : Int32)), (7, .int r3), (6, .int r2), (0, .ref (q 0)), (1, .int x1), (2, .int x2)]) hx hb dX9_played_96 hl (k := 8) rfl rfl (by decide) rfl (fun ls hl => ?_)
                    refine lv_goto (tgt := 8) hx hb dX9_played_99 (by decide) ?_
                    exact ih x1 x2 I F hs _ r2 r3 (x5 + (1 : Int32)) _ _ _  hP hS (lv_sub hl [6, 7, 8, 2, 1, 0] rfl) h K
              · have h := h.2 c17
                refine lv_iconst (v := (1 : Int32)) hx hb dX9_played_63 (by decide) ?_
                refine lv_goto (tgt := 68) hx hb dX9_played_64 (by decide) ?_
                refine lv_istore (lv' := [(8, .int (1 : Int32)), (7, .int r3), (6, .int r2), (0, .ref (q 0)), (1, .int x1), (2, .int x2), (3, .int x3), (4, .int x4), (5, .int x5)]) hx hb dX9_played_68 hl (by decide) rfl (fun ls hl => ?_)
                refine lv_iload hx hb dX9_played_70 (lv_at hl 0 rfl) ?_
                refine lv_if_eq (tgt := 80) hx hb dX9_played_72 (by decide) (fun c21 => ?_) (fun c21 => ?_)
                · have h := h.1 c21
                  refine lv_iload_n hx hb dX9_played_80 rfl (lv_at hl 6 rfl) ?_
                  refine lv_istore_n (lv' := [(3, .int x3), (8, .int (1 : Int32)), (7, .int r3), (6, .int r2), (0, .ref (q 0)), (1, .int x1), (2, .int x2), (4, .int x4), (5, .int x5)]) hx hb dX9_played_81 rfl hl (by decide) rfl (fun ls hl => ?_)
                  refine lv_iload hx hb dX9_played_82 (lv_at hl 1 rfl) ?_
                  refine lv_if_eq (tgt := 92) hx hb dX9_played_84 (by decide) (fun c22 => ?_) (fun c22 => ?_)
                  · have h := h.1 c22
                    refine lv_iload hx hb dX9_played_92 (lv_at hl 7 rfl) ?_
                    refine lv_istore (lv' := [(4, .int x4), (3, .int x3), (8, .int (1 : Int32)), (7, .int r3), (6, .int r2), (0, .ref (q 0)), (1, .int x1), (2, .int x2), (5, .int x5)]) hx hb dX9_played_94 hl (by decide) rfl (fun ls hl => ?_)
                    refine lv_iinc (v := (x5 + (1 : Int32))) (lv' := [(5, .int (x5 + (1 : Int32))), (4, .int x4), (3, .int x3), (8, .int (1 : Int32)), (7, .int r3), (6, .int r2), (0, .ref (q 0)), (1, .int x1), (2, .int x2)]) hx hb dX9_played_96 hl (k := 8) rfl rfl (by decide) rfl (fun ls hl => ?_)
                    refine lv_goto (tgt := 8) hx hb dX9_played_99 (by decide) ?_
                    exact ih x1 x2 I F hs _ x3 x4 (x5 + (1 : Int32)) _ _ _  hP hS (lv_sub hl [6, 7, 8, 2, 1, 0] rfl) h K
                  · have h := h.2 c22
                    refine lv_iload hx hb dX9_played_87 (lv_at hl 2 rfl) ?_
                    refine lv_goto (tgt := 94) hx hb dX9_played_89 (by decide) ?_
                    refine lv_istore (lv' := [(4, .int r3), (3, .int x3), (8, .int (1 : Int32)), (7, .int r3), (6, .int r2), (0, .ref (q 0)), (1, .int x1), (2, .int x2), (5, .int x5)]) hx hb dX9_played_94 hl (by decide) rfl (fun ls hl => ?_)
                    refine lv_iinc (v := (x5 + (1 : Int32))) (lv' := [(5, .int (x5 + (1 : Int32))), (4, .int r3), (3, .int x3), (8, .int (1 : Int32)), (7, .int r3), (6, .int r2), (0, .ref (q 0)), (1, .int x1), (2, .int x2)]) hx hb dX9_played_96 hl (k := 8) rfl rfl (by decide) rfl (fun ls hl => ?_)
                    refine lv_goto (tgt := 8) hx hb dX9_played_99 (by decide) ?_
                    exact ih x1 x2 I F hs _ x3 r3 (x5 + (1 : Int32)) _ _ _  hP hS (lv_sub hl [6, 7, 8, 2, 1, 0] rfl) h K
                · have h := h.2 c21
                  refine lv_iload hx hb dX9_played_75 (lv_at hl 2 rfl) ?_
                  refine lv_goto (tgt := 81) hx hb dX9_played_77 (by decide) ?_
                  refine lv_istore_n (lv' := [(3, .int r2), (8, .int (1 : Int32)), (7, .int r3), (6, .int r2), (0, .ref (q 0)), (1, .int x1), (2, .int x2), (4, .int x4), (5, .int x5)]) hx hb dX9_played_81 rfl hl (by decide) rfl (fun ls hl => ?_)
                  refine lv_iload hx hb dX9_played_82 (lv_at hl 1 rfl) ?_
                  refine lv_if_eq (tgt := 92) hx hb dX9_played_84 (by decide) (fun c23 => ?_) (fun c23 => ?_)
                  · have h := h.1 c23
                    refine lv_iload hx hb dX9_played_92 (lv_at hl 7 rfl) ?_
                    refine lv_istore (lv' := [(4, .int x4), (3, .int r2), (8, .int (1 : Int32)), (7, .int r3), (6, .int r2), (0, .ref (q 0)), (1, .int x1), (2, .int x2), (5, .int x5)]) hx hb dX9_played_94 hl (by decide) rfl (fun ls hl => ?_)
                    refine lv_iinc (v := (x5 + (1 : Int32))) (lv' := [(5, .int (x5 + (1 : Int32))), (4, .int x4), (3, .int r2), (8, .int (1 : Int32)), (7, .int r3), (6, .int r2), (0, .ref (q 0)), (1, .int x1), (2, .int x2)]) hx hb dX9_played_96 hl (k := 8) rfl rfl (by decide) rfl (fun ls hl => ?_)
                    refine lv_goto (tgt := 8) hx hb dX9_played_99 (by decide) ?_
                    exact ih x1 x2 I F hs _ r2 x4 (x5 + (1 : Int32)) _ _ _  hP hS (lv_sub hl [6, 7, 8, 2, 1, 0] rfl) h K
                  · have h := h.2 c23
                    refine lv_iload hx hb dX9_played_87 (lv_at hl 2 rfl) ?_
                    refine lv_goto (tgt := 94) hx hb dX9_played_89 (by decide) ?_
                    refine lv_istore (lv' := [(4, .int r3), (3, .int r2), (8, .int (1 : Int32)), (7, .int r3), (6, .int r2), (0, .ref (q 0)), (1, .int x1), (2, .int x2), (5, .int x5)]) hx hb dX9_played_94 hl (by decide) rfl (fun ls hl => ?_)
                    refine lv_iinc (v := (x5 + (1 : Int32))) (lv' := [(5, .int (x5 + (1 : Int32))), (4, .int r3), (3, .int r2), (8, .int (1 : Int32)), (7, .int r3), (6, .int r2), (0, .ref (q 0)), (1, .int x1), (2, .int x2)]) hx hb dX9_played_96 hl (k := 8) rfl rfl (by decide) rfl (fun ls hl => ?_)
                    refine lv_goto (tgt := 8) hx hb dX9_played_99 (by decide) ?_
                    exact ih x1 x2 I F hs _ r2 r3 (x5 + (1 : Int32)) _ _ _  hP hS (lv_sub hl [6, 7, 8, 2, 1, 0] rfl) h K
  refine lv_iconst (v := (-1 : Int32)) hx hb dX9_played_0 (by decide) ?_
  refine lv_istore_n (lv' := [(3, .int (-1 : Int32)), (0, .ref (q 0)), (1, .int a1), (2, .int a2)]) hx hb dX9_played_1 rfl hl (by decide) rfl (fun ls hl => ?_)
  refine lv_iconst (v := (3 : Int32)) hx hb dX9_played_2 (by decide) ?_
  refine lv_istore (lv' := [(4, .int (3 : Int32)), (3, .int (-1 : Int32)), (0, .ref (q 0)), (1, .int a1), (2, .int a2)]) hx hb dX9_played_3 hl (by decide) rfl (fun ls hl => ?_)
  refine lv_iconst (v := (0 : Int32)) hx hb dX9_played_5 (by decide) ?_
  refine lv_istore (lv' := [(5, .int (0 : Int32)), (4, .int (3 : Int32)), (3, .int (-1 : Int32)), (0, .ref (q 0)), (1, .int a1), (2, .int a2)]) hx hb dX9_played_6 hl (by decide) rfl (fun ls hl => ?_)
  obtain ⟨n, h⟩ := h
  refine L8 n a1 a2 I F hs _ (-1 : Int32) (3 : Int32) (0 : Int32) _ _ _  hP hS (lv_sub hl [3, 4, 5, 2, 1, 0] rfl) h (fun y24 y25 y26 H locs ls  hP hS hl h => ?_)
  refine lv_aload_n hx hb dX9_played_102 rfl (lv_at hl 0 rfl) ?_
  refine lv_iload hx hb dX9_played_103 (lv_at hl 2 rfl) ?_
  refine gPut (D := D) (ci := 9) (ty := .int) (C := RX9) (T := TX9) (N := 44) hx hb hts (fun _ h9 => List.mem_cons_of_mem _ (List.mem_append_right _ h9)) tyX9 tyX9_ok nmX9 hown hK hP (mD hq) hS 0 mAt0 rfl 35 (by decide) (hts _ (List.mem_of_getElem? (l := wsX9_played) (i := 1) rfl)) (fun _ h9 => h9) rfl (by decide +kernel) rfl rfl (Nat.le_of_ble_eq_true rfl) dX9_played_105 (mSet13 y25) (fun H locs hP hS => ?_)
  obtain ⟨I27, eI27⟩ : ∃ z : Nat → Int32, z = upd I 13 y25 := ⟨_, rfl⟩
  rw [← eI27] at hP
  have h := h I27 eI27
  refine lv_iload_n hx hb dX9_played_108 rfl (lv_at hl 1 rfl) ?_
  exact hret y24 (I27, F, hs) _ _ _ _ dX9_played_109 hP hS h
