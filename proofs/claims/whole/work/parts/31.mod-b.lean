def w_X9_layTables_B149 (x1 : Int32) (k again : Int32 → (Nat → Int32) → (Nat → Nat → Int32) → Int64 → Prop) (x2 : Int32) (I : Nat → Int32) (F : Nat → Nat → Int32) (hs : Int64) : Prop :=
  (((63 : Int32) ≤ x2 → k x2 I F hs) ∧ (¬ (63 : Int32) ≤ x2 → vp_in x2 63 ∧ vp_in x2 63 ∧ w_X9_turned x1 (F 4 (x2).toNatClampNeg) (F 5 (x2).toNatClampNeg) I F hs (fun (r2 : Int32) => vp_in x2 63 ∧ vp_in x2 63 ∧ w_X9_turned r2 (F 6 (x2).toNatClampNeg) (F 7 (x2).toNatClampNeg) I F hs (fun (r3 : Int32) => vp_in (((63 : Int32) * x1) + x2) 137781 ∧ ∀ F4 : Nat → Nat → Int32, F4 = upF F 10 (upd (F 10) ((((63 : Int32) * x1) + x2)).toNatClampNeg r3) → again (x2 + (1 : Int32)) I F4 hs))))
def w_X9_layTables_B113 (x1 : Int32) (k again : Int32 → (Nat → Int32) → (Nat → Nat → Int32) → Int64 → Prop) (x2 : Int32) (I : Nat → Int32) (F : Nat → Nat → Int32) (hs : Int64) : Prop :=
  (((7 : Int32) ≤ x2 → k x2 I F hs) ∧ (¬ (7 : Int32) ≤ x2 → w_X9_positionOf x1 x2 I F hs (fun (r6 : Int32) => w_X9_toneOf x2 r6 I F hs (fun (r7 : Int32) => vp_in (((7 : Int32) * x1) + x2) 15309 ∧ ∀ F8 : Nat → Nat → Int32, F8 = upF F 3 (upd (F 3) ((((7 : Int32) * x1) + x2)).toNatClampNeg r7) → again (x2 + (1 : Int32)) I F8 hs))))
def w_X9_layTables_B104  (k again : Int32 → (Nat → Int32) → (Nat → Nat → Int32) → Int64 → Prop) (x1 : Int32) (I : Nat → Int32) (F : Nat → Nat → Int32) (hs : Int64) : Prop :=
  (((2187 : Int32) ≤ x1 → k x1 I F hs) ∧ (¬ (2187 : Int32) ≤ x1 → gL (fun ag v => w_X9_layTables_B113 x1 (fun (y10 : Int32) (I11 : Nat → Int32) (F12 : Nat → Nat → Int32) (hs13 : Int64) => gL (fun ag v => w_X9_layTables_B149 x1 (fun (y14 : Int32) (I15 : Nat → Int32) (F16 : Nat → Nat → Int32) (hs17 : Int64) => again (x1 + (1 : Int32)) I15 F16 hs17) (fun b0 b1 b2 b3 => ag (b0, b1, b2, b3)) v.1 v.2.1 v.2.2.1 v.2.2.2) ((0 : Int32), I11, F12, hs13)) (fun b0 b1 b2 b3 => ag (b0, b1, b2, b3)) v.1 v.2.1 v.2.2.1 v.2.2.2) ((0 : Int32), I, F, hs)))
def w_X9_layTables_B2  (k again : Int32 → (Nat → Int32) → (Nat → Nat → Int32) → Int64 → Prop) (x1 : Int32) (I : Nat → Int32) (F : Nat → Nat → Int32) (hs : Int64) : Prop :=
  (((63 : Int32) ≤ x1 → k x1 I F hs) ∧ (¬ (63 : Int32) ≤ x1 → vp_in x1 63 ∧ ((¬ (F 4 (x1).toNatClampNeg) = (-1 : Int32) → vp_in x1 63 ∧ ((¬ (F 6 (x1).toNatClampNeg) = (-1 : Int32) → vp_in x1 63 ∧ ∀ F21 : Nat → Nat → Int32, F21 = upF F 8 (upd (F 8) (x1).toNatClampNeg ((1 : Int32) + (1 : Int32))) → vp_in x1 63 ∧ ((¬ (F21 4 (x1).toNatClampNeg) = (-1 : Int32) → vp_in x1 63 ∧ vp_in x1 63 ∧ ((¬ (F21 6 (x1).toNatClampNeg) = (-1 : Int32) → vp_in x1 63 ∧ vp_in x1 63 ∧ ∀ F24 : Nat → Nat → Int32, F24 = upF F21 9 (upd (F21 9) (x1).toNatClampNeg (((1 : Int32) <<< ((F21 4 (x1).toNatClampNeg) &&& 31)) ||| ((1 : Int32) <<< ((F21 6 (x1).toNatClampNeg) &&& 31)))) → again (x1 + (1 : Int32)) I F24 hs) ∧ ((F21 6 (x1).toNatClampNeg) = (-1 : Int32) → vp_in x1 63 ∧ ∀ F25 : Nat → Nat → Int32, F25 = upF F21 9 (upd (F21 9) (x1).toNatClampNeg (((1 : Int32) <<< ((F21 4 (x1).toNatClampNeg) &&& 31)) ||| (0 : Int32))) → again (x1 + (1 : Int32)) I F25 hs))) ∧ ((F21 4 (x1).toNatClampNeg) = (-1 : Int32) → vp_in x1 63 ∧ ((¬ (F21 6 (x1).toNatClampNeg) = (-1 : Int32) → vp_in x1 63 ∧ vp_in x1 63 ∧ ∀ F27 : Nat → Nat → Int32, F27 = upF F21 9 (upd (F21 9) (x1).toNatClampNeg ((0 : Int32) ||| ((1 : Int32) <<< ((F21 6 (x1).toNatClampNeg) &&& 31)))) → again (x1 + (1 : Int32)) I F27 hs) ∧ ((F21 6 (x1).toNatClampNeg) = (-1 : Int32) → vp_in x1 63 ∧ ∀ F28 : Nat → Nat → Int32, F28 = upF F21 9 (upd (F21 9) (x1).toNatClampNeg ((0 : Int32) ||| (0 : Int32))) → again (x1 + (1 : Int32)) I F28 hs))))) ∧ ((F 6 (x1).toNatClampNeg) = (-1 : Int32) → vp_in x1 63 ∧ ∀ F29 : Nat → Nat → Int32, F29 = upF F 8 (upd (F 8) (x1).toNatClampNeg ((1 : Int32) + (0 : Int32))) → vp_in x1 63 ∧ ((¬ (F29 4 (x1).toNatClampNeg) = (-1 : Int32) → vp_in x1 63 ∧ vp_in x1 63 ∧ ((¬ (F29 6 (x1).toNatClampNeg) = (-1 : Int32) → vp_in x1 63 ∧ vp_in x1 63 ∧ ∀ F32 : Nat → Nat → Int32, F32 = upF F29 9 (upd (F29 9) (x1).toNatClampNeg (((1 : Int32) <<< ((F29 4 (x1).toNatClampNeg) &&& 31)) ||| ((1 : Int32) <<< ((F29 6 (x1).toNatClampNeg) &&& 31)))) → again (x1 + (1 : Int32)) I F32 hs) ∧ ((F29 6 (x1).toNatClampNeg) = (-1 : Int32) → vp_in x1 63 ∧ ∀ F33 : Nat → Nat → Int32, F33 = upF F29 9 (upd (F29 9) (x1).toNatClampNeg (((1 : Int32) <<< ((F29 4 (x1).toNatClampNeg) &&& 31)) ||| (0 : Int32))) → again (x1 + (1 : Int32)) I F33 hs))) ∧ ((F29 4 (x1).toNatClampNeg) = (-1 : Int32) → vp_in x1 63 ∧ ((¬ (F29 6 (x1).toNatClampNeg) = (-1 : Int32) → vp_in x1 63 ∧ vp_in x1 63 ∧ ∀ F35 : Nat → Nat → Int32, F35 = upF F29 9 (upd (F29 9) (x1).toNatClampNeg ((0 : Int32) ||| ((1 : Int32) <<< ((F29 6 (x1).toNatClampNeg) &&& 31)))) → again (x1 + (1 : Int32)) I F35 hs) ∧ ((F29 6 (x1).toNatClampNeg) = (-1 : Int32) → vp_in x1 63 ∧ ∀ F36 : Nat → Nat → Int32, F36 = upF F29 9 (upd (F29 9) (x1).toNatClampNeg ((0 : Int32) ||| (0 : Int32))) → again (x1 + (1 : Int32)) I F36 hs))))))) ∧ ((F 4 (x1).toNatClampNeg) = (-1 : Int32) → vp_in x1 63 ∧ ((¬ (F 6 (x1).toNatClampNeg) = (-1 : Int32) → vp_in x1 63 ∧ ∀ F38 : Nat → Nat → Int32, F38 = upF F 8 (upd (F 8) (x1).toNatClampNeg ((0 : Int32) + (1 : Int32))) → vp_in x1 63 ∧ ((¬ (F38 4 (x1).toNatClampNeg) = (-1 : Int32) → vp_in x1 63 ∧ vp_in x1 63 ∧ ((¬ (F38 6 (x1).toNatClampNeg) = (-1 : Int32) → vp_in x1 63 ∧ vp_in x1 63 ∧ ∀ F41 : Nat → Nat → Int32, F41 = upF F38 9 (upd (F38 9) (x1).toNatClampNeg (((1 : Int32) <<< ((F38 4 (x1).toNatClampNeg) &&& 31)) ||| ((1 : Int32) <<< ((F38 6 (x1).toNatClampNeg) &&& 31)))) → again (x1 + (1 : Int32)) I F41 hs) ∧ ((F38 6 (x1).toNatClampNeg) = (-1 : Int32) → vp_in x1 63 ∧ ∀ F42 : Nat → Nat → Int32, F42 = upF F38 9 (upd (F38 9) (x1).toNatClampNeg (((1 : Int32) <<< ((F38 4 (x1).toNatClampNeg) &&& 31)) ||| (0 : Int32))) → again (x1 + (1 : Int32)) I F42 hs))) ∧ ((F38 4 (x1).toNatClampNeg) = (-1 : Int32) → vp_in x1 63 ∧ ((¬ (F38 6 (x1).toNatClampNeg) = (-1 : Int32) → vp_in x1 63 ∧ vp_in x1 63 ∧ ∀ F44 : Nat → Nat → Int32, F44 = upF F38 9 (upd (F38 9) (x1).toNatClampNeg ((0 : Int32) ||| ((1 : Int32) <<< ((F38 6 (x1).toNatClampNeg) &&& 31)))) → again (x1 + (1 : Int32)) I F44 hs) ∧ ((F38 6 (x1).toNatClampNeg) = (-1 : Int32) → vp_in x1 63 ∧ ∀ F45 : Nat → Nat → Int32, F45 = upF F38 9 (upd (F38 9) (x1).toNatClampNeg ((0 : Int32) ||| (0 : Int32))) → again (x1 + (1 : Int32)) I F45 hs))))) ∧ ((F 6 (x1).toNatClampNeg) = (-1 : Int32) → vp_in x1 63 ∧ ∀ F46 : Nat → Nat → Int32, F46 = upF F 8 (upd (F 8) (x1).toNatClampNeg ((0 : Int32) + (0 : Int32))) → vp_in x1 63 ∧ ((¬ (F46 4 (x1).toNatClampNeg) = (-1 : Int32) → vp_in x1 63 ∧ vp_in x1 63 ∧ ((¬ (F46 6 (x1).toNatClampNeg) = (-1 : Int32) → vp_in x1 63 ∧ vp_in x1 63 ∧ ∀ F49 : Nat → Nat → Int32, F49 = upF F46 9 (upd (F46 9) (x1).toNatClampNeg (((1 : Int32) <<< ((F46 4 (x1).toNatClampNeg) &&& 31)) ||| ((1 : Int32) <<< ((F46 6 (x1).toNatClampNeg) &&& 31)))) → again (x1 + (1 : Int32)) I F49 hs) ∧ ((F46 6 (x1).toNatClampNeg) = (-1 : Int32) → vp_in x1 63 ∧ ∀ F50 : Nat → Nat → Int32, F50 = upF F46 9 (upd (F46 9) (x1).toNatClampNeg (((1 : Int32) <<< ((F46 4 (x1).toNatClampNeg) &&& 31)) ||| (0 : Int32))) → again (x1 + (1 : Int32)) I F50 hs))) ∧ ((F46 4 (x1).toNatClampNeg) = (-1 : Int32) → vp_in x1 63 ∧ ((¬ (F46 6 (x1).toNatClampNeg) = (-1 : Int32) → vp_in x1 63 ∧ vp_in x1 63 ∧ ∀ F52 : Nat → Nat → Int32, F52 = upF F46 9 (upd (F46 9) (x1).toNatClampNeg ((0 : Int32) ||| ((1 : Int32) <<< ((F46 6 (x1).toNatClampNeg) &&& 31)))) → again (x1 + (1 : Int32)) I F52 hs) ∧ ((F46 6 (x1).toNatClampNeg) = (-1 : Int32) → vp_in x1 63 ∧ ∀ F53 : Nat → Nat → Int32, F53 = upF F46 9 (upd (F46 9) (x1).toNatClampNeg ((0 : Int32) ||| (0 : Int32))) → again (x1 + (1 : Int32)) I F53 hs))))))))))
def w_X9_layTables  (I : Nat → Int32) (F : Nat → Nat → Int32) (hs : Int64) (post : (Nat → Int32) → (Nat → Nat → Int32) → Int64 → Prop) : Prop :=
  gL (fun ag v => w_X9_layTables_B2  (fun (y54 : Int32) (I55 : Nat → Int32) (F56 : Nat → Nat → Int32) (hs57 : Int64) => gL (fun ag v => w_X9_layTables_B104  (fun (y58 : Int32) (I59 : Nat → Int32) (F60 : Nat → Nat → Int32) (hs61 : Int64) => post I59 F60 hs61) (fun b0 b1 b2 b3 => ag (b0, b1, b2, b3)) v.1 v.2.1 v.2.2.1 v.2.2.2) ((0 : Int32), I55, F56, hs57)) (fun b0 b1 b2 b3 => ag (b0, b1, b2, b3)) v.1 v.2.1 v.2.2.1 v.2.2.2) ((0 : Int32), I, F, hs)
set_option maxHeartbeats 4000000 in
set_option maxRecDepth 100000 in
theorem c_X9_layTables (l : Launch) (D : va_G) (q : Nat → Nat) (cI cO : ClassId) (hq : mOk q)   (I : Nat → Int32) (F : Nat → Nat → Int32) (hs : Int64) (post : (Nat → Int32) → (Nat → Nat → Int32) → Int64 → Prop) (h : w_X9_layTables  I F hs post) : Met l yX9_layTables wsX9_layTables ({ frames := 2, cells := 0, slots := 0, locals := 46 } : Room) (gPre D (mTys cI) (mW q cI cO I F hs) mEnv [.ref (q 0)]) (va_Qv (fun (u : mS) => post u.1 u.2.1 u.2.2) (gB D (fun u : mS => mW q cI cO u.1 u.2.1 u.2.2)) (mA q)) 0 0 (mA q) := by
  refine gMetV (by decide) rfl (Nat.le_of_ble_eq_true rfl) ?_
  intro p e R s m args below meth c Q ls hR hx hb hml hown hts hK hE hP hl hret
  have hRf : 2 ≤ R.frames := by subst hR; exact Nat.le_refl _
  have hRl : 46 ≤ R.locals := by subst hR; exact Nat.le_refl _
  have hown : s.vm.findClass RX9 = some m.cls := hown
  have hl : lv_has ls 3 [(0, .ref (q 0))] := hl
  have hS : va_S (mA q) s.heap s.heap [] := va_S.rf
  have hP : va_P D vwCl (mW q cI cO I F hs) s.heap := hP
  have L149 : ∀ (n : Nat) (x1 : Int32) (k : Int32 → (Nat → Int32) → (Nat → Nat → Int32) → Int64 → Prop) (x2 : Int32) (I : Nat → Int32) (F : Nat → Nat → Int32) (hs : Int64) (H : Heap) (locs : List Loc) (ls : Array Slot), va_P D vwCl (mW q cI cO I F hs) H → va_S (mA q) s.heap H locs → lv_has ls 3 [(0, .ref (q 0)), (1, .int x1), (2, .int x2)] → gLN (fun ag v => w_X9_layTables_B149 x1 k (fun b0 b1 b2 b3 => ag (b0, b1, b2, b3)) v.1 v.2.1 v.2.2.1 v.2.2.2) n (x2, I, F, hs) → (∀ (x2 : Int32) (I : Nat → Int32) (F : Nat → Nat → Int32) (hs : Int64) (H : Heap) (locs : List Loc) (ls : Array Slot), va_P D vwCl (mW q cI cO I F hs) H → va_S (mA q) s.heap H locs → lv_has ls 3 [(0, .ref (q 0)), (1, .int x1)] → k x2 I F hs → W p l e R s m args below meth c H locs 0 0 Q (F0 m 205 ls [])) → W p l e R s m args below meth c H locs 0 0 Q (F0 m 149 ls []) := by
    intro n
    induction n with
    | zero =>
      intro x1 k x2 I F hs H locs ls  hP hS hl h K
      exact False.elim h
    | succ n ih =>
      intro x1 k x2 I F hs H locs ls  hP hS hl h K
      have h : w_X9_layTables_B149 x1 k (fun b0 b1 b2 b3 => gLN (fun ag v => w_X9_layTables_B149 x1 k (fun b0 b1 b2 b3 => ag (b0, b1, b2, b3)) v.1 v.2.1 v.2.2.1 v.2.2.2) n (b0, b1, b2, b3)) x2 I F hs := h
      refine lv_iload_n hx hb dX9_layTables_149 rfl (lv_at hl 2 rfl) ?_
      refine lv_bipush (v := (63 : Int32)) hx hb dX9_layTables_150 (by decide) ?_
      refine lv_icmp_ge (tgt := 205) hx hb dX9_layTables_152 (by decide) (fun c1 => ?_) (fun c1 => ?_)
      · have h := h.1 c1
        exact K x2 I F hs _ _ _  hP hS (lv_sub hl [0, 1] rfl) h
      · have h := h.2 c1
        refine lv_aload_n hx hb dX9_layTables_155 rfl (lv_at hl 0 rfl) ?_
        refine va_get (D := D) (ci := 9) (v := .ref (q 10)) (C := RX9) (T := TX9) (N := 44) hx hb hts (fun _ h9 => List.mem_cons_of_mem _ (List.mem_append_right _ h9)) hown hK hP 0 mAt0 rfl 9 (by decide) (hts _ (List.mem_of_getElem? (l := wsX9_layTables) (i := 6) rfl)) (fun _ h9 => h9) rfl dX9_layTables_156 ?_
        refine lv_bipush (v := (63 : Int32)) hx hb dX9_layTables_159 (by decide) ?_
        refine lv_iload_n hx hb dX9_layTables_161 rfl (lv_at hl 1 rfl) ?_
        refine lv_imul hx hb dX9_layTables_162 ?_
        refine lv_iload_n hx hb dX9_layTables_163 rfl (lv_at hl 2 rfl) ?_
        refine lv_iadd hx hb dX9_layTables_164 ?_
        refine lv_aload_n hx hb dX9_layTables_165 rfl (lv_at hl 0 rfl) ?_
        refine lv_aload_n hx hb dX9_layTables_166 rfl (lv_at hl 0 rfl) ?_
        refine lv_iload_n hx hb dX9_layTables_167 rfl (lv_at hl 1 rfl) ?_
        refine lv_aload_n hx hb dX9_layTables_168 rfl (lv_at hl 0 rfl) ?_
        refine va_get (D := D) (ci := 9) (v := .ref (q 4)) (C := RX9) (T := TX9) (N := 44) hx hb hts (fun _ h9 => List.mem_cons_of_mem _ (List.mem_append_right _ h9)) hown hK hP 0 mAt0 rfl 3 (by decide) (hts _ (List.mem_of_getElem? (l := wsX9_layTables) (i := 2) rfl)) (fun _ h9 => h9) rfl dX9_layTables_169 ?_
        refine lv_iload_n hx hb dX9_layTables_172 rfl (lv_at hl 2 rfl) ?_
        refine va_iald (D := D) hx hb hK hP 4 0 mAr4 rfl h.1 dX9_layTables_173 ?_
        have h := h.2
        refine lv_aload_n hx hb dX9_layTables_174 rfl (lv_at hl 0 rfl) ?_
        refine va_get (D := D) (ci := 9) (v := .ref (q 5)) (C := RX9) (T := TX9) (N := 44) hx hb hts (fun _ h9 => List.mem_cons_of_mem _ (List.mem_append_right _ h9)) hown hK hP 0 mAt0 rfl 4 (by decide) (hts _ (List.mem_of_getElem? (l := wsX9_layTables) (i := 7) rfl)) (fun _ h9 => h9) rfl dX9_layTables_175 ?_
        refine lv_iload_n hx hb dX9_layTables_178 rfl (lv_at hl 2 rfl) ?_
        refine va_iald (D := D) hx hb hK hP 5 0 mAr5 rfl h.1 dX9_layTables_179 ?_
        have h := h.2
        refine gCallI (D := D) (va_runV (As := [.int x1, .int (F 4 (x2).toNatClampNeg), .int (F 5 (x2).toNatClampNeg)]) (rest := [.ref (q 0), .int (((63 : Int32) * x1) + x2), .ref (q 10)]) ⟨hx, hb, hml, hown, hts⟩ (c_X9_turned l D q cI cO hq x1 (F 4 (x2).toNatClampNeg) (F 5 (x2).toNatClampNeg)  I F hs _ h) (cwV 3 hts gX9_layTables_X9_turned rfl rfl rfl (by decide +kernel) ⟨Nat.le_trans (Nat.le_of_ble_eq_true rfl) hRf, Nat.le_trans (Nat.le_of_ble_eq_true rfl) hRl⟩) (gPreV (ci := 9) (q0 := 0) mEok hE hK hP hS rfl mAt0) rfl rfl hl.1 rfl (lv_room (Nat.le_of_ble_eq_true rfl)) dX9_layTables_180 ⟨Nat.zero_le _, Nat.zero_le _⟩) hS (fun r2 _ H locs hP hS h => ?_)
        have hP : va_P D vwCl (mW q cI cO I F hs) H := hP
        refine lv_aload_n hx hb dX9_layTables_183 rfl (lv_at hl 0 rfl) ?_
        refine va_get (D := D) (ci := 9) (v := .ref (q 6)) (C := RX9) (T := TX9) (N := 44) hx hb hts (fun _ h9 => List.mem_cons_of_mem _ (List.mem_append_right _ h9)) hown hK hP 0 mAt0 rfl 5 (by decide) (hts _ (List.mem_of_getElem? (l := wsX9_layTables) (i := 3) rfl)) (fun _ h9 => h9) rfl dX9_layTables_184 ?_
        refine lv_iload_n hx hb dX9_layTables_187 rfl (lv_at hl 2 rfl) ?_
        refine va_iald (D := D) hx hb hK hP 6 0 mAr6 rfl h.1 dX9_layTables_188 ?_
        have h := h.2
        refine lv_aload_n hx hb dX9_layTables_189 rfl (lv_at hl 0 rfl) ?_
        refine va_get (D := D) (ci := 9) (v := .ref (q 7)) (C := RX9) (T := TX9) (N := 44) hx hb hts (fun _ h9 => List.mem_cons_of_mem _ (List.mem_append_right _ h9)) hown hK hP 0 mAt0 rfl 6 (by decide) (hts _ (List.mem_of_getElem? (l := wsX9_layTables) (i := 8) rfl)) (fun _ h9 => h9) rfl dX9_layTables_190 ?_
        refine lv_iload_n hx hb dX9_layTables_193 rfl (lv_at hl 2 rfl) ?_
        refine va_iald (D := D) hx hb hK hP 7 0 mAr7 rfl h.1 dX9_layTables_194 ?_
        have h := h.2
        refine gCallI (D := D) (va_runV (As := [.int r2, .int (F 6 (x2).toNatClampNeg), .int (F 7 (x2).toNatClampNeg)]) (rest := [.int (((63 : Int32) * x1) + x2), .ref (q 10)]) ⟨hx, hb, hml, hown, hts⟩ (c_X9_turned l D q cI cO hq r2 (F 6 (x2).toNatClampNeg) (F 7 (x2).toNatClampNeg)  I F hs _ h) (cwV 3 hts gX9_layTables_X9_turned rfl rfl rfl (by decide +kernel) ⟨Nat.le_trans (Nat.le_of_ble_eq_true rfl) hRf, Nat.le_trans (Nat.le_of_ble_eq_true rfl) hRl⟩) (gPreV (ci := 9) (q0 := 0) mEok hE hK hP hS rfl mAt0) rfl rfl hl.1 rfl (lv_room (Nat.le_of_ble_eq_true rfl)) dX9_layTables_195 ⟨Nat.zero_le _, Nat.zero_le _⟩) hS (fun r3 _ H locs hP hS h => ?_)
        have hP : va_P D vwCl (mW q cI cO I F hs) H := hP
        refine gAst (D := D) hx hb hK hP (mD hq) hS 10 0 mAr10 rfl h.1 dX9_layTables_198 (mSA10 _) (fun H locs hP hS => ?_)
        obtain ⟨F4, eF4⟩ : ∃ z : Nat → Nat → Int32, z = upF F 10 (upd (F 10) ((((63 : Int32) * x1) + x2)).toNatClampNeg r3) := ⟨_, rfl⟩
        rw [← eF4] at hP
        have h := h.2 F4 eF4
        refine lv_iinc (v := (x2 + (1 : Int32))) (lv' := [(2, .int (x2 + (1 : Int32))), (0, .ref (q 0)), (1, .int x1)]) hx hb dX9_layTables_199 hl (k := 2) rfl rfl (by decide) rfl (fun ls hl => ?_)
        refine lv_goto (tgt := 149) hx hb dX9_layTables_202 (by decide) ?_
        exact ih x1 _ (x2 + (1 : Int32)) I F4 hs _ _ _  hP hS (lv_sub hl [1, 2, 0] rfl) h K
  have L113 : ∀ (n : Nat) (x1 : Int32) (k : Int32 → (Nat → Int32) → (Nat → Nat → Int32) → Int64 → Prop) (x2 : Int32) (I : Nat → Int32) (F : Nat → Nat → Int32) (hs : Int64) (H : Heap) (locs : List Loc) (ls : Array Slot), va_P D vwCl (mW q cI cO I F hs) H → va_S (mA q) s.heap H locs → lv_has ls 3 [(0, .ref (q 0)), (1, .int x1), (2, .int x2)] → gLN (fun ag v => w_X9_layTables_B113 x1 k (fun b0 b1 b2 b3 => ag (b0, b1, b2, b3)) v.1 v.2.1 v.2.2.1 v.2.2.2) n (x2, I, F, hs) → (∀ (x2 : Int32) (I : Nat → Int32) (F : Nat → Nat → Int32) (hs : Int64) (H : Heap) (locs : List Loc) (ls : Array Slot), va_P D vwCl (mW q cI cO I F hs) H → va_S (mA q) s.heap H locs → lv_has ls 3 [(0, .ref (q 0)), (1, .int x1)] → k x2 I F hs → W p l e R s m args below meth c H locs 0 0 Q (F0 m 147 ls [])) → W p l e R s m args below meth c H locs 0 0 Q (F0 m 113 ls []) := by
    intro n
    induction n with
    | zero =>
      intro x1 k x2 I F hs H locs ls  hP hS hl h K
      exact False.elim h
    | succ n ih =>
      intro x1 k x2 I F hs H locs ls  hP hS hl h K
      have h : w_X9_layTables_B113 x1 k (fun b0 b1 b2 b3 => gLN (fun ag v => w_X9_layTables_B113 x1 k (fun b0 b1 b2 b3 => ag (b0, b1, b2, b3)) v.1 v.2.1 v.2.2.1 v.2.2.2) n (b0, b1, b2, b3)) x2 I F hs := h
      refine lv_iload_n hx hb dX9_layTables_113 rfl (lv_at hl 2 rfl) ?_
      refine lv_bipush (v := (7 : Int32)) hx hb dX9_layTables_114 (by decide) ?_
      refine lv_icmp_ge (tgt := 147) hx hb dX9_layTables_116 (by decide) (fun c5 => ?_) (fun c5 => ?_)
      · have h := h.1 c5
        exact K x2 I F hs _ _ _  hP hS (lv_sub hl [0, 1] rfl) h
      · have h := h.2 c5
        refine lv_aload_n hx hb dX9_layTables_119 rfl (lv_at hl 0 rfl) ?_
        refine va_get (D := D) (ci := 9) (v := .ref (q 3)) (C := RX9) (T := TX9) (N := 44) hx hb hts (fun _ h9 => List.mem_cons_of_mem _ (List.mem_append_right _ h9)) hown hK hP 0 mAt0 rfl 2 (by decide) (hts _ (List.mem_of_getElem? (l := wsX9_layTables) (i := 5) rfl)) (fun _ h9 => h9) rfl dX9_layTables_120 ?_
        refine lv_bipush (v := (7 : Int32)) hx hb dX9_layTables_123 (by decide) ?_
        refine lv_iload_n hx hb dX9_layTables_125 rfl (lv_at hl 1 rfl) ?_
        refine lv_imul hx hb dX9_layTables_126 ?_
        refine lv_iload_n hx hb dX9_layTables_127 rfl (lv_at hl 2 rfl) ?_
        refine lv_iadd hx hb dX9_layTables_128 ?_
        refine lv_aload_n hx hb dX9_layTables_129 rfl (lv_at hl 0 rfl) ?_
        refine lv_iload_n hx hb dX9_layTables_130 rfl (lv_at hl 2 rfl) ?_
        refine lv_aload_n hx hb dX9_layTables_131 rfl (lv_at hl 0 rfl) ?_
        refine lv_iload_n hx hb dX9_layTables_132 rfl (lv_at hl 1 rfl) ?_
        refine lv_iload_n hx hb dX9_layTables_133 rfl (lv_at hl 2 rfl) ?_
        refine gCallI (D := D) (va_runV (As := [.int x1, .int x2]) (rest := [.int x2, .ref (q 0), .int (((7 : Int32) * x1) + x2), .ref (q 3)]) ⟨hx, hb, hml, hown, hts⟩ (c_X9_positionOf l D q cI cO hq x1 x2  I F hs _ h) (cwV 2 hts gX9_layTables_X9_positionOf rfl rfl rfl (by decide +kernel) ⟨Nat.le_trans (Nat.le_of_ble_eq_true rfl) hRf, Nat.le_trans (Nat.le_of_ble_eq_true rfl) hRl⟩) (gPreV (ci := 9) (q0 := 0) mEok hE hK hP hS rfl mAt0) rfl rfl hl.1 rfl (lv_room (Nat.le_of_ble_eq_true rfl)) dX9_layTables_134 ⟨Nat.zero_le _, Nat.zero_le _⟩) hS (fun r6 _ H locs hP hS h => ?_)
        have hP : va_P D vwCl (mW q cI cO I F hs) H := hP
        refine gCallI (D := D) (va_runV (As := [.int x2, .int r6]) (rest := [.int (((7 : Int32) * x1) + x2), .ref (q 3)]) ⟨hx, hb, hml, hown, hts⟩ (c_X9_toneOf l D q cI cO hq x2 r6  I F hs _ h) (cwV 2 hts gX9_layTables_X9_toneOf rfl rfl rfl (by decide +kernel) ⟨Nat.le_trans (Nat.le_of_ble_eq_true rfl) hRf, Nat.le_trans (Nat.le_of_ble_eq_true rfl) hRl⟩) (gPreV (ci := 9) (q0 := 0) mEok hE hK hP hS rfl mAt0) rfl rfl hl.1 rfl (lv_room (Nat.le_of_ble_eq_true rfl)) dX9_layTables_137 ⟨Nat.zero_le _, Nat.zero_le _⟩) hS (fun r7 _ H locs hP hS h => ?_)
        have hP : va_P D vwCl (mW q cI cO I F hs) H := hP
        refine gAst (D := D) hx hb hK hP (mD hq) hS 3 0 mAr3 rfl h.1 dX9_layTables_140 (mSA3 _) (fun H locs hP hS => ?_)
        obtain ⟨F8, eF8⟩ : ∃ z : Nat → Nat → Int32, z = upF F 3 (upd (F 3) ((((7 : Int32) * x1) + x2)).toNatClampNeg r7) := ⟨_, rfl⟩
        rw [← eF8] at hP
        have h := h.2 F8 eF8
        refine lv_iinc (v := (x2 + (1 : Int32))) (lv' := [(2, .int (x2 + (1 : Int32))), (0, .ref (q 0)), (1, .int x1)]) hx hb dX9_layTables_141 hl (k := 2) rfl rfl (by decide) rfl (fun ls hl => ?_)
        refine lv_goto (tgt := 113) hx hb dX9_layTables_144 (by decide) ?_
        exact ih x1 _ (x2 + (1 : Int32)) I F8 hs _ _ _  hP hS (lv_sub hl [1, 2, 0] rfl) h K
  have L104 : ∀ (n : Nat)  (k : Int32 → (Nat → Int32) → (Nat → Nat → Int32) → Int64 → Prop) (x1 : Int32) (I : Nat → Int32) (F : Nat → Nat → Int32) (hs : Int64) (H : Heap) (locs : List Loc) (ls : Array Slot), va_P D vwCl (mW q cI cO I F hs) H → va_S (mA q) s.heap H locs → lv_has ls 3 [(0, .ref (q 0)), (1, .int x1)] → gLN (fun ag v => w_X9_layTables_B104  k (fun b0 b1 b2 b3 => ag (b0, b1, b2, b3)) v.1 v.2.1 v.2.2.1 v.2.2.2) n (x1, I, F, hs) → (∀ (x1 : Int32) (I : Nat → Int32) (F : Nat → Nat → Int32) (hs : Int64) (H : Heap) (locs : List Loc) (ls : Array Slot), va_P D vwCl (mW q cI cO I F hs) H → va_S (mA q) s.heap H locs → lv_has ls 3 [] → k x1 I F hs → W p l e R s m args below meth c H locs 0 0 Q (F0 m 211 ls [])) → W p l e R s m args below meth c H locs 0 0 Q (F0 m 104 ls []) := by
    intro n
    induction n with
    | zero =>
      intro  k x1 I F hs H locs ls  hP hS hl h K
      exact False.elim h
    | succ n ih =>
      intro  k x1 I F hs H locs ls  hP hS hl h K
      have h : w_X9_layTables_B104  k (fun b0 b1 b2 b3 => gLN (fun ag v => w_X9_layTables_B104  k (fun b0 b1 b2 b3 => ag (b0, b1, b2, b3)) v.1 v.2.1 v.2.2.1 v.2.2.2) n (b0, b1, b2, b3)) x1 I F hs := h
      refine lv_iload_n hx hb dX9_layTables_104 rfl (lv_at hl 1 rfl) ?_
      refine lv_sipush (v := (2187 : Int32)) hx hb dX9_layTables_105 (by decide) ?_
      refine lv_icmp_ge (tgt := 211) hx hb dX9_layTables_108 (by decide) (fun c9 => ?_) (fun c9 => ?_)
      · have h := h.1 c9
        exact K x1 I F hs _ _ _  hP hS (lv_sub hl [] rfl) h
      · have h := h.2 c9
        refine lv_iconst (v := (0 : Int32)) hx hb dX9_layTables_111 (by decide) ?_
        refine lv_istore_n (lv' := [(2, .int (0 : Int32)), (0, .ref (q 0)), (1, .int x1)]) hx hb dX9_layTables_112 rfl hl (by decide) rfl (fun ls hl => ?_)
        obtain ⟨n, h⟩ := h
        refine L113 n x1 _ (0 : Int32) I F hs _ _ _  hP hS (lv_sub hl [1, 2, 0] rfl) h (fun y10 I11 F12 hs13 H locs ls  hP hS hl h => ?_)
        refine lv_iconst (v := (0 : Int32)) hx hb dX9_layTables_147 (by decide) ?_
        refine lv_istore_n (lv' := [(2, .int (0 : Int32)), (0, .ref (q 0)), (1, .int x1)]) hx hb dX9_layTables_148 rfl hl (by decide) rfl (fun ls hl => ?_)
        obtain ⟨n, h⟩ := h
        refine L149 n x1 _ (0 : Int32) I11 F12 hs13 _ _ _  hP hS (lv_sub hl [1, 2, 0] rfl) h (fun y14 I15 F16 hs17 H locs ls  hP hS hl h => ?_)
        refine lv_iinc (v := (x1 + (1 : Int32))) (lv' := [(1, .int (x1 + (1 : Int32))), (0, .ref (q 0))]) hx hb dX9_layTables_205 hl (k := 1) rfl rfl (by decide) rfl (fun ls hl => ?_)
        refine lv_goto (tgt := 104) hx hb dX9_layTables_208 (by decide) ?_
        exact ih  _ (x1 + (1 : Int32)) I15 F16 hs17 _ _ _  hP hS (lv_sub hl [1, 0] rfl) h K
  have L2 : ∀ (n : Nat)  (k : Int32 → (Nat → Int32) → (Nat → Nat → Int32) → Int64 → Prop) (x1 : Int32) (I : Nat → Int32) (F : Nat → Nat → Int32) (hs : Int64) (H : Heap) (locs : List Loc) (ls : Array Slot), va_P D vwCl (mW q cI cO I F hs) H → va_S (mA q) s.heap H locs → lv_has ls 3 [(0, .ref (q 0)), (1, .int x1)] → gLN (fun ag v => w_X9_layTables_B2  k (fun b0 b1 b2 b3 => ag (b0, b1, b2, b3)) v.1 v.2.1 v.2.2.1 v.2.2.2) n (x1, I, F, hs) → (∀ (x1 : Int32) (I : Nat → Int32) (F : Nat → Nat → Int32) (hs : Int64) (H : Heap) (locs : List Loc) (ls : Array Slot), va_P D vwCl (mW q cI cO I F hs) H → va_S (mA q) s.heap H locs → lv_has ls 3 [(0, .ref (q 0))] → k x1 I F hs → W p l e R s m args below meth c H locs 0 0 Q (F0 m 102 ls [])) → W p l e R s m args below meth c H locs 0 0 Q (F0 m 2 ls []) := by
    intro n
    induction n with
    | zero =>
      intro  k x1 I F hs H locs ls  hP hS hl h K
      exact False.elim h
    | succ n ih =>
      intro  k x1 I F hs H locs ls  hP hS hl h K
      have h : w_X9_layTables_B2  k (fun b0 b1 b2 b3 => gLN (fun ag v => w_X9_layTables_B2  k (fun b0 b1 b2 b3 => ag (b0, b1, b2, b3)) v.1 v.2.1 v.2.2.1 v.2.2.2) n (b0, b1, b2, b3)) x1 I F hs := h
      refine lv_iload_n hx hb dX9_layTables_2 rfl (lv_at hl 1 rfl) ?_
      refine lv_bipush (v := (63 : Int32)) hx hb dX9_layTables_3 (by decide) ?_
      refine lv_icmp_ge (tgt := 102) hx hb dX9_layTables_5 (by decide) (fun c18 => ?_) (fun c18 => ?_)
      · have h := h.1 c18
        exact K x1 I F hs _ _ _  hP hS (lv_sub hl [0] rfl) h
      · have h := h.2 c18
        refine lv_aload_n hx hb dX9_layTables_8 rfl (lv_at hl 0 rfl) ?_
        refine va_get (D := D) (ci := 9) (v := .ref (q 8)) (C := RX9) (T := TX9) (N := 44) hx hb hts (fun _ h9 => List.mem_cons_of_mem _ (List.mem_append_right _ h9)) hown hK hP 0 mAt0 rfl 7 (by decide) (hts _ (List.mem_of_getElem? (l := wsX9_layTables) (i := 1) rfl)) (fun _ h9 => h9) rfl dX9_layTables_9 ?_
        refine lv_iload_n hx hb dX9_layTables_12 rfl (lv_at hl 1 rfl) ?_
        refine lv_aload_n hx hb dX9_layTables_13 rfl (lv_at hl 0 rfl) ?_
        refine va_get (D := D) (ci := 9) (v := .ref (q 4)) (C := RX9) (T := TX9) (N := 44) hx hb hts (fun _ h9 => List.mem_cons_of_mem _ (List.mem_append_right _ h9)) hown hK hP 0 mAt0 rfl 3 (by decide) (hts _ (List.mem_of_getElem? (l := wsX9_layTables) (i := 2) rfl)) (fun _ h9 => h9) rfl dX9_layTables_14 ?_
        refine lv_iload_n hx hb dX9_layTables_17 rfl (lv_at hl 1 rfl) ?_
        refine va_iald (D := D) hx hb hK hP 4 0 mAr4 rfl h.1 dX9_layTables_18 ?_
        have h := h.2
        refine lv_iconst (v := (-1 : Int32)) hx hb dX9_layTables_19 (by decide) ?_
        refine lv_icmp_ne (tgt := 27) hx hb dX9_layTables_20 (by decide) (fun c19 => ?_) (fun c19 => ?_)
        · have h := h.1 c19
          refine lv_iconst (v := (1 : Int32)) hx hb dX9_layTables_27 (by decide) ?_
          refine lv_aload_n hx hb dX9_layTables_28 rfl (lv_at hl 0 rfl) ?_
          refine va_get (D := D) (ci := 9) (v := .ref (q 6)) (C := RX9) (T := TX9) (N := 44) hx hb hts (fun _ h9 => List.mem_cons_of_mem _ (List.mem_append_right _ h9)) hown hK hP 0 mAt0 rfl 5 (by decide) (hts _ (List.mem_of_getElem? (l := wsX9_layTables) (i := 3) rfl)) (fun _ h9 => h9) rfl dX9_layTables_29 ?_
          refine lv_iload_n hx hb dX9_layTables_32 rfl (lv_at hl 1 rfl) ?_
          refine va_iald (D := D) hx hb hK hP 6 0 mAr6 rfl h.1 dX9_layTables_33 ?_
          have h := h.2
          refine lv_iconst (v := (-1 : Int32)) hx hb dX9_layTables_34 (by decide) ?_
          refine lv_icmp_ne (tgt := 42) hx hb dX9_layTables_35 (by decide) (fun c20 => ?_) (fun c20 => ?_)
          · have h := h.1 c20
            refine lv_iconst (v := (1 : Int32)) hx hb dX9_layTables_42 (by decide) ?_
            refine lv_iadd hx hb dX9_layTables_43 ?_
            refine gAst (D := D) hx hb hK hP (mD hq) hS 8 0 mAr8 rfl h.1 dX9_layTables_44 (mSA8 _) (fun H locs hP hS => ?_)
            obtain ⟨F21, eF21⟩ : ∃ z : Nat → Nat → Int32, z = upF F 8 (upd (F 8) (x1).toNatClampNeg ((1 : Int32) + (1 : Int32))) := ⟨_, rfl⟩
            rw [← eF21] at hP
            have h := h.2 F21 eF21
            refine lv_aload_n hx hb dX9_layTables_45 rfl (lv_at hl 0 rfl) ?_
            refine va_get (D := D) (ci := 9) (v := .ref (q 9)) (C := RX9) (T := TX9) (N := 44) hx hb hts (fun _ h9 => List.mem_cons_of_mem _ (List.mem_append_right _ h9)) hown hK hP 0 mAt0 rfl 8 (by decide) (hts _ (List.mem_of_getElem? (l := wsX9_layTables) (i := 4) rfl)) (fun _ h9 => h9) rfl dX9_layTables_46 ?_
            refine lv_iload_n hx hb dX9_layTables_49 rfl (lv_at hl 1 rfl) ?_
            refine lv_aload_n hx hb dX9_layTables_50 rfl (lv_at hl 0 rfl) ?_
            refine va_get (D := D) (ci := 9) (v := .ref (q 4)) (C := RX9) (T := TX9) (N := 44) hx hb hts (fun _ h9 => List.mem_cons_of_mem _ (List.mem_append_right _ h9)) hown hK hP 0 mAt0 rfl 3 (by decide) (hts _ (List.mem_of_getElem? (l := wsX9_layTables) (i := 2) rfl)) (fun _ h9 => h9) rfl dX9_layTables_51 ?_
            refine lv_iload_n hx hb dX9_layTables_54 rfl (lv_at hl 1 rfl) ?_
            refine va_iald (D := D) hx hb hK hP 4 0 mAr4 rfl h.1 dX9_layTables_55 ?_
            have h := h.2
            refine lv_iconst (v := (-1 : Int32)) hx hb dX9_layTables_56 (by decide) ?_
            refine lv_icmp_ne (tgt := 64) hx hb dX9_layTables_57 (by decide) (fun c22 => ?_) (fun c22 => ?_)
            · have h := h.1 c22
              refine lv_iconst (v := (1 : Int32)) hx hb dX9_layTables_64 (by decide) ?_
              refine lv_aload_n hx hb dX9_layTables_65 rfl (lv_at hl 0 rfl) ?_
              refine va_get (D := D) (ci := 9) (v := .ref (q 4)) (C := RX9) (T := TX9) (N := 44) hx hb hts (fun _ h9 => List.mem_cons_of_mem _ (List.mem_append_right _ h9)) hown hK hP 0 mAt0 rfl 3 (by decide) (hts _ (List.mem_of_getElem? (l := wsX9_layTables) (i := 2) rfl)) (fun _ h9 => h9) rfl dX9_layTables_66 ?_
              refine lv_iload_n hx hb dX9_layTables_69 rfl (lv_at hl 1 rfl) ?_
              refine va_iald (D := D) hx hb hK hP 4 0 mAr4 rfl h.1 dX9_layTables_70 ?_
              have h := h.2
              refine lv_ishl hx hb dX9_layTables_71 ?_
              refine lv_aload_n hx hb dX9_layTables_72 rfl (lv_at hl 0 rfl) ?_
              refine va_get (D := D) (ci := 9) (v := .ref (q 6)) (C := RX9) (T := TX9) (N := 44) hx hb hts (fun _ h9 => List.mem_cons_of_mem _ (List.mem_append_right _ h9)) hown hK hP 0 mAt0 rfl 5 (by decide) (hts _ (List.mem_of_getElem? (l := wsX9_layTables) (i := 3) rfl)) (fun _ h9 => h9) rfl dX9_layTables_73 ?_
              refine lv_iload_n hx hb dX9_layTables_76 rfl (lv_at hl 1 rfl) ?_
              refine va_iald (D := D) hx hb hK hP 6 0 mAr6 rfl h.1 dX9_layTables_77 ?_
              have h := h.2
              refine lv_iconst (v := (-1 : Int32)) hx hb dX9_layTables_78 (by decide) ?_
              refine lv_icmp_ne (tgt := 86) hx hb dX9_layTables_79 (by decide) (fun c23 => ?_) (fun c23 => ?_)
              · have h := h.1 c23
                refine lv_iconst (v := (1 : Int32)) hx hb dX9_layTables_86 (by decide) ?_
                refine lv_aload_n hx hb dX9_layTables_87 rfl (lv_at hl 0 rfl) ?_
                refine va_get (D := D) (ci := 9) (v := .ref (q 6)) (C := RX9) (T := TX9) (N := 44) hx hb hts (fun _ h9 => List.mem_cons_of_mem _ (List.mem_append_right _ h9)) hown hK hP 0 mAt0 rfl 5 (by decide) (hts _ (List.mem_of_getElem? (l := wsX9_layTables) (i := 3) rfl)) (fun _ h9 => h9) rfl dX9_layTables_88 ?_
                refine lv_iload_n hx hb dX9_layTables_91 rfl (lv_at hl 1 rfl) ?_
                refine va_iald (D := D) hx hb hK hP 6 0 mAr6 rfl h.1 dX9_layTables_92 ?_
                have h := h.2
                refine lv_ishl hx hb dX9_layTables_93 ?_
                refine lv_ior hx hb dX9_layTables_94 ?_
                refine gAst (D := D) hx hb hK hP (mD hq) hS 9 0 mAr9 rfl h.1 dX9_layTables_95 (mSA9 _) (fun H locs hP hS => ?_)
                obtain ⟨F24, eF24⟩ : ∃ z : Nat → Nat → Int32, z = upF F21 9 (upd (F21 9) (x1).toNatClampNeg (((1 : Int32) <<< ((F21 4 (x1).toNatClampNeg) &&& 31)) ||| ((1 : Int32) <<< ((F21 6 (x1).toNatClampNeg) &&& 31)))) := ⟨_, rfl⟩
                rw [← eF24] at hP
                have h := h.2 F24 eF24
                refine lv_iinc (v := (x1 + (1 : Int32))) (lv' := [(1, .int (x1 + (1 : Int32))), (0, .ref (q 0))]) hx hb dX9_layTables_96 hl (k := 1) rfl rfl (by decide) rfl (fun ls hl => ?_)
                refine lv_goto (tgt := 2) hx hb dX9_layTables_99 (by decide) ?_
                exact ih  _ (x1 + (1 : Int32)) I F24 hs _ _ _  hP hS (lv_sub hl [1, 0] rfl) h K
              · have h := h.2 c23
                refine lv_iconst (v := (0 : Int32)) hx hb dX9_layTables_82 (by decide) ?_
                refine lv_goto (tgt := 94) hx hb dX9_layTables_83 (by decide) ?_
                refine lv_ior hx hb dX9_layTables_94 ?_
                refine gAst (D := D) hx hb hK hP (mD hq) hS 9 0 mAr9 rfl h.1 dX9_layTables_95 (mSA9 _) (fun H locs hP hS => ?_)
                obtain ⟨F25, eF25⟩ : ∃ z : Nat → Nat → Int32, z = upF F21 9 (upd (F21 9) (x1).toNatClampNeg (((1 : Int32) <<< ((F21 4 (x1).toNatClampNeg) &&& 31)) ||| (0 : Int32))) := ⟨_, rfl⟩
                rw [← eF25] at hP
                have h := h.2 F25 eF25
                refine lv_iinc (v := (x1 + (1 : Int32))) (lv' := [(1, .int (x1 + (1 : Int32))), (0, .ref (q 0))]) hx hb dX9_layTables_96 hl (k := 1) rfl rfl (by decide) rfl (fun ls hl => ?_)
                refine lv_goto (tgt := 2) hx hb dX9_layTables_99 (by decide) ?_
                exact ih  _ (x1 + (1 : Int32)) I F25 hs _ _ _  hP hS (lv_sub hl [1, 0] rfl) h K
            · have h := h.2 c22
              refine lv_iconst (v := (0 : Int32)) hx hb dX9_layTables_60 (by decide) ?_
              refine lv_goto (tgt := 72) hx hb dX9_layTables_61 (by decide) ?_
              refine lv_aload_n hx hb dX9_layTables_72 rfl (lv_at hl 0 rfl) ?_
              refine va_get (D := D) (ci := 9) (v := .ref (q 6)) (C := RX9) (T := TX9) (N := 44) hx hb hts (fun _ h9 => List.mem_cons_of_mem _ (List.mem_append_right _ h9)) hown hK hP 0 mAt0 rfl 5 (by decide) (hts _ (List.mem_of_getElem? (l := wsX9_layTables) (i := 3) rfl)) (fun _ h9 => h9) rfl dX9_layTables_73 ?_
              refine lv_iload_n hx hb dX9_layTables_76 rfl (lv_at hl 1 rfl) ?_
              refine va_iald (D := D) hx hb hK hP 6 0 mAr6 rfl h.1 dX9_layTables_77 ?_
              have h := h.2
              refine lv_iconst (v := (-1 : Int32)) hx hb dX9_layTables_78 (by decide) ?_
              refine lv_icmp_ne (tgt := 86) hx hb dX9_layTables_79 (by decide) (fun c26 => ?_) (fun c26 => ?_)
              · have h := h.1 c26
                refine lv_iconst (v := (1 : Int32)) hx hb dX9_layTables_86 (by decide) ?_
                refine lv_aload_n hx hb dX9_layTables_87 rfl (lv_at hl 0 rfl) ?_
                refine va_get (D := D) (ci := 9) (v := .ref (q 6)) (C := RX9) (T := TX9) (N := 44) hx hb hts (fun _ h9 => List.mem_cons_of_mem _ (List.mem_append_right _ h9)) hown hK hP 0 mAt0 rfl 5 (by decide) (hts _ (List.mem_of_getElem? (l := wsX9_layTables) (i := 3) rfl)) (fun _ h9 => h9) rfl dX9_layTables_88 ?_
                refine lv_iload_n hx hb dX9_layTables_91 rfl (lv_at hl 1 rfl) ?_
                refine va_iald (D := D) hx hb hK hP 6 0 mAr6 rfl h.1 dX9_layTables_92 ?_
                have h := h.2
                refine lv_ishl hx hb dX9_layTables_93 ?_
                refine lv_ior hx hb dX9_layTables_94 ?_
                refine gAst (D := D) hx hb hK hP (mD hq) hS 9 0 mAr9 rfl h.1 dX9_layTables_95 (mSA9 _) (fun H locs hP hS => ?_)
                obtain ⟨F27, eF27⟩ : ∃ z : Nat → Nat → Int32, z = upF F21 9 (upd (F21 9) (x1).toNatClampNeg ((0 : Int32) ||| ((1 : Int32) <<< ((F21 6 (x1).toNatClampNeg) &&& 31)))) := ⟨_, rfl⟩
                rw [← eF27] at hP
                have h := h.2 F27 eF27
                refine lv_iinc (v := (x1 + (1 : Int32))) (lv' := [(1, .int (x1 + (1 : Int32))), (0, .ref (q 0))]) hx hb dX9_layTables_96 hl (k := 1) rfl rfl (by decide) rfl (fun ls hl => ?_)
                refine lv_goto (tgt := 2) hx hb dX9_layTables_99 (by decide) ?_
                exact ih  _ (x1 + (1 : Int32)) I F27 hs _ _ _  hP hS (lv_sub hl [1, 0] rfl) h K
              · have h := h.2 c26
                refine lv_iconst (v := (0 : Int32)) hx hb dX9_layTables_82 (by decide) ?_
                refine lv_goto (tgt := 94) hx hb dX9_layTables_83 (by decide) ?_
                refine lv_ior hx hb dX9_layTables_94 ?_
                refine gAst (D := D) hx hb hK hP (mD hq) hS 9 0 mAr9 rfl h.1 dX9_layTables_95 (mSA9 _) (fun H locs hP hS => ?_)
                obtain ⟨F28, eF28⟩ : ∃ z : Nat → Nat → Int32, z = upF F21 9 (upd (F21 9) (x1).toNatClampNeg ((0 : Int32) ||| (0 : Int32))) := ⟨_, rfl⟩
                rw [← eF28] at hP
                have h := h.2 F28 eF28
                refine lv_iinc (v := (x1 + (1 : Int32))) (lv' := [(1, .int (x1 + (1 : Int32))), (0, .ref (q 0))]) hx hb dX9_layTables_96 hl (k := 1) rfl rfl (by decide) rfl (fun ls hl => ?_)
                refine lv_goto (tgt := 2) hx hb dX9_layTables_99 (by decide) ?_
                exact ih  _ (x1 + (1 : Int32)) I F28 hs _ _ _  hP hS (lv_sub hl [1, 0] rfl) h K
          · have h := h.2 c20
            refine lv_iconst (v := (0 : Int32)) hx hb dX9_layTables_38 (by decide) ?_
            refine lv_goto (tgt := 43) hx hb dX9_layTables_39 (by decide) ?_
            refine lv_iadd hx hb dX9_layTables_43 ?_
            refine gAst (D := D) hx hb hK hP (mD hq) hS 8 0 mAr8 rfl h.1 dX9_layTables_44 (mSA8 _) (fun H locs hP hS => ?_)
            obtain ⟨F29, eF29⟩ : ∃ z : Nat → Nat → Int32, z = upF F 8 (upd (F 8) (x1).toNatClampNeg ((1 : Int32) + (0 : Int32))) := ⟨_, rfl⟩
            rw [← eF29] at hP
            have h := h.2 F29 eF29
            refine lv_aload_n hx hb dX9_layTables_45 rfl (lv_at hl 0 rfl) ?_
            refine va_get (D := D) (ci := 9) (v := .ref (q 9)) (C := RX9) (T := TX9) (N := 44) hx hb hts (fun _ h9 => List.mem_cons_of_mem _ (List.mem_append_right _ h9)) hown hK hP 0 mAt0 rfl 8 (by decide) (hts _ (List.mem_of_getElem? (l := wsX9_layTables) (i := 4) rfl)) (fun _ h9 => h9) rfl dX9_layTables_46 ?_
            refine lv_iload_n hx hb dX9_layTables_49 rfl (lv_at hl 1 rfl) ?_
            refine lv_aload_n hx hb dX9_layTables_50 rfl (lv_at hl 0 rfl) ?_
            refine va_get (D := D) (ci := 9) (v := .ref (q 4)) (C := RX9) (T := TX9) (N := 44) hx hb hts (fun _ h9 => List.mem_cons_of_mem _ (List.mem_append_right _ h9)) hown hK hP 0 mAt0 rfl 3 (by decide) (hts _ (List.mem_of_getElem? (l := wsX9_layTables) (i := 2) rfl)) (fun _ h9 => h9) rfl dX9_layTables_51 ?_
            refine lv_iload_n hx hb dX9_layTables_54 rfl (lv_at hl 1 rfl) ?_
            refine va_iald (D := D) hx hb hK hP 4 0 mAr4 rfl h.1 dX9_layTables_55 ?_
            have h := h.2
            refine lv_iconst (v := (-1 : Int32)) hx hb dX9_layTables_56 (by decide) ?_
            refine lv_icmp_ne (tgt := 64) hx hb dX9_layTables_57 (by decide) (fun c30 => ?_) (fun c30 => ?_)
            · have h := h.1 c30
              refine lv_iconst (v := (1 : Int32)) hx hb dX9_layTables_64 (by decide) ?_
              refine lv_aload_n hx hb dX9_layTables_65 rfl (lv_at hl 0 rfl) ?_
              refine va_get (D := D) (ci := 9) (v := .ref (q 4)) (C := RX9) (T := TX9) (N := 44) hx hb hts (fun _ h9 => List.mem_cons_of_mem _ (List.mem_append_right _ h9)) hown hK hP 0 mAt0 rfl 3 (by decide) (hts _ (List.mem_of_getElem? (l := wsX9_layTables) (i := 2) rfl)) (fun _ h9 => h9) rfl dX9_layTables_66 ?_
              refine lv_iload_n hx hb dX9_layTables_69 rfl (lv_at hl 1 rfl) ?_
              refine va_iald (D := D) hx hb hK hP 4 0 mAr4 rfl h.1 dX9_layTables_70 ?_
              have h := h.2
              refine lv_ishl hx hb dX9_layTables_71 ?_
              refine lv_aload_n hx hb dX9_layTables_72 rfl (lv_at hl 0 rfl) ?_
              refine va_get (D := D) (ci := 9) (v := .ref (q 6)) (C := RX9) (T := TX9) (N := 44) hx hb hts (fun _ h9 => List.mem_cons_of_mem _ (List.mem_append_right _ h9)) hown hK hP 0 mAt0 rfl 5 (by decide) (hts _ (List.mem_of_getElem? (l := wsX9_layTables) (i := 3) rfl)) (fun _ h9 => h9) rfl dX9_layTables_73 ?_
              refine lv_iload_n hx hb dX9_layTables_76 rfl (lv_at hl 1 rfl) ?_
              refine va_iald (D := D) hx hb hK hP 6 0 mAr6 rfl h.1 dX9_layTables_77 ?_
              have h := h.2
              refine lv_iconst (v := (-1 : Int32)) hx hb dX9_layTables_78 (by decide) ?_
              refine lv_icmp_ne (tgt := 86) hx hb dX9_layTables_79 (by decide) (fun c31 => ?_) (fun c31 => ?_)
              · have h := h.1 c31
                refine lv_iconst (v := (1 : Int32)) hx hb dX9_layTables_86 (by decide) ?_
                refine lv_aload_n hx hb dX9_layTables_87 rfl (lv_at hl 0 rfl) ?_
                refine va_get (D := D) (ci := 9) (v := .ref (q 6)) (C := RX9) (T := TX9) (N := 44) hx hb hts (fun _ h9 => List.mem_cons_of_mem _ (List.mem_append_right _ h9)) hown hK hP 0 mAt0 rfl 5 (by decide) (hts _ (List.mem_of_getElem? (l := wsX9_layTables) (i := 3) rfl)) (fun _ h9 => h9) rfl dX9_layTables_88 ?_
                refine lv_iload_n hx hb dX9_layTables_91 rfl (lv_at hl 1 rfl) ?_
                refine va_iald (D := D) hx hb hK hP 6 0 mAr6 rfl h.1 dX9_layTables_92 ?_
                have h := h.2
                refine lv_ishl hx hb dX9_layTables_93 ?_
                refine lv_ior hx hb dX9_layTables_94 ?_
                refine gAst (D := D) hx hb hK hP (mD hq) hS 9 0 mAr9 rfl h.1 dX9_layTables_95 (mSA9 _) (fun H locs hP hS => ?_)
                obtain ⟨F32, eF32⟩ : ∃ z : Nat → Nat → Int32, z = upF F29 9 (upd (F29 9) (x1).toNatClampNeg (((1 : Int32) <<< ((F29 4 (x1).toNatClampNeg) &&& 31)) ||| ((1 : Int32) <<< ((F29 6 (x1).toNatClampNeg) &&& 31)))) := ⟨_, rfl⟩
                rw [← eF32] at hP
                have h := h.2 F32 eF32
                refine lv_iinc (v := (x1 + (1 : Int32))) (lv' := [(1, .int (x1 + (1 : Int32))), (0, .ref (q 0))]) hx hb dX9_layTables_96 hl (k := 1) rfl rfl (by decide) rfl (fun ls hl => ?_)
                refine lv_goto (tgt := 2) hx hb dX9_layTables_99 (by decide) ?_
                exact ih  _ (x1 + (1 : Int32)) I F32 hs _ _ _  hP hS (lv_sub hl [1, 0] rfl) h K
              · have h := h.2 c31
                refine lv_iconst (v := (0 : Int32)) hx hb dX9_layTables_82 (by decide) ?_
                refine lv_goto (tgt := 94) hx hb dX9_layTables_83 (by decide) ?_
                refine lv_ior hx hb dX9_layTables_94 ?_
                refine gAst (D := D) hx hb hK hP (mD hq) hS 9 0 mAr9 rfl h.1 dX9_layTables_95 (mSA9 _) (fun H locs hP hS => ?_)
                obtain ⟨F33, eF33⟩ : ∃ z : Nat → Nat → Int32, z = upF F29 9 (upd (F29 9) (x1).toNatClampNeg (((1 : Int32) <<< ((F29 4 (x1).toNatClampNeg) &&& 31)) ||| (0 : Int32))) := ⟨_, rfl⟩
                rw [← eF33] at hP
                have h := h.2 F33 eF33
                refine lv_iinc (v := (x1 + (1 : Int32))) (lv' := [(1, .int (x1 + (1 : Int32))), (0, .ref (q 0))]) hx hb dX9_layTables_96 hl (k := 1) rfl rfl (by decide) rfl (fun ls hl => ?_)
                refine lv_goto (tgt := 2) hx hb dX9_layTables_99 (by decide) ?_
                exact ih  _ (x1 + (1 : Int32)) I F33 hs _ _ _  hP hS (lv_sub hl [1, 0] rfl) h K
            · have h := h.2 c30
              refine lv_iconst (v := (0 : Int32)) hx hb dX9_layTables_60 (by decide) ?_
              refine lv_goto (tgt := 72) hx hb dX9_layTables_61 (by decide) ?_
              refine lv_aload_n hx hb dX9_layTables_72 rfl (lv_at hl 0 rfl) ?_
              refine va_get (D := D) (ci := 9) (v := .ref (q 6)) (C := RX9) (T := TX9) (N := 44) hx hb hts (fun _ h9 => List.mem_cons_of_mem _ (List.mem_append_right _ h9)) hown hK hP 0 mAt0 rfl 5 (by decide) (hts _ (List.mem_of_getElem? (l := wsX9_layTables) (i := 3) rfl)) (fun _ h9 => h9) rfl dX9_layTables_73 ?_
              refine lv_iload_n hx hb dX9_layTables_76 rfl (lv_at hl 1 rfl) ?_
              refine va_iald (D := D) hx hb hK hP 6 0 mAr6 rfl h.1 dX9_layTables_77 ?_
              have h := h.2
              refine lv_iconst (v := (-1 : Int32)) hx hb dX9_layTables_78 (by decide) ?_
              refine lv_icmp_ne (tgt := 86) hx hb dX9_layTables_79 (by decide) (fun c34 => ?_) (fun c34 => ?_)
              · have h := h.1 c34
                refine lv_iconst (v := (1 : Int32)) hx hb dX9_layTables_86 (by decide) ?_
                refine lv_aload_n hx hb dX9_layTables_87 rfl (lv_at hl 0 rfl) ?_
                refine va_get (D := D) (ci := 9) (v := .ref (q 6)) (C := RX9) (T := TX9) (N := 44) hx hb hts (fun _ h9 => List.mem_cons_of_mem _ (List.mem_append_right _ h9)) hown hK hP 0 mAt0 rfl 5 (by decide) (hts _ (List.mem_of_getElem? (l := wsX9_layTables) (i := 3) rfl)) (fun _ h9 => h9) rfl dX9_layTables_88 ?_
                refine lv_iload_n hx hb dX9_layTables_91 rfl (lv_at hl 1 rfl) ?_
                refine va_iald (D := D) hx hb hK hP 6 0 mAr6 rfl h.1 dX9_layTables_92 ?_
                have h := h.2
                refine lv_ishl hx hb dX9_layTables_93 ?_
                refine lv_ior hx hb dX9_layTables_94 ?_
                refine gAst (D := D) hx hb hK hP (mD hq) hS 9 0 mAr9 rfl h.1 dX9_layTables_95 (mSA9 _) (fun H locs hP hS => ?_)
                obtain ⟨F35, eF35⟩ : ∃ z : Nat → Nat → Int32, z = upF F29 9 (upd (F29 9) (x1).toNatClampNeg ((0 : Int32) ||| ((1 : Int32) <<< ((F29 6 (x1).toNatClampNeg) &&& 31)))) := ⟨_, rfl⟩
                rw [← eF35] at hP
                have h := h.2 F35 eF35
                refine lv_iinc (v := (x1 + (1 : Int32))) (lv' := [(1, .int (x1 + (1 : Int32))), (0, .ref (q 0))]) hx hb dX9_layTables_96 hl (k := 1) rfl rfl (by decide) rfl (fun ls hl => ?_)
                refine lv_goto (tgt := 2) hx hb dX9_layTables_99 (by decide) ?_
                exact ih  _ (x1 + (1 : Int32)) I F35 hs _ _ _  hP hS (lv_sub hl [1, 0] rfl) h K
              · have h := h.2 c34
                refine lv_iconst (v := (0 : Int32)) hx hb dX9_layTables_82 (by decide) ?_
                refine lv_goto (tgt := 94) hx hb dX9_layTables_83 (by decide) ?_
                refine lv_ior hx hb dX9_layTables_94 ?_
                refine gAst (D := D) hx hb hK hP (mD hq) hS 9 0 mAr9 rfl h.1 dX9_layTables_95 (mSA9 _) (fun H locs hP hS => ?_)
                obtain ⟨F36, eF36⟩ : ∃ z : Nat → Nat → Int32, z = upF F29 9 (upd (F29 9) (x1).toNatClampNeg ((0 : Int32) ||| (0 : Int32))) := ⟨_, rfl⟩
                rw [← eF36] at hP
                have h := h.2 F36 eF36
                refine lv_iinc (v := (x1 + (1 : Int32))) (lv' := [(1, .int (x1 + (1 : Int32))), (0, .ref (q 0))]) hx hb dX9_layTables_96 hl (k := 1) rfl rfl (by decide) rfl (fun ls hl => ?_)
                refine lv_goto (tgt := 2) hx hb dX9_layTables_99 (by decide) ?_
                exact ih  _ (x1 + (1 : Int32)) I F36 hs _ _ _  hP hS (lv_sub hl [1, 0] rfl) h K
        · have h := h.2 c19
          refine lv_iconst (v := (0 : Int32)) hx hb dX9_layTables_23 (by decide) ?_
          refine lv_goto (tgt := 28) hx hb dX9_layTables_24 (by decide) ?_
          refine lv_aload_n hx hb dX9_layTables_28 rfl (lv_at hl 0 rfl) ?_
          refine va_get (D := D) (ci := 9) (v := .ref (q 6)) (C := RX9) (T := TX9) (N := 44) hx hb hts (fun _ h9 => List.mem_cons_of_mem _ (List.mem_append_right _ h9)) hown hK hP 0 mAt0 rfl 5 (by decide) (hts _ (List.mem_of_getElem? (l := wsX9_layTables) (i := 3) rfl)) (fun _ h9 => h9) rfl dX9_layTables_29 ?_
          refine lv_iload_n hx hb dX9_layTables_32 rfl (lv_at hl 1 rfl) ?_
          refine va_iald (D := D) hx hb hK hP 6 0 mAr6 rfl h.1 dX9_layTables_33 ?_
          have h := h.2
          refine lv_iconst (v := (-1 : Int32)) hx hb dX9_layTables_34 (by decide) ?_
          refine lv_icmp_ne (tgt := 42) hx hb dX9_layTables_35 (by decide) (fun c37 => ?_) (fun c37 => ?_)
          · have h := h.1 c37
            refine lv_iconst (v := (1 : Int32)) hx hb dX9_layTables_42 (by decide) ?_
            refine lv_iadd hx hb dX9_layTables_43 ?_
            refine gAst (D := D) hx hb hK hP (mD hq) hS 8 0 mAr8 rfl h.1 dX9_layTables_44 (mSA8 _) (fun H locs hP hS => ?_)
            obtain ⟨F38, eF38⟩ : ∃ z : Nat → Nat → Int32, z = upF F 8 (upd (F 8) (x1).toNatClampNeg ((0 : Int32) + (1 : Int32))) := ⟨_, rfl⟩
            rw [← eF38] at hP
            have h := h.2 F38 eF38
            refine lv_aload_n hx hb dX9_layTables_45 rfl (lv_at hl 0 rfl) ?_
            refine va_get (D := D) (ci := 9) (v := .ref (q 9)) (C := RX9) (T := TX9) (N := 44) hx hb hts (fun _ h9 => List.mem_cons_of_mem _ (List.mem_append_right _ h9)) hown hK hP 0 mAt0 rfl 8 (by decide) (hts _ (List.mem_of_getElem? (l := wsX9_layTables) (i := 4) rfl)) (fun _ h9 => h9) rfl dX9_layTables_46 ?_
            refine lv_iload_n hx hb dX9_layTables_49 rfl (lv_at hl 1 rfl) ?_
            refine lv_aload_n hx hb dX9_layTables_50 rfl (lv_at hl 0 rfl) ?_
            refine va_get (D := D) (ci := 9) (v := .ref (q 4)) (C := RX9) (T := TX9) (N := 44) hx hb hts (fun _ h9 => List.mem_cons_of_mem _ (List.mem_append_right _ h9)) hown hK hP 0 mAt0 rfl 3 (by decide) (hts _ (List.mem_of_getElem? (l := wsX9_layTables) (i := 2) rfl)) (fun _ h9 => h9) rfl dX9_layTables_51 ?_
            refine lv_iload_n hx hb dX9_layTables_54 rfl (lv_at hl 1 rfl) ?_
            refine va_iald (D := D) hx hb hK hP 4 0 mAr4 rfl h.1 dX9_layTables_55 ?_
            have h := h.2
            refine lv_iconst (v := (-1 : Int32)) hx hb dX9_layTables_56 (by decide) ?_
            refine lv_icmp_ne (tgt := 64) hx hb dX9_layTables_57 (by decide) (fun c39 => ?_) (fun c39 => ?_)
            · have h := h.1 c39
              refine lv_iconst (v := (1 : Int32)) hx hb dX9_layTables_64 (by decide) ?_
              refine lv_aload_n hx hb dX9_layTables_65 rfl (lv_at hl 0 rfl) ?_
              refine va_get (D := D) (ci := 9) (v := .ref (q 4)) (C := RX9) (T := TX9) (N := 44) hx hb hts (fun _ h9 => List.mem_cons_of_mem _ (List.mem_append_right _ h9)) hown hK hP 0 mAt0 rfl 3 (by decide) (hts _ (List.mem_of_getElem? (l := wsX9_layTables) (i := 2) rfl)) (fun _ h9 => h9) rfl dX9_layTables_66 ?_
              refine lv_iload_n hx hb dX9_layTables_69 rfl (lv_at hl 1 rfl) ?_
              refine va_iald (D := D) hx hb hK hP 4 0 mAr4 rfl h.1 dX9_layTables_70 ?_
              have h := h.2
              refine lv_ishl hx hb dX9_layTables_71 ?_
              refine lv_aload_n hx hb dX9_layTables_72 rfl (lv_at hl 0 rfl) ?_
              refine va_get (D := D) (ci := 9) (v := .ref (q 6)) (C := RX9) (T := TX9) (N := 44) hx hb hts (fun _ h9 => List.mem_cons_of_mem _ (List.mem_append_right _ h9)) hown hK hP 0 mAt0 rfl 5 (by decide) (hts _ (List.mem_of_getElem? (l := wsX9_layTables) (i := 3) rfl)) (fun _ h9 => h9) rfl dX9_layTables_73 ?_
              refine lv_iload_n hx hb dX9_layTables_76 rfl (lv_at hl 1 rfl) ?_
              refine va_iald (D := D) hx hb hK hP 6 0 mAr6 rfl h.1 dX9_layTables_77 ?_
              have h := h.2
              refine lv_iconst (v := (-1 : Int32)) hx hb dX9_layTables_78 (by decide) ?_
              refine lv_icmp_ne (tgt := 86) hx hb dX9_layTables_79 (by decide) (fun c40 => ?_) (fun c40 => ?_)
              · have h := h.1 c40
                refine lv_iconst (v := (1 : Int32)) hx hb dX9_layTables_86 (by decide) ?_
                refine lv_aload_n hx hb dX9_layTables_87 rfl (lv_at hl 0 rfl) ?_
                refine va_get (D := D) (ci := 9) (v := .ref (q 6)) (C := RX9) (T := TX9) (N := 44) hx hb hts (fun _ h9 => List.mem_cons_of_mem _ (List.mem_append_right _ h9)) hown hK hP 0 mAt0 rfl 5 (by decide) (hts _ (List.mem_of_getElem? (l := wsX9_layTables) (i := 3) rfl)) (fun _ h9 => h9) rfl dX9_layTables_88 ?_
                refine lv_iload_n hx hb dX9_layTables_91 rfl (lv_at hl 1 rfl) ?_
                refine va_iald (D := D) hx hb hK hP 6 0 mAr6 rfl h.1 dX9_layTables_92 ?_
                have h := h.2
                refine lv_ishl hx hb dX9_layTables_93 ?_
                refine lv_ior hx hb dX9_layTables_94 ?_
                refine gAst (D := D) hx hb hK hP (mD hq) hS 9 0 mAr9 rfl h.1 dX9_layTables_95 (mSA9 _) (fun H locs hP hS => ?_)
                obtain ⟨F41, eF41⟩ : ∃ z : Nat → Nat → Int32, z = upF F38 9 (upd (F38 9) (x1).toNatClampNeg (((1 : Int32) <<< ((F38 4 (x1).toNatClampNeg) &&& 31)) ||| ((1 : Int32) <<< ((F38 6 (x1).toNatClampNeg) &&& 31)))) := ⟨_, rfl⟩
                rw [← eF41] at hP
                have h := h.2 F41 eF41
                refine lv_iinc (v := (x1 + (1 : Int32))) (lv' := [(1, .int (x1 + (1 : Int32))), (0, .ref (q 0))]) hx hb dX9_layTables_96 hl (k := 1) rfl rfl (by decide) rfl (fun ls hl => ?_)
                refine lv_goto (tgt := 2) hx hb dX9_layTables_99 (by decide) ?_
                exact ih  _ (x1 + (1 : Int32)) I F41 hs _ _ _  hP hS (lv_sub hl [1, 0] rfl) h K
              · have h := h.2 c40
                refine lv_iconst (v := (0 : Int32)) hx hb dX9_layTables_82 (by decide) ?_
                refine lv_goto (tgt := 94) hx hb dX9_layTables_83 (by decide) ?_
                refine lv_ior hx hb dX9_layTables_94 ?_
                refine gAst (D := D) hx hb hK hP (mD hq) hS 9 0 mAr9 rfl h.1 dX9_layTables_95 (mSA9 _) (fun H locs hP hS => ?_)
                obtain ⟨F42, eF42⟩ : ∃ z : Nat → Nat → Int32, z = upF F38 9 (upd (F38 9) (x1).toNatClampNeg (((1 : Int32) <<< ((F38 4 (x1).toNatClampNeg) &&& 31)) ||| (0 : Int32))) := ⟨_, rfl⟩
                rw [← eF42] at hP
                have h := h.2 F42 eF42
                refine lv_iinc (v := (x1 + (1 : Int32))) (lv' := [(1, .int (x1 + (1 : Int32))), (0, .ref (q 0))]) hx hb dX9_layTables_96 hl (k := 1) rfl rfl (by decide) rfl (fun ls hl => ?_)
                refine lv_goto (tgt := 2) hx hb dX9_layTables_99 (by decide) ?_
                exact ih  _ (x1 + (1 : Int32)) I F42 hs _ _ _  hP hS (lv_sub hl [1, 0] rfl) h K
            · have h := h.2 c39
              refine lv_iconst (v := (0 : Int32)) hx hb dX9_layTables_60 (by decide) ?_
              refine lv_goto (tgt := 72) hx hb dX9_layTables_61 (by decide) ?_
              refine lv_aload_n hx hb dX9_layTables_72 rfl (lv_at hl 0 rfl) ?_
              refine va_get (D := D) (ci := 9) (v := .ref (q 6)) (C := RX9) (T := TX9) (N := 44) hx hb hts (fun _ h9 => List.mem_cons_of_mem _ (List.mem_append_right _ h9)) hown hK hP 0 mAt0 rfl 5 (by decide) (hts _ (List.mem_of_getElem? (l := wsX9_layTables) (i := 3) rfl)) (fun _ h9 => h9) rfl dX9_layTables_73 ?_
              refine lv_iload_n hx hb dX9_layTables_76 rfl (lv_at hl 1 rfl) ?_
              refine va_iald (D := D) hx hb hK hP 6 0 mAr6 rfl h.1 dX9_layTables_77 ?_
              have h := h.2
              refine lv_iconst (v := (-1 : Int32)) hx hb dX9_layTables_78 (by decide) ?_
              refine lv_icmp_ne (tgt := 86) hx hb dX9_layTables_79 (by decide) (fun c43 => ?_) (fun c43 => ?_)
              · have h := h.1 c43
                refine lv_iconst (v := (1 : Int32)) hx hb dX9_layTables_86 (by decide) ?_
                refine lv_aload_n hx hb dX9_layTables_87 rfl (lv_at hl 0 rfl) ?_
                refine va_get (D := D) (ci := 9) (v := .ref (q 6)) (C := RX9) (T := TX9) (N := 44) hx hb hts (fun _ h9 => List.mem_cons_of_mem _ (List.mem_append_right _ h9)) hown hK hP 0 mAt0 rfl 5 (by decide) (hts _ (List.mem_of_getElem? (l := wsX9_layTables) (i := 3) rfl)) (fun _ h9 => h9) rfl dX9_layTables_88 ?_
                refine lv_iload_n hx hb dX9_layTables_91 rfl (lv_at hl 1 rfl) ?_
                refine va_iald (D := D) hx hb hK hP 6 0 mAr6 rfl h.1 dX9_layTables_92 ?_
                have h := h.2
                refine lv_ishl hx hb dX9_layTables_93 ?_
                refine lv_ior hx hb dX9_layTables_94 ?_
                refine gAst (D := D) hx hb hK hP (mD hq) hS 9 0 mAr9 rfl h.1 dX9_layTables_95 (mSA9 _) (fun H locs hP hS => ?_)
                obtain ⟨F44, eF44⟩ : ∃ z : Nat → Nat → Int32, z = upF F38 9 (upd (F38 9) (x1).toNatClampNeg ((0 : Int32) ||| ((1 : Int32) <<< ((F38 6 (x1).toNatClampNeg) &&& 31)))) := ⟨_, rfl⟩
                rw [← eF44] at hP
                have h := h.2 F44 eF44
                refine lv_iinc (v := (x1 + (1 : Int32))) (lv' := [(1, .int (x1 + (1 : Int32))), (0, .ref (q 0))]) hx hb dX9_layTables_96 hl (k := 1) rfl rfl (by decide) rfl (fun ls hl => ?_)
                refine lv_goto (tgt := 2) hx hb dX9_layTables_99 (by decide) ?_
                exact ih  _ (x1 + (1 : Int32)) I F44 hs _ _ _  hP hS (lv_sub hl [1, 0] rfl) h K
              · have h := h.2 c43
                refine lv_iconst (v := (0 : Int32)) hx hb dX9_layTables_82 (by decide) ?_
                refine lv_goto (tgt := 94) hx hb dX9_layTables_83 (by decide) ?_
                refine lv_ior hx hb dX9_layTables_94 ?_
                refine gAst (D := D) hx hb hK hP (mD hq) hS 9 0 mAr9 rfl h.1 dX9_layTables_95 (mSA9 _) (fun H locs hP hS => ?_)
                obtain ⟨F45, eF45⟩ : ∃ z : Nat → Nat → Int32, z = upF F38 9 (upd (F38 9) (x1).toNatClampNeg ((0 : Int32) ||| (0 : Int32))) := ⟨_, rfl⟩
                rw [← eF45] at hP
                have h := h.2 F45 eF45
                refine lv_iinc (v := (x1 + (1 : Int32))) (lv' := [(1, .int (x1 + (1 : Int32))), (0, .ref (q 0))]) hx hb dX9_layTables_96 hl (k := 1) rfl rfl (by decide) rfl (fun ls hl => ?_)
                refine lv_goto (tgt := 2) hx hb dX9_layTables_99 (by decide) ?_
                exact ih  _ (x1 + (1 : Int32)) I F45 hs _ _ _  hP hS (lv_sub hl [1, 0] rfl) h K
          · have h := h.2 c37
            refine lv_iconst (v := (0 : Int32)) hx hb dX9_layTables_38 (by decide) ?_
            refine lv_goto (tgt := 43) hx hb dX9_layTables_39 (by decide) ?_
            refine lv_iadd hx hb dX9_layTables_43 ?_
            refine gAst (D := D) hx hb hK hP (mD hq) hS 8 0 mAr8 rfl h.1 dX9_layTables_44 (mSA8 _) (fun H locs hP hS => ?_)
            obtain ⟨F46, eF46⟩ : ∃ z : Nat → Nat → Int32, z = upF F 8 (upd (F 8) (x1).toNatClampNeg ((0 : Int32) + (0 : Int32))) := ⟨_, rfl⟩
            rw [← eF46] at hP
            have h := h.2 F46 eF46
            refine lv_aload_n hx hb dX9_layTables_45 rfl (lv_at hl 0 rfl) ?_
            refine va_get (D := D) (ci := 9) (v := .ref (q 9)) (C := RX9) (T := TX9) (N := 44) hx hb hts (fun _ h9 => List.mem_cons_of_mem _ (List.mem_append_right _ h9)) hown hK hP 0 mAt0 rfl 8 (by decide) (hts _ (List.mem_of_getElem? (l := wsX9_layTables) (i := 4) rfl)) (fun _ h9 => h9) rfl dX9_layTables_46 ?_
            refine lv_iload_n hx hb dX9_layTables_49 rfl (lv_at hl 1 rfl) ?_
            refine lv_aload_n hx hb dX9_layTables_50 rfl (lv_at hl 0 rfl) ?_
            refine va_get (D := D) (ci := 9) (v := .ref (q 4)) (C := RX9) (T := TX9) (N := 44) hx hb hts (fun _ h9 => List.mem_cons_of_mem _ (List.mem_append_right _ h9)) hown hK hP 0 mAt0 rfl 3 (by decide) (hts _ (List.mem_of_getElem? (l := wsX9_layTables) (i := 2) rfl)) (fun _ h9 => h9) rfl dX9_layTables_51 ?_
            refine lv_iload_n hx hb dX9_layTables_54 rfl (lv_at hl 1 rfl) ?_
            refine va_iald (D := D) hx hb hK hP 4 0 mAr4 rfl h.1 dX9_layTables_55 ?_
            have h := h.2
            refine lv_iconst (v := (-1 : Int32)) hx hb dX9_layTables_56 (by decide) ?_
            refine lv_icmp_ne (tgt := 64) hx hb dX9_layTables_57 (by decide) (fun c47 => ?_) (fun c47 => ?_)
            · have h := h.1 c47
              refine lv_iconst (v := (1 : Int32)) hx hb dX9_layTables_64 (by decide) ?_
              refine lv_aload_n hx hb dX9_layTables_65 rfl (lv_at hl 0 rfl) ?_
              refine va_get (D := D) (ci := 9) (v := .ref (q 4)) (C := RX9) (T := TX9) (N := 44) hx hb hts (fun _ h9 => List.mem_cons_of_mem _ (List.mem_append_right _ h9)) hown hK hP 0 mAt0 rfl 3 (by decide) (hts _ (List.mem_of_getElem? (l := wsX9_layTables) (i := 2) rfl)) (fun _ h9 => h9) rfl dX9_layTables_66 ?_
              refine lv_iload_n hx hb dX9_layTables_69 rfl (lv_at hl 1 rfl) ?_
              refine va_iald (D := D) hx hb hK hP 4 0 mAr4 rfl h.1 dX9_layTables_70 ?_
              have h := h.2
              refine lv_ishl hx hb dX9_layTables_71 ?_
              refine lv_aload_n hx hb dX9_layTables_72 rfl (lv_at hl 0 rfl) ?_
              refine va_get (D := D) (ci := 9) (v := .ref (q 6)) (C := RX9) (T := TX9) (N := 44) hx hb hts (fun _ h9 => List.mem_cons_of_mem _ (List.mem_append_right _ h9)) hown hK hP 0 mAt0 rfl 5 (by decide) (hts _ (List.mem_of_getElem? (l := wsX9_layTables) (i := 3) rfl)) (fun _ h9 => h9) rfl dX9_layTables_73 ?_
              refine lv_iload_n hx hb dX9_layTables_76 rfl (lv_at hl 1 rfl) ?_
              refine va_iald (D := D) hx hb hK hP 6 0 mAr6 rfl h.1 dX9_layTables_77 ?_
              have h := h.2
              refine lv_iconst (v := (-1 : Int32)) hx hb dX9_layTables_78 (by decide) ?_
              refine lv_icmp_ne (tgt := 86) hx hb dX9_layTables_79 (by decide) (fun c48 => ?_) (fun c48 => ?_)
              · have h := h.1 c48
                refine lv_iconst (v := (1 : Int32)) hx hb dX9_layTables_86 (by decide) ?_
                refine lv_aload_n hx hb dX9_layTables_87 rfl (lv_at hl 0 rfl) ?_
                refine va_get (D := D) (ci := 9) (v := .ref (q 6)) (C := RX9) (T := TX9) (N := 44) hx hb hts (fun _ h9 => List.mem_cons_of_mem _ (List.mem_append_right _ h9)) hown hK hP 0 mAt0 rfl 5 (by decide) (hts _ (List.mem_of_getElem? (l := wsX9_layTables) (i := 3) rfl)) (fun _ h9 => h9) rfl dX9_layTables_88 ?_
                refine lv_iload_n hx hb dX9_layTables_91 rfl (lv_at hl 1 rfl) ?_
                refine va_iald (D := D) hx hb hK hP 6 0 mAr6 rfl h.1 dX9_layTables_92 ?_
                have h := h.2
                refine lv_ishl hx hb dX9_layTables_93 ?_
                refine lv_ior hx hb dX9_layTables_94 ?_
                refine gAst (D := D) hx hb hK hP (mD hq) hS 9 0 mAr9 rfl h.1 dX9_layTables_95 (mSA9 _) (fun H locs hP hS => ?_)
                obtain ⟨F49, eF49⟩ : ∃ z : Nat → Nat → Int32, z = upF F46 9 (upd (F46 9) (x1).toNatClampNeg (((1 : Int32) <<< ((F46 4 (x1).toNatClampNeg) &&& 31)) ||| ((1 : Int32) <<< ((F46 6 (x1).toNatClampNeg) &&& 31)))) := ⟨_, rfl⟩
                rw [← eF49] at hP
                have h := h.2 F49 eF49
                refine lv_iinc (v := (x1 + (1 : Int32))) (lv' := [(1, .int (x1 + (1 : Int32))), (0, .ref (q 0))]) hx hb dX9_layTables_96 hl (k := 1) rfl rfl (by decide) rfl (fun ls hl => ?_)
                refine lv_goto (tgt := 2) hx hb dX9_layTables_99 (by decide) ?_
                exact ih  _ (x1 + (1 : Int32)) I F49 hs _ _ _  hP hS (lv_sub hl [1, 0] rfl) h K
              · have h := h.2 c48
                refine lv_iconst (v := (0 : Int32)) hx hb dX9_layTables_82 (by decide) ?_
                refine lv_goto (tgt := 94) hx hb dX9_layTables_83 (by decide) ?_
                refine lv_ior hx hb dX9_layTables_94 ?_
                refine gAst (D := D) hx hb hK hP (mD hq) hS 9 0 mAr9 rfl h.1 dX9_layTables_95 (mSA9 _) (fun H locs hP hS => ?_)
                obtain ⟨F50, eF50⟩ : ∃ z : Nat → Nat → Int32, z = upF F46 9 (upd (F46 9) (x1).toNatClampNeg (((1 : Int32) <<< ((F46 4 (x1).toNatClampNeg) &&& 31)) ||| (0 : Int32))) := ⟨_, rfl⟩
                rw [← eF50] at hP
                have h := h.2 F50 eF50
                refine lv_iinc (v := (x1 + (1 : Int32))) (lv' := [(1, .int (x1 + (1 : Int32))), (0, .ref (q 0))]) hx hb dX9_layTables_96 hl (k := 1) rfl rfl (by decide) rfl (fun ls hl => ?_)
                refine lv_goto (tgt := 2) hx hb dX9_layTables_99 (by decide) ?_
                exact ih  _ (x1 + (1 : Int32)) I F50 hs _ _ _  hP hS (lv_sub hl [1, 0] rfl) h K
            · have h := h.2 c47
              refine lv_iconst (v := (0 : Int32)) hx hb dX9_layTables_60 (by decide) ?_
              refine lv_goto (tgt := 72) hx hb dX9_layTables_61 (by decide) ?_
              refine lv_aload_n hx hb dX9_layTables_72 rfl (lv_at hl 0 rfl) ?_
              refine va_get (D := D) (ci := 9) (v := .ref (q 6)) (C := RX9) (T := TX9) (N := 44) hx hb hts (fun _ h9 => List.mem_cons_of_mem _ (List.mem_append_right _ h9)) hown hK hP 0 mAt0 rfl 5 (by decide) (hts _ (List.mem_of_getElem? (l := wsX9_layTables) (i := 3) rfl)) (fun _ h9 => h9) rfl dX9_layTables_73 ?_
              refine lv_iload_n hx hb dX9_layTables_76 rfl (lv_at hl 1 rfl) ?_
              refine va_iald (D := D) hx hb hK hP 6 0 mAr6 rfl h.1 dX9_layTables_77 ?_
              have h := h.2
              refine lv_iconst (v := (-1 : Int32)) hx hb dX9_layTables_78 (by decide) ?_
              refine lv_icmp_ne (tgt := 86) hx hb dX9_layTables_79 (by decide) (fun c51 => ?_) (fun c51 => ?_)
              · have h := h.1 c51
                refine lv_iconst (v := (1 : Int32)) hx hb dX9_layTables_86 (by decide) ?_
                refine lv_aload_n hx hb dX9_layTables_87 rfl (lv_at hl 0 rfl) ?_
                refine va_get (D := D) (ci := 9) (v := .ref (q 6)) (C := RX9) (T := TX9) (N := 44) hx hb hts (fun _ h9 => List.mem_cons_of_mem _ (List.mem_append_right _ h9)) hown hK hP 0 mAt0 rfl 5 (by decide) (hts _ (List.mem_of_getElem? (l := wsX9_layTables) (i := 3) rfl)) (fun _ h9 => h9) rfl dX9_layTables_88 ?_
                refine lv_iload_n hx hb dX9_layTables_91 rfl (lv_at hl 1 rfl) ?_
                refine va_iald (D := D) hx hb hK hP 6 0 mAr6 rfl h.1 dX9_layTables_92 ?_
                have h := h.2
                refine lv_ishl hx hb dX9_layTables_93 ?_
                refine lv_ior hx hb dX9_layTables_94 ?_
                refine gAst (D := D) hx hb hK hP (mD hq) hS 9 0 mAr9 rfl h.1 dX9_layTables_95 (mSA9 _) (fun H locs hP hS => ?_)
                obtain ⟨F52, eF52⟩ : ∃ z : Nat → Nat → Int32, z = upF F46 9 (upd (F46 9) (x1).toNatClampNeg ((0 : Int32) ||| ((1 : Int32) <<< ((F46 6 (x1).toNatClampNeg) &&& 31)))) := ⟨_, rfl⟩
                rw [← eF52] at hP
                have h := h.2 F52 eF52
                refine lv_iinc (v := (x1 + (1 : Int32))) (lv' := [(1, .int (x1 + (1 : Int32))), (0, .ref (q 0))]) hx hb dX9_layTables_96 hl (k := 1) rfl rfl (by decide) rfl (fun ls hl => ?_)
                refine lv_goto (tgt := 2) hx hb dX9_layTables_99 (by decide) ?_
                exact ih  _ (x1 + (1 : Int32)) I F52 hs _ _ _  hP hS (lv_sub hl [1, 0] rfl) h K
              · have h := h.2 c51
                refine lv_iconst (v := (0 : Int32)) hx hb dX9_layTables_82 (by decide) ?_
                refine lv_goto (tgt := 94) hx hb dX9_layTables_83 (by decide) ?_
                refine lv_ior hx hb dX9_layTables_94 ?_
                refine gAst (D := D) hx hb hK hP (mD hq) hS 9 0 mAr9 rfl h.1 dX9_layTables_95 (mSA9 _) (fun H locs hP hS => ?_)
                obtain ⟨F53, eF53⟩ : ∃ z : Nat → Nat → Int32, z = upF F46 9 (upd (F46 9) (x1).toNatClampNeg ((0 : Int32) ||| (0 : Int32))) := ⟨_, rfl⟩
                rw [← eF53] at hP
                have h := h.2 F53 eF53
                refine lv_iinc (v := (x1 + (1 : Int32))) (lv' := [(1, .int (x1 + (1 : Int32))), (0, .ref (q 0))]) hx hb dX9_layTables_96 hl (k := 1) rfl rfl (by decide) rfl (fun ls hl => ?_)
                refine lv_goto (tgt := 2) hx hb dX9_layTables_99 (by decide) ?_
                exact ih  _ (x1 + (1 : Int32)) I F53 hs _ _ _  hP hS (lv_sub hl [1, 0] rfl) h K
  refine lv_iconst (v := (0 : Int32)) hx hb dX9_layTables_0 (by decide) ?_
  refine lv_istore_n (lv' := [(1, .int (0 : Int32)), (0, .ref (q 0))]) hx hb dX9_layTables_1 rfl hl (by decide) rfl (fun ls hl => ?_)
  obtain ⟨n, h⟩ := h
  refine L2 n  _ (0 : Int32) I F hs _ _ _  hP hS (lv_sub hl [1, 0] rfl) h (fun y54 I55 F56 hs57 H locs ls  hP hS hl h => ?_)
  refine lv_iconst (v := (0 : Int32)) hx hb dX9_layTables_102 (by decide) ?_
  refine lv_istore_n (lv' := [(1, .int (0 : Int32)), (0, .ref (q 0))]) hx hb dX9_layTables_103 rfl hl (by decide) rfl (fun ls hl => ?_)
  obtain ⟨n, h⟩ := h
  refine L104 n  _ (0 : Int32) I55 F56 hs57 _ _ _  hP hS (lv_sub hl [1, 0] rfl) h (fun y58 I59 F60 hs61 H locs ls  hP hS hl h => ?_)
  exact hret (I59, F60, hs61) _ _ _ _ dX9_layTables_211 hP hS h
def w_X9_in (a0 : Int64) (a2 : Int64) (a4 : Int64) (I : Nat → Int32) (F : Nat → Nat → Int32) (hs : Int64) (post : Int32 → Prop) : Prop :=
  (((lg_cmp a0 a2) < 0 → post (0 : Int32)) ∧ (¬ (lg_cmp a0 a2) < 0 → ((0 < (lg_cmp a0 a4) → post (0 : Int32)) ∧ (¬ 0 < (lg_cmp a0 a4) → post (1 : Int32)))))
set_option maxHeartbeats 4000000 in
set_option maxRecDepth 100000 in
theorem c_X9_in (l : Launch) (D : va_G) (q : Nat → Nat) (cI cO : ClassId) (hq : mOk q) (a0 : Int64) (a2 : Int64) (a4 : Int64)  (I : Nat → Int32) (F : Nat → Nat → Int32) (hs : Int64) (post : Int32 → Prop) (h : w_X9_in a0 a2 a4 I F hs post) : Met l yX9_in wsX9_in ({ frames := 0, cells := 0, slots := 0, locals := 0 } : Room) (gPre D (mTys cI) (mW q cI cO I F hs) mEnv [.long a0, .long a2, .long a4]) (va_Qi (fun r (_ : Unit) => post r) (gB D (fun _ : Unit => mW q cI cO I F hs)) (mA q)) 0 0 (mA q) := by
  refine gMetZ (by decide) rfl (Nat.le_of_ble_eq_true rfl) ?_
  intro p e R s m args below meth c Q ls hR hx hb hml hown hts hK hE hP hl hret
  have hRf : 0 ≤ R.frames := by subst hR; exact Nat.le_refl _
  have hRl : 0 ≤ R.locals := by subst hR; exact Nat.le_refl _
  have hown : s.vm.findClass RX9 = some m.cls := hown
  have hl : lv_has ls 6 [(0, .long a0), (2, .long a2), (4, .long a4)] := hl
  have hS : va_S (mA q) s.heap s.heap [] := va_S.rf
  have hP : va_P D vwCl (mW q cI cO I F hs) s.heap := hP
  refine lv_lload_n hx hb dX9_in_0 rfl (lv_at hl 0 rfl) ?_
  refine lv_lload_n hx hb dX9_in_1 rfl (lv_at hl 1 rfl) ?_
  refine W.lcmp hx hb dX9_in_2 ?_
  refine lv_if_lt (tgt := 17) hx hb dX9_in_3 (by decide) (fun c1 => ?_) (fun c1 => ?_)
  · have h := h.1 c1
    refine lv_iconst (v := (0 : Int32)) hx hb dX9_in_17 (by decide) ?_
    exact hret (0 : Int32) () _ _ _ _ dX9_in_18 hP hS (by decide) h
  · have h := h.2 c1
    refine lv_lload_n hx hb dX9_in_6 rfl (lv_at hl 0 rfl) ?_
    refine lv_lload hx hb dX9_in_7 (lv_at hl 2 rfl) ?_
    refine W.lcmp hx hb dX9_in_9 ?_
    refine lv_if_gt (tgt := 17) hx hb dX9_in_10 (by decide) (fun c2 => ?_) (fun c2 => ?_)
    · have h := h.1 c2
      refine lv_iconst (v := (0 : Int32)) hx hb dX9_in_17 (by decide) ?_
      exact hret (0 : Int32) () _ _ _ _ dX9_in_18 hP hS (by decide) h
    · have h := h.2 c2
      refine lv_iconst (v := (1 : Int32)) hx hb dX9_in_13 (by decide) ?_
      refine lv_goto (tgt := 18) hx hb dX9_in_14 (by decide) ?_
      exact hret (1 : Int32) () _ _ _ _ dX9_in_18 hP hS (by decide) h
def w_X9_letter (a1 : Int32) (I : Nat → Int32) (F : Nat → Nat → Int32) (hs : Int64) (post : Int32 → (Nat → Int32) → (Nat → Nat → Int32) → Int64 → Prop) : Prop :=
  w_X9_in ((a1).toInt64) (1 : Int64) (126 : Int64) I F hs (fun (r1 : Int32) => ((¬ r1 = 0 → ((¬ (I 0) = (56 : Int32) → vp_in (I 0) 56 ∧ ∀ F4 : Nat → Nat → Int32, F4 = upF F 11 (upd (F 11) ((I 0)).toNatClampNeg a1) → ∀ I5 : Nat → Int32, I5 = upd I 0 ((I 0) + (1 : Int32)) → post (I5 0) I5 F4 hs) ∧ ((I 0) = (56 : Int32) → post (-104 : Int32) I F hs))) ∧ (r1 = 0 → post (-102 : Int32) I F hs)))
set_option maxHeartbeats 4000000 in
set_option maxRecDepth 100000 in
theorem c_X9_letter (l : Launch) (D : va_G) (q : Nat → Nat) (cI cO : ClassId) (hq : mOk q) (a1 : Int32)  (I : Nat → Int32) (F : Nat → Nat → Int32) (hs : Int64) (post : Int32 → (Nat → Int32) → (Nat → Nat → Int32) → Int64 → Prop) (h : w_X9_letter a1 I F hs post) : Met l yX9_letter wsX9_letter ({ frames := 1, cells := 0, slots := 0, locals := 25 } : Room) (gPre D (mTys cI) (mW q cI cO I F hs) mEnv [.ref (q 0), .int a1]) (va_Qi (fun r (u : mS) => post r u.1 u.2.1 u.2.2) (gB D (fun u : mS => mW q cI cO u.1 u.2.1 u.2.2)) (mA q)) 0 0 (mA q) := by
  refine gMetI (by decide) rfl (Nat.le_of_ble_eq_true rfl) ?_
  intro p e R s m args below meth c Q ls hR hx hb hml hown hts hK hE hP hl hret
  have hRf : 1 ≤ R.frames := by subst hR; exact Nat.le_refl _
  have hRl : 25 ≤ R.locals := by subst hR; exact Nat.le_refl _
  have hown : s.vm.findClass RX9 = some m.cls := hown
  have hl : lv_has ls 2 [(0, .ref (q 0)), (1, .int a1)] := hl
  have hS : va_S (mA q) s.heap s.heap [] := va_S.rf
  have hP : va_P D vwCl (mW q cI cO I F hs) s.heap := hP
  refine lv_iload_n hx hb dX9_letter_0 rfl (lv_at hl 1 rfl) ?_
  refine lv_i2l (v := (a1).toInt64) hx hb dX9_letter_1 rfl ?_
  refine lv_lconst (v := (1 : Int64)) hx hb dX9_letter_2 (by decide) ?_
  refine lv_ldc2 (v := (126 : Int64)) hx hb hown (hts _ (List.mem_of_getElem? (l := wsX9_letter) (i := 1) rfl)) dX9_letter_3 ?_
  refine gCallI (D := D) (va_runS (As := [.long ((a1).toInt64), .long (1 : Int64), .long (126 : Int64)]) (rest := []) ⟨hx, hb, hml, hown, hts⟩ (c_X9_in l D q cI cO hq ((a1).toInt64) (1 : Int64) (126 : Int64)  I F hs _ h) (va_cwS 3 hts gX9_letter_X9_in rfl rfl rfl (by decide +kernel) ⟨Nat.le_trans (Nat.le_of_ble_eq_true rfl) hRf, Nat.le_trans (Nat.le_of_ble_eq_true rfl) hRl⟩) (gPreS mEok hE hK hP hS) rfl rfl hl.1 rfl (lv_room (Nat.le_of_ble_eq_true rfl)) dX9_letter_6 ⟨Nat.zero_le _, Nat.zero_le _⟩) hS (fun r1 _ H locs hP hS h => ?_)
  have hP : va_P D vwCl (mW q cI cO I F hs) H := hP
  refine lv_if_ne (tgt := 15) hx hb dX9_letter_9 (by decide) (fun c2 => ?_) (fun c2 => ?_)
  · have h := h.1 c2
    refine lv_aload_n hx hb dX9_letter_15 rfl (lv_at hl 0 rfl) ?_
    refine va_get (D := D) (ci := 9) (v := .int (I 0)) (C := RX9) (T := TX9) (N := 44) hx hb hts (fun _ h9 => List.mem_cons_of_mem _ (List.mem_append_right _ h9)) hown hK hP 0 mAt0 rfl 11 (by decide) (hts _ (List.mem_of_getElem? (l := wsX9_letter) (i := 2) rfl)) (fun _ h9 => h9) rfl dX9_letter_16 ?_
    refine lv_bipush (v := (56 : Int32)) hx hb dX9_letter_19 (by decide) ?_
    refine lv_icmp_ne (tgt := 27) hx hb dX9_letter_21 (by decide) (fun c3 => ?_) (fun c3 => ?_)
    · have h := h.1 c3
      refine lv_aload_n hx hb dX9_letter_27 rfl (lv_at hl 0 rfl) ?_
      refine va_get (D := D) (ci := 9) (v := .ref (q 11)) (C := RX9) (T := TX9) (N := 44) hx hb hts (fun _ h9 => List.mem_cons_of_mem _ (List.mem_append_right _ h9)) hown hK hP 0 mAt0 rfl 10 (by decide) (hts _ (List.mem_of_getElem? (l := wsX9_letter) (i := 3) rfl)) (fun _ h9 => h9) rfl dX9_letter_28 ?_
      refine lv_aload_n hx hb dX9_letter_31 rfl (lv_at hl 0 rfl) ?_
      refine va_get (D := D) (ci := 9) (v := .int (I 0)) (C := RX9) (T := TX9) (N := 44) hx hb hts (fun _ h9 => List.mem_cons_of_mem _ (List.mem_append_right _ h9)) hown hK hP 0 mAt0 rfl 11 (by decide) (hts _ (List.mem_of_getElem? (l := wsX9_letter) (i := 2) rfl)) (fun _ h9 => h9) rfl dX9_letter_32 ?_
      refine lv_iload_n hx hb dX9_letter_35 rfl (lv_at hl 1 rfl) ?_
      refine gAst (D := D) hx hb hK hP (mD hq) hS 11 0 mAr11 rfl h.1 dX9_letter_36 (mSA11 _) (fun H locs hP hS => ?_)
      obtain ⟨F4, eF4⟩ : ∃ z : Nat → Nat → Int32, z = upF F 11 (upd (F 11) ((I 0)).toNatClampNeg a1) := ⟨_, rfl⟩
      rw [← eF4] at hP
      have h := h.2 F4 eF4
      refine lv_aload_n hx hb dX9_letter_37 rfl (lv_at hl 0 rfl) ?_
      refine lv_dup hx hb dX9_letter_38 rfl ?_
      refine va_get (D := D) (ci := 9) (v := .int (I 0)) (C := RX9) (T := TX9) (N := 44) hx hb hts (fun _ h9 => List.mem_cons_of_mem _ (List.mem_append_right _ h9)) hown hK hP 0 mAt0 rfl 11 (by decide) (hts _ (List.mem_of_getElem? (l := wsX9_letter) (i := 2) rfl)) (fun _ h9 => h9) rfl dX9_letter_39 ?_
      refine lv_iconst (v := (1 : Int32)) hx hb dX9_letter_42 (by decide) ?_
      refine lv_iadd hx hb dX9_letter_43 ?_
      refine gPut (D := D) (ci := 9) (ty := .int) (C := RX9) (T := TX9) (N := 44) hx hb hts (fun _ h9 => List.mem_cons_of_mem _ (List.mem_append_right _ h9)) tyX9 tyX9_ok nmX9 hown hK hP (mD hq) hS 0 mAt0 rfl 11 (by decide) (hts _ (List.mem_of_getElem? (l := wsX9_letter) (i := 2) rfl)) (fun _ h9 => h9) rfl (by decide +kernel) rfl rfl (Nat.le_of_ble_eq_true rfl) dX9_letter_44 (mSet0 ((I 0) + (1 : Int32))) (fun H locs hP hS => ?_)
      obtain ⟨I5, eI5⟩ : ∃ z : Nat → Int32, z = upd I 0 ((I 0) + (1 : Int32)) := ⟨_, rfl⟩
      rw [← eI5] at hP
      have h := h I5 eI5
      refine lv_aload_n hx hb dX9_letter_47 rfl (lv_at hl 0 rfl) ?_
      refine va_get (D := D) (ci := 9) (v := .int (I5 0)) (C := RX9) (T := TX9) (N := 44) hx hb hts (fun _ h9 => List.mem_cons_of_mem _ (List.mem_append_right _ h9)) hown hK hP 0 mAt0 rfl 11 (by decide) (hts _ (List.mem_of_getElem? (l := wsX9_letter) (i := 2) rfl)) (fun _ h9 => h9) rfl dX9_letter_48 ?_
      exact hret (I5 0) (I5, F4, hs) _ _ _ _ dX9_letter_51 hP hS h
    · have h := h.2 c3
      refine lv_bipush (v := (-104 : Int32)) hx hb dX9_letter_24 (by decide) ?_
      exact hret (-104 : Int32) (I, F, hs) _ _ _ _ dX9_letter_26 hP hS h
  · have h := h.2 c2
    refine lv_bipush (v := (-102 : Int32)) hx hb dX9_letter_12 (by decide) ?_
    exact hret (-102 : Int32) (I, F, hs) _ _ _ _ dX9_letter_14 hP hS h
def w_X9_blank  (I : Nat → Int32) (F : Nat → Nat → Int32) (hs : Int64) (post : Int32 → (Nat → Int32) → (Nat → Nat → Int32) → Int64 → Prop) : Prop :=
  ∀ v1 : Int32, v1 = (I 0) → ∀ I2 : Nat → Int32, I2 = upd I 0 (0 : Int32) → post v1 I2 F hs
set_option maxHeartbeats 4000000 in
set_option maxRecDepth 100000 in
theorem c_X9_blank (l : Launch) (D : va_G) (q : Nat → Nat) (cI cO : ClassId) (hq : mOk q)   (I : Nat → Int32) (F : Nat → Nat → Int32) (hs : Int64) (post : Int32 → (Nat → Int32) → (Nat → Nat → Int32) → Int64 → Prop) (h : w_X9_blank  I F hs post) : Met l yX9_blank wsX9_blank ({ frames := 0, cells := 0, slots := 0, locals := 0 } : Room) (gPre D (mTys cI) (mW q cI cO I F hs) mEnv [.ref (q 0)]) (va_Qi (fun r (u : mS) => post r u.1 u.2.1 u.2.2) (gB D (fun u : mS => mW q cI cO u.1 u.2.1 u.2.2)) (mA q)) 0 0 (mA q) := by
  refine gMetI (by decide) rfl (Nat.le_of_ble_eq_true rfl) ?_
  intro p e R s m args below meth c Q ls hR hx hb hml hown hts hK hE hP hl hret
  have hRf : 0 ≤ R.frames := by subst hR; exact Nat.le_refl _
  have hRl : 0 ≤ R.locals := by subst hR; exact Nat.le_refl _
  have hown : s.vm.findClass RX9 = some m.cls := hown
  have hl : lv_has ls 2 [(0, .ref (q 0))] := hl
  have hS : va_S (mA q) s.heap s.heap [] := va_S.rf
  have hP : va_P D vwCl (mW q cI cO I F hs) s.heap := hP
  refine lv_aload_n hx hb dX9_blank_0 rfl (lv_at hl 0 rfl) ?_
  refine va_get (D := D) (ci := 9) (v := .int (I 0)) (C := RX9) (T := TX9) (N := 44) hx hb hts (fun _ h9 => List.mem_cons_of_mem _ (List.mem_append_right _ h9)) hown hK hP 0 mAt0 rfl 11 (by decide) (hts _ (List.mem_of_getElem? (l := wsX9_blank) (i := 1) rfl)) (fun _ h9 => h9) rfl dX9_blank_1 ?_
  refine lv_topi (fun v1 ev1 => ?_)
  have h := h v1 ev1
  refine lv_istore_n (lv' := [(1, .int v1), (0, .ref (q 0))]) hx hb dX9_blank_4 rfl hl (by decide) rfl (fun ls hl => ?_)
  refine lv_aload_n hx hb dX9_blank_5 rfl (lv_at hl 1 rfl) ?_
  refine lv_iconst (v := (0 : Int32)) hx hb dX9_blank_6 (by decide) ?_
  refine gPut (D := D) (ci := 9) (ty := .int) (C := RX9) (T := TX9) (N := 44) hx hb hts (fun _ h9 => List.mem_cons_of_mem _ (List.mem_append_right _ h9)) tyX9 tyX9_ok nmX9 hown hK hP (mD hq) hS 0 mAt0 rfl 11 (by decide) (hts _ (List.mem_of_getElem? (l := wsX9_blank) (i := 1) rfl)) (fun _ h9 => h9) rfl (by decide +kernel) rfl rfl (Nat.le_of_ble_eq_true rfl) dX9_blank_7 (mSet0 (0 : Int32)) (fun H locs hP hS => ?_)
  obtain ⟨I2, eI2⟩ : ∃ z : Nat → Int32, z = upd I 0 (0 : Int32) := ⟨_, rfl⟩
  rw [← eI2] at hP
  have h := h I2 eI2
  refine lv_iload_n hx hb dX9_blank_10 rfl (lv_at hl 0 rfl) ?_
  exact hret v1 (I2, F, hs) _ _ _ _ dX9_blank_11 hP hS h
def w_X9_kindBy (a0 : Int32) (I : Nat → Int32) (F : Nat → Nat → Int32) (hs : Int64) (post : Int32 → Prop) : Prop :=
  ((a0 = (98 : Int32) → post (4 : Int32)) ∧ (a0 = (99 : Int32) → post (0 : Int32)) ∧ (a0 = (103 : Int32) → post (1 : Int32)) ∧ (a0 = (104 : Int32) → post (2 : Int32)) ∧ (a0 = (113 : Int32) → post (3 : Int32)) ∧ (¬ a0 = (98 : Int32) → ¬ a0 = (99 : Int32) → ¬ a0 = (103 : Int32) → ¬ a0 = (104 : Int32) → ¬ a0 = (113 : Int32) → post (-1 : Int32)))
set_option maxHeartbeats 4000000 in
set_option maxRecDepth 100000 in
theorem c_X9_kindBy (l : Launch) (D : va_G) (q : Nat → Nat) (cI cO : ClassId) (hq : mOk q) (a0 : Int32)  (I : Nat → Int32) (F : Nat → Nat → Int32) (hs : Int64) (post : Int32 → Prop) (h : w_X9_kindBy a0 I F hs post) : Met l yX9_kindBy wsX9_kindBy ({ frames := 0, cells := 0, slots := 0, locals := 0 } : Room) (gPre D (mTys cI) (mW q cI cO I F hs) mEnv [.int a0]) (va_Qi (fun r (_ : Unit) => post r) (gB D (fun _ : Unit => mW q cI cO I F hs)) (mA q)) 0 0 (mA q) := by
  refine gMetI (by decide) rfl (Nat.le_of_ble_eq_true rfl) ?_
  intro p e R s m args below meth c Q ls hR hx hb hml hown hts hK hE hP hl hret
  have hRf : 0 ≤ R.frames := by subst hR; exact Nat.le_refl _
  have hRl : 0 ≤ R.locals := by subst hR; exact Nat.le_refl _
  have hown : s.vm.findClass RX9 = some m.cls := hown
  have hl : lv_has ls 1 [(0, .int a0)] := hl
  have hS : va_S (mA q) s.heap s.heap [] := va_S.rf
  have hP : va_P D vwCl (mW q cI cO I F hs) s.heap := hP
  refine lv_iload_n hx hb dX9_kindBy_0 rfl (lv_at hl 0 rfl) ?_
  by_cases c1_0 : a0 = (98 : Int32)
  · have h := h.1 c1_0
    refine lv_lookup (tgt := 60) (off := 59) hx hb dX9_kindBy_1 (by decide) (by rw [c1_0]; rfl) (by decide) ?_
    refine lv_iconst (v := (4 : Int32)) hx hb dX9_kindBy_60 (by decide) ?_
    exact hret (4 : Int32) () _ _ _ _ dX9_kindBy_61 hP hS h
  by_cases c1_1 : a0 = (99 : Int32)
  · have h := h.2.1 c1_1
    refine lv_lookup (tgt := 52) (off := 51) hx hb dX9_kindBy_1 (by decide) (by rw [c1_1]; rfl) (by decide) ?_
    refine lv_iconst (v := (0 : Int32)) hx hb dX9_kindBy_52 (by decide) ?_
    exact hret (0 : Int32) () _ _ _ _ dX9_kindBy_53 hP hS h
  by_cases c1_2 : a0 = (103 : Int32)
  · have h := h.2.2.1 c1_2
    refine lv_lookup (tgt := 54) (off := 53) hx hb dX9_kindBy_1 (by decide) (by rw [c1_2]; rfl) (by decide) ?_
    refine lv_iconst (v := (1 : Int32)) hx hb dX9_kindBy_54 (by decide) ?_
    exact hret (1 : Int32) () _ _ _ _ dX9_kindBy_55 hP hS h
  by_cases c1_3 : a0 = (104 : Int32)
  · have h := h.2.2.2.1 c1_3
    refine lv_lookup (tgt := 56) (off := 55) hx hb dX9_kindBy_1 (by decide) (by rw [c1_3]; rfl) (by decide) ?_
    refine lv_iconst (v := (2 : Int32)) hx hb dX9_kindBy_56 (by decide) ?_
    exact hret (2 : Int32) () _ _ _ _ dX9_kindBy_57 hP hS h
  by_cases c1_4 : a0 = (113 : Int32)
  · have h := h.2.2.2.2.1 c1_4
    refine lv_lookup (tgt := 58) (off := 57) hx hb dX9_kindBy_1 (by decide) (by rw [c1_4]; rfl) (by decide) ?_
    refine lv_iconst (v := (3 : Int32)) hx hb dX9_kindBy_58 (by decide) ?_
    exact hret (3 : Int32) () _ _ _ _ dX9_kindBy_59 hP hS h
  have h := h.2.2.2.2.2 c1_0 c1_1 c1_2 c1_3 c1_4
  refine lv_lookup (tgt := 62) (off := 61) hx hb dX9_kindBy_1 (by decide) ((lv_osw c1_0 rfl).trans ((lv_osw c1_1 rfl).trans ((lv_osw c1_2 rfl).trans ((lv_osw c1_3 rfl).trans ((lv_osw c1_4 rfl).trans rfl))))) (by decide) ?_
  refine lv_iconst (v := (-1 : Int32)) hx hb dX9_kindBy_62 (by decide) ?_
  exact hret (-1 : Int32) () _ _ _ _ dX9_kindBy_63 hP hS h
