def w_X9_layOptions_B2  (k again : Int32 → (Nat → Int32) → (Nat → Nat → Int32) → Int64 → Prop) (x1 : Int32) (I : Nat → Int32) (F : Nat → Nat → Int32) (hs : Int64) : Prop :=
  (((63 : Int32) ≤ x1 → k x1 I F hs) ∧ (¬ (63 : Int32) ≤ x1 → ∀ v2 : Int32, v2 = (x1 - x1 / (7 : Int32) * (7 : Int32)) → ∀ v3 : Int32, v3 = (x1 / (7 : Int32)) → ((¬ v2 = 0 → vp_in x1 63 ∧ ∀ F5 : Nat → Nat → Int32, F5 = upF F 4 (upd (F 4) (x1).toNatClampNeg ((v2 - (1 : Int32)) / (2 : Int32))) → vp_in x1 63 ∧ ∀ F6 : Nat → Nat → Int32, F6 = upF F5 5 (upd (F5 5) (x1).toNatClampNeg ((1 : Int32) + ((v2 + (1 : Int32)) - (v2 + (1 : Int32)) / (2 : Int32) * (2 : Int32)))) → ((¬ v3 = 0 → vp_in x1 63 ∧ ∀ F8 : Nat → Nat → Int32, F8 = upF F6 6 (upd (F6 6) (x1).toNatClampNeg ((3 : Int32) + ((v3 - (1 : Int32)) / (2 : Int32)))) → vp_in x1 63 ∧ ∀ F9 : Nat → Nat → Int32, F9 = upF F8 7 (upd (F8 7) (x1).toNatClampNeg ((1 : Int32) + ((v3 + (1 : Int32)) - (v3 + (1 : Int32)) / (2 : Int32) * (2 : Int32)))) → again (x1 + (1 : Int32)) I F9 hs) ∧ (v3 = 0 → vp_in x1 63 ∧ ∀ F10 : Nat → Nat → Int32, F10 = upF F6 6 (upd (F6 6) (x1).toNatClampNeg (-1 : Int32)) → vp_in x1 63 ∧ ∀ F11 : Nat → Nat → Int32, F11 = upF F10 7 (upd (F10 7) (x1).toNatClampNeg ((1 : Int32) + ((v3 + (1 : Int32)) - (v3 + (1 : Int32)) / (2 : Int32) * (2 : Int32)))) → again (x1 + (1 : Int32)) I F11 hs))) ∧ (v2 = 0 → vp_in x1 63 ∧ ∀ F12 : Nat → Nat → Int32, F12 = upF F 4 (upd (F 4) (x1).toNatClampNeg (-1 : Int32)) → vp_in x1 63 ∧ ∀ F13 : Nat → Nat → Int32, F13 = upF F12 5 (upd (F12 5) (x1).toNatClampNeg ((1 : Int32) + ((v2 + (1 : Int32)) - (v2 + (1 : Int32)) / (2 : Int32) * (2 : Int32)))) → ((¬ v3 = 0 → vp_in x1 63 ∧ ∀ F15 : Nat → Nat → Int32, F15 = upF F13 6 (upd (F13 6) (x1).toNatClampNeg ((3 : Int32) + ((v3 - (1 : Int32)) / (2 : Int32)))) → vp_in x1 63 ∧ ∀ F16 : Nat → Nat → Int32, F16 = upF F15 7 (upd (F15 7) (x1).toNatClampNeg ((1 : Int32) + ((v3 + (1 : Int32)) - (v3 + (1 : Int32)) / (2 : Int32) * (2 : Int32)))) → again (x1 + (1 : Int32)) I F16 hs) ∧ (v3 = 0 → vp_in x1 63 ∧ ∀ F17 : Nat → Nat → Int32, F17 = upF F13 6 (upd (F13 6) (x1).toNatClampNeg (-1 : Int32)) → vp_in x1 63 ∧ ∀ F18 : Nat → Nat → Int32, F18 = upF F17 7 (upd (F17 7) (x1).toNatClampNeg ((1 : Int32) + ((v3 + (1 : Int32)) - (v3 + (1 : Int32)) / (2 : Int32) * (2 : Int32)))) → again (x1 + (1 : Int32)) I F18 hs))))))
def w_X9_layOptions  (I : Nat → Int32) (F : Nat → Nat → Int32) (hs : Int64) (post : (Nat → Int32) → (Nat → Nat → Int32) → Int64 → Prop) : Prop :=
  gL (fun ag v => w_X9_layOptions_B2  (fun (y19 : Int32) (I20 : Nat → Int32) (F21 : Nat → Nat → Int32) (hs22 : Int64) => post I20 F21 hs22) (fun b0 b1 b2 b3 => ag (b0, b1, b2, b3)) v.1 v.2.1 v.2.2.1 v.2.2.2) ((0 : Int32), I, F, hs)
set_option maxHeartbeats 4000000 in
set_option maxRecDepth 100000 in
theorem c_X9_layOptions (l : Launch) (D : va_G) (q : Nat → Nat) (cI cO : ClassId) (hq : mOk q)   (I : Nat → Int32) (F : Nat → Nat → Int32) (hs : Int64) (post : (Nat → Int32) → (Nat → Nat → Int32) → Int64 → Prop) (h : w_X9_layOptions  I F hs post) : Met l yX9_layOptions wsX9_layOptions ({ frames := 0, cells := 0, slots := 0, locals := 0 } : Room) (gPre D (mTys cI) (mW q cI cO I F hs) mEnv [.ref (q 0)]) (va_Qv (fun (u : mS) => post u.1 u.2.1 u.2.2) (gB D (fun u : mS => mW q cI cO u.1 u.2.1 u.2.2)) (mA q)) 0 0 (mA q) := by
  refine gMetV (by decide) rfl (Nat.le_of_ble_eq_true rfl) ?_
  intro p e R s m args below meth c Q ls hR hx hb hml hown hts hK hE hP hl hret
  have hRf : 0 ≤ R.frames := by subst hR; exact Nat.le_refl _
  have hRl : 0 ≤ R.locals := by subst hR; exact Nat.le_refl _
  have hown : s.vm.findClass RX9 = some m.cls := hown
  have hl : lv_has ls 4 [(0, .ref (q 0))] := hl
  have hS : va_S (mA q) s.heap s.heap [] := va_S.rf
  have hP : va_P D vwCl (mW q cI cO I F hs) s.heap := hP
  have L2 : ∀ (n : Nat)  (k : Int32 → (Nat → Int32) → (Nat → Nat → Int32) → Int64 → Prop) (x1 : Int32) (I : Nat → Int32) (F : Nat → Nat → Int32) (hs : Int64) (H : Heap) (locs : List Loc) (ls : Array Slot), va_P D vwCl (mW q cI cO I F hs) H → va_S (mA q) s.heap H locs → lv_has ls 4 [(0, .ref (q 0)), (1, .int x1)] → gLN (fun ag v => w_X9_layOptions_B2  k (fun b0 b1 b2 b3 => ag (b0, b1, b2, b3)) v.1 v.2.1 v.2.2.1 v.2.2.2) n (x1, I, F, hs) → (∀ (x1 : Int32) (I : Nat → Int32) (F : Nat → Nat → Int32) (hs : Int64) (H : Heap) (locs : List Loc) (ls : Array Slot), va_P D vwCl (mW q cI cO I F hs) H → va_S (mA q) s.heap H locs → lv_has ls 4 [] → k x1 I F hs → W p l e R s m args below meth c H locs 0 0 Q (F0 m 90 ls [])) → W p l e R s m args below meth c H locs 0 0 Q (F0 m 2 ls []) := by
    intro n
    induction n with
    | zero =>
      intro  k x1 I F hs H locs ls  hP hS hl h K
      exact False.elim h
    | succ n ih =>
      intro  k x1 I F hs H locs ls  hP hS hl h K
      have h : w_X9_layOptions_B2  k (fun b0 b1 b2 b3 => gLN (fun ag v => w_X9_layOptions_B2  k (fun b0 b1 b2 b3 => ag (b0, b1, b2, b3)) v.1 v.2.1 v.2.2.1 v.2.2.2) n (b0, b1, b2, b3)) x1 I F hs := h
      refine lv_iload_n hx hb dX9_layOptions_2 rfl (lv_at hl 1 rfl) ?_
      refine lv_bipush (v := (63 : Int32)) hx hb dX9_layOptions_3 (by decide) ?_
      refine lv_icmp_ge (tgt := 90) hx hb dX9_layOptions_5 (by decide) (fun c1 => ?_) (fun c1 => ?_)
      · have h := h.1 c1
        exact K x1 I F hs _ _ _  hP hS (lv_sub hl [] rfl) h
      · have h := h.2 c1
        refine lv_iload_n hx hb dX9_layOptions_8 rfl (lv_at hl 1 rfl) ?_
        refine lv_bipush (v := (7 : Int32)) hx hb dX9_layOptions_9 (by decide) ?_
        refine lv_irem hx hb dX9_layOptions_11 (by decide) ?_
        refine lv_topi (fun v2 ev2 => ?_)
        have h := h v2 ev2
        refine lv_istore_n (lv' := [(2, .int v2), (0, .ref (q 0)), (1, .int x1)]) hx hb dX9_layOptions_12 rfl hl (by decide) rfl (fun ls hl => ?_)
        refine lv_iload_n hx hb dX9_layOptions_13 rfl (lv_at hl 2 rfl) ?_
        refine lv_bipush (v := (7 : Int32)) hx hb dX9_layOptions_14 (by decide) ?_
        refine lv_idiv hx hb dX9_layOptions_16 (by decide) ?_
        refine lv_topi (fun v3 ev3 => ?_)
        have h := h v3 ev3
        refine lv_istore_n (lv' := [(3, .int v3), (2, .int v2), (0, .ref (q 0)), (1, .int x1)]) hx hb dX9_layOptions_17 rfl hl (by decide) rfl (fun ls hl => ?_)
        refine lv_aload_n hx hb dX9_layOptions_18 rfl (lv_at hl 2 rfl) ?_
        refine va_get (D := D) (ci := 9) (v := .ref (q 4)) (C := RX9) (T := TX9) (N := 44) hx hb hts (fun _ h9 => List.mem_cons_of_mem _ (List.mem_append_right _ h9)) hown hK hP 0 mAt0 rfl 3 (by decide) (hts _ (List.mem_of_getElem? (l := wsX9_layOptions) (i := 1) rfl)) (fun _ h9 => h9) rfl dX9_layOptions_19 ?_
        refine lv_iload_n hx hb dX9_layOptions_22 rfl (lv_at hl 3 rfl) ?_
        refine lv_iload_n hx hb dX9_layOptions_23 rfl (lv_at hl 1 rfl) ?_
        refine lv_if_ne (tgt := 31) hx hb dX9_layOptions_24 (by decide) (fun c4 => ?_) (fun c4 => ?_)
        · have h := h.1 c4
          refine lv_iload_n hx hb dX9_layOptions_31 rfl (lv_at hl 1 rfl) ?_
          refine lv_iconst (v := (1 : Int32)) hx hb dX9_layOptions_32 (by decide) ?_
          refine lv_isub hx hb dX9_layOptions_33 ?_
          refine lv_iconst (v := (2 : Int32)) hx hb dX9_layOptions_34 (by decide) ?_
          refine lv_idiv hx hb dX9_layOptions_35 (by decide) ?_
          refine gAst (D := D) hx hb hK hP (mD hq) hS 4 0 mAr4 rfl h.1 dX9_layOptions_36 (mSA4 _) (fun H locs hP hS => ?_)
          obtain ⟨F5, eF5⟩ : ∃ z : Nat → Nat → Int32, z = upF F 4 (upd (F 4) (x1).toNatClampNeg ((v2 - (1 : Int32)) / (2 : Int32))) := ⟨_, rfl⟩
          rw [← eF5] at hP
          have h := h.2 F5 eF5
          refine lv_aload_n hx hb dX9_layOptions_37 rfl (lv_at hl 2 rfl) ?_
          refine va_get (D := D) (ci := 9) (v := .ref (q 5)) (C := RX9) (T := TX9) (N := 44) hx hb hts (fun _ h9 => List.mem_cons_of_mem _ (List.mem_append_right _ h9)) hown hK hP 0 mAt0 rfl 4 (by decide) (hts _ (List.mem_of_getElem? (l := wsX9_layOptions) (i := 2) rfl)) (fun _ h9 => h9) rfl dX9_layOptions_38 ?_
          refine lv_iload_n hx hb dX9_layOptions_41 rfl (lv_at hl 3 rfl) ?_
          refine lv_iconst (v := (1 : Int32)) hx hb dX9_layOptions_42 (by decide) ?_
          refine lv_iload_n hx hb dX9_layOptions_43 rfl (lv_at hl 1 rfl) ?_
          refine lv_iconst (v := (1 : Int32)) hx hb dX9_layOptions_44 (by decide) ?_
          refine lv_iadd hx hb dX9_layOptions_45 ?_
          refine lv_iconst (v := (2 : Int32)) hx hb dX9_layOptions_46 (by decide) ?_
          refine lv_irem hx hb dX9_layOptions_47 (by decide) ?_
          refine lv_iadd hx hb dX9_layOptions_48 ?_
          refine gAst (D := D) hx hb hK hP (mD hq) hS 5 0 mAr5 rfl h.1 dX9_layOptions_49 (mSA5 _) (fun H locs hP hS => ?_)
          obtain ⟨F6, eF6⟩ : ∃ z : Nat → Nat → Int32, z = upF F5 5 (upd (F5 5) (x1).toNatClampNeg ((1 : Int32) + ((v2 + (1 : Int32)) - (v2 + (1 : Int32)) / (2 : Int32) * (2 : Int32)))) := ⟨_, rfl⟩
          rw [← eF6] at hP
          have h := h.2 F6 eF6
          refine lv_aload_n hx hb dX9_layOptions_50 rfl (lv_at hl 2 rfl) ?_
          refine va_get (D := D) (ci := 9) (v := .ref (q 6)) (C := RX9) (T := TX9) (N := 44) hx hb hts (fun _ h9 => List.mem_cons_of_mem _ (List.mem_append_right _ h9)) hown hK hP 0 mAt0 rfl 5 (by decide) (hts _ (List.mem_of_getElem? (l := wsX9_layOptions) (i := 3) rfl)) (fun _ h9 => h9) rfl dX9_layOptions_51 ?_
          refine lv_iload_n hx hb dX9_layOptions_54 rfl (lv_at hl 3 rfl) ?_
          refine lv_iload_n hx hb dX9_layOptions_55 rfl (lv_at hl 0 rfl) ?_
          refine lv_if_ne (tgt := 63) hx hb dX9_layOptions_56 (by decide) (fun c7 => ?_) (fun c7 => ?_)
          · have h := h.1 c7
            refine lv_iconst (v := (3 : Int32)) hx hb dX9_layOptions_63 (by decide) ?_
            refine lv_iload_n hx hb dX9_layOptions_64 rfl (lv_at hl 0 rfl) ?_
            refine lv_iconst (v := (1 : Int32)) hx hb dX9_layOptions_65 (by decide) ?_
            refine lv_isub hx hb dX9_layOptions_66 ?_
            refine lv_iconst (v := (2 : Int32)) hx hb dX9_layOptions_67 (by decide) ?_
            refine lv_idiv hx hb dX9_layOptions_68 (by decide) ?_
            refine lv_iadd hx hb dX9_layOptions_69 ?_
            refine gAst (D := D) hx hb hK hP (mD hq) hS 6 0 mAr6 rfl h.1 dX9_layOptions_70 (mSA6 _) (fun H locs hP hS => ?_)
            obtain ⟨F8, eF8⟩ : ∃ z : Nat → Nat → Int32, z = upF F6 6 (upd (F6 6) (x1).toNatClampNeg ((3 : Int32) + ((v3 - (1 : Int32)) / (2 : Int32)))) := ⟨_, rfl⟩
            rw [← eF8] at hP
            have h := h.2 F8 eF8
            refine lv_aload_n hx hb dX9_layOptions_71 rfl (lv_at hl 2 rfl) ?_
            refine va_get (D := D) (ci := 9) (v := .ref (q 7)) (C := RX9) (T := TX9) (N := 44) hx hb hts (fun _ h9 => List.mem_cons_of_mem _ (List.mem_append_right _ h9)) hown hK hP 0 mAt0 rfl 6 (by decide) (hts _ (List.mem_of_getElem? (l := wsX9_layOptions) (i := 4) rfl)) (fun _ h9 => h9) rfl dX9_layOptions_72 ?_
            refine lv_iload_n hx hb dX9_layOptions_75 rfl (lv_at hl 3 rfl) ?_
            refine lv_iconst (v := (1 : Int32)) hx hb dX9_layOptions_76 (by decide) ?_
            refine lv_iload_n hx hb dX9_layOptions_77 rfl (lv_at hl 0 rfl) ?_
            refine lv_iconst (v := (1 : Int32)) hx hb dX9_layOptions_78 (by decide) ?_
            refine lv_iadd hx hb dX9_layOptions_79 ?_
            refine lv_iconst (v := (2 : Int32)) hx hb dX9_layOptions_80 (by decide) ?_
            refine lv_irem hx hb dX9_layOptions_81 (by decide) ?_
            refine lv_iadd hx hb dX9_layOptions_82 ?_
            refine gAst (D := D) hx hb hK hP (mD hq) hS 7 0 mAr7 rfl h.1 dX9_layOptions_83 (mSA7 _) (fun H locs hP hS => ?_)
            obtain ⟨F9, eF9⟩ : ∃ z : Nat → Nat → Int32, z = upF F8 7 (upd (F8 7) (x1).toNatClampNeg ((1 : Int32) + ((v3 + (1 : Int32)) - (v3 + (1 : Int32)) / (2 : Int32) * (2 : Int32)))) := ⟨_, rfl⟩
            rw [← eF9] at hP
            have h := h.2 F9 eF9
            refine lv_iinc (v := (x1 + (1 : Int32))) (lv' := [(1, .int (x1 + (1 : Int32))), (3, .int v3), (2, .int v2), (0, .ref (q 0))]) hx hb dX9_layOptions_84 hl (k := 3) rfl rfl (by decide) rfl (fun ls hl => ?_)
            refine lv_goto (tgt := 2) hx hb dX9_layOptions_87 (by decide) ?_
            exact ih  _ (x1 + (1 : Int32)) I F9 hs _ _ _  hP hS (lv_sub hl [3, 0] rfl) h K
          · have h := h.2 c7
            refine lv_iconst (v := (-1 : Int32)) hx hb dX9_layOptions_59 (by decide) ?_
            refine lv_goto (tgt := 70) hx hb dX9_layOptions_60 (by decide) ?_
            refine gAst (D := D) hx hb hK hP (mD hq) hS 6 0 mAr6 rfl h.1 dX9_layOptions_70 (mSA6 _) (fun H locs hP hS => ?_)
            obtain ⟨F10, eF10⟩ : ∃ z : Nat → Nat → Int32, z = upF F6 6 (upd (F6 6) (x1).toNatClampNeg (-1 : Int32)) := ⟨_, rfl⟩
            rw [← eF10] at hP
            have h := h.2 F10 eF10
            refine lv_aload_n hx hb dX9_layOptions_71 rfl (lv_at hl 2 rfl) ?_
            refine va_get (D := D) (ci := 9) (v := .ref (q 7)) (C := RX9) (T := TX9) (N := 44) hx hb hts (fun _ h9 => List.mem_cons_of_mem _ (List.mem_append_right _ h9)) hown hK hP 0 mAt0 rfl 6 (by decide) (hts _ (List.mem_of_getElem? (l := wsX9_layOptions) (i := 4) rfl)) (fun _ h9 => h9) rfl dX9_layOptions_72 ?_
            refine lv_iload_n hx hb dX9_layOptions_75 rfl (lv_at hl 3 rfl) ?_
            refine lv_iconst (v := (1 : Int32)) hx hb dX9_layOptions_76 (by decide) ?_
            refine lv_iload_n hx hb dX9_layOptions_77 rfl (lv_at hl 0 rfl) ?_
            refine lv_iconst (v := (1 : Int32)) hx hb dX9_layOptions_78 (by decide) ?_
            refine lv_iadd hx hb dX9_layOptions_79 ?_
            refine lv_iconst (v := (2 : Int32)) hx hb dX9_layOptions_80 (by decide) ?_
            refine lv_irem hx hb dX9_layOptions_81 (by decide) ?_
            refine lv_iadd hx hb dX9_layOptions_82 ?_
            refine gAst (D := D) hx hb hK hP (mD hq) hS 7 0 mAr7 rfl h.1 dX9_layOptions_83 (mSA7 _) (fun H locs hP hS => ?_)
            obtain ⟨F11, eF11⟩ : ∃ z : Nat → Nat → Int32, z = upF F10 7 (upd (F10 7) (x1).toNatClampNeg ((1 : Int32) + ((v3 + (1 : Int32)) - (v3 + (1 : Int32)) / (2 : Int32) * (2 : Int32)))) := ⟨_, rfl⟩
            rw [← eF11] at hP
            have h := h.2 F11 eF11
            refine lv_iinc (v := (x1 + (1 : Int32))) (lv' := [(1, .int (x1 + (1 : Int32))), (3, .int v3), (2, .int v2), (0, .ref (q 0))]) hx hb dX9_layOptions_84 hl (k := 3) rfl rfl (by decide) rfl (fun ls hl => ?_)
            refine lv_goto (tgt := 2) hx hb dX9_layOptions_87 (by decide) ?_
            exact ih  _ (x1 + (1 : Int32)) I F11 hs _ _ _  hP hS (lv_sub hl [3, 0] rfl) h K
        · have h := h.2 c4
          refine lv_iconst (v := (-1 : Int32)) hx hb dX9_layOptions_27 (by decide) ?_
          refine lv_goto (tgt := 36) hx hb dX9_layOptions_28 (by decide) ?_
          refine gAst (D := D) hx hb hK hP (mD hq) hS 4 0 mAr4 rfl h.1 dX9_layOptions_36 (mSA4 _) (fun H locs hP hS => ?_)
          obtain ⟨F12, eF12⟩ : ∃ z : Nat → Nat → Int32, z = upF F 4 (upd (F 4) (x1).toNatClampNeg (-1 : Int32)) := ⟨_, rfl⟩
          rw [← eF12] at hP
          have h := h.2 F12 eF12
          refine lv_aload_n hx hb dX9_layOptions_37 rfl (lv_at hl 2 rfl) ?_
          refine va_get (D := D) (ci := 9) (v := .ref (q 5)) (C := RX9) (T := TX9) (N := 44) hx hb hts (fun _ h9 => List.mem_cons_of_mem _ (List.mem_append_right _ h9)) hown hK hP 0 mAt0 rfl 4 (by decide) (hts _ (List.mem_of_getElem? (l := wsX9_layOptions) (i := 2) rfl)) (fun _ h9 => h9) rfl dX9_layOptions_38 ?_
          refine lv_iload_n hx hb dX9_layOptions_41 rfl (lv_at hl 3 rfl) ?_
          refine lv_iconst (v := (1 : Int32)) hx hb dX9_layOptions_42 (by decide) ?_
          refine lv_iload_n hx hb dX9_layOptions_43 rfl (lv_at hl 1 rfl) ?_
          refine lv_iconst (v := (1 : Int32)) hx hb dX9_layOptions_44 (by decide) ?_
          refine lv_iadd hx hb dX9_layOptions_45 ?_
          refine lv_iconst (v := (2 : Int32)) hx hb dX9_layOptions_46 (by decide) ?_
          refine lv_irem hx hb dX9_layOptions_47 (by decide) ?_
          refine lv_iadd hx hb dX9_layOptions_48 ?_
          refine gAst (D := D) hx hb hK hP (mD hq) hS 5 0 mAr5 rfl h.1 dX9_layOptions_49 (mSA5 _) (fun H locs hP hS => ?_)
          obtain ⟨F13, eF13⟩ : ∃ z : Nat → Nat → Int32, z = upF F12 5 (upd (F12 5) (x1).toNatClampNeg ((1 : Int32) + ((v2 + (1 : Int32)) - (v2 + (1 : Int32)) / (2 : Int32) * (2 : Int32)))) := ⟨_, rfl⟩
          rw [← eF13] at hP
          have h := h.2 F13 eF13
          refine lv_aload_n hx hb dX9_layOptions_50 rfl (lv_at hl 2 rfl) ?_
          refine va_get (D := D) (ci := 9) (v := .ref (q 6)) (C := RX9) (T := TX9) (N := 44) hx hb hts (fun _ h9 => List.mem_cons_of_mem _ (List.mem_append_right _ h9)) hown hK hP 0 mAt0 rfl 5 (by decide) (hts _ (List.mem_of_getElem? (l := wsX9_layOptions) (i := 3) rfl)) (fun _ h9 => h9) rfl dX9_layOptions_51 ?_
          refine lv_iload_n hx hb dX9_layOptions_54 rfl (lv_at hl 3 rfl) ?_
          refine lv_iload_n hx hb dX9_layOptions_55 rfl (lv_at hl 0 rfl) ?_
          refine lv_if_ne (tgt := 63) hx hb dX9_layOptions_56 (by decide) (fun c14 => ?_) (fun c14 => ?_)
          · have h := h.1 c14
            refine lv_iconst (v := (3 : Int32)) hx hb dX9_layOptions_63 (by decide) ?_
            refine lv_iload_n hx hb dX9_layOptions_64 rfl (lv_at hl 0 rfl) ?_
            refine lv_iconst (v := (1 : Int32)) hx hb dX9_layOptions_65 (by decide) ?_
            refine lv_isub hx hb dX9_layOptions_66 ?_
            refine lv_iconst (v := (2 : Int32)) hx hb dX9_layOptions_67 (by decide) ?_
            refine lv_idiv hx hb dX9_layOptions_68 (by decide) ?_
            refine lv_iadd hx hb dX9_layOptions_69 ?_
            refine gAst (D := D) hx hb hK hP (mD hq) hS 6 0 mAr6 rfl h.1 dX9_layOptions_70 (mSA6 _) (fun H locs hP hS => ?_)
            obtain ⟨F15, eF15⟩ : ∃ z : Nat → Nat → Int32, z = upF F13 6 (upd (F13 6) (x1).toNatClampNeg ((3 : Int32) + ((v3 - (1 : Int32)) / (2 : Int32)))) := ⟨_, rfl⟩
            rw [← eF15] at hP
            have h := h.2 F15 eF15
            refine lv_aload_n hx hb dX9_layOptions_71 rfl (lv_at hl 2 rfl) ?_
            refine va_get (D := D) (ci := 9) (v := .ref (q 7)) (C := RX9) (T := TX9) (N := 44) hx hb hts (fun _ h9 => List.mem_cons_of_mem _ (List.mem_append_right _ h9)) hown hK hP 0 mAt0 rfl 6 (by decide) (hts _ (List.mem_of_getElem? (l := wsX9_layOptions) (i := 4) rfl)) (fun _ h9 => h9) rfl dX9_layOptions_72 ?_
            refine lv_iload_n hx hb dX9_layOptions_75 rfl (lv_at hl 3 rfl) ?_
            refine lv_iconst (v := (1 : Int32)) hx hb dX9_layOptions_76 (by decide) ?_
            refine lv_iload_n hx hb dX9_layOptions_77 rfl (lv_at hl 0 rfl) ?_
            refine lv_iconst (v := (1 : Int32)) hx hb dX9_layOptions_78 (by decide) ?_
            refine lv_iadd hx hb dX9_layOptions_79 ?_
            refine lv_iconst (v := (2 : Int32)) hx hb dX9_layOptions_80 (by decide) ?_
            refine lv_irem hx hb dX9_layOptions_81 (by decide) ?_
            refine lv_iadd hx hb dX9_layOptions_82 ?_
            refine gAst (D := D) hx hb hK hP (mD hq) hS 7 0 mAr7 rfl h.1 dX9_layOptions_83 (mSA7 _) (fun H locs hP hS => ?_)
            obtain ⟨F16, eF16⟩ : ∃ z : Nat → Nat → Int32, z = upF F15 7 (upd (F15 7) (x1).toNatClampNeg ((1 : Int32) + ((v3 + (1 : Int32)) - (v3 + (1 : Int32)) / (2 : Int32) * (2 : Int32)))) := ⟨_, rfl⟩
            rw [← eF16] at hP
            have h := h.2 F16 eF16
            refine lv_iinc (v := (x1 + (1 : Int32))) (lv' := [(1, .int (x1 + (1 : Int32))), (3, .int v3), (2, .int v2), (0, .ref (q 0))]) hx hb dX9_layOptions_84 hl (k := 3) rfl rfl (by decide) rfl (fun ls hl => ?_)
            refine lv_goto (tgt := 2) hx hb dX9_layOptions_87 (by decide) ?_
            exact ih  _ (x1 + (1 : Int32)) I F16 hs _ _ _  hP hS (lv_sub hl [3, 0] rfl) h K
          · have h := h.2 c14
            refine lv_iconst (v := (-1 : Int32)) hx hb dX9_layOptions_59 (by decide) ?_
            refine lv_goto (tgt := 70) hx hb dX9_layOptions_60 (by decide) ?_
            refine gAst (D := D) hx hb hK hP (mD hq) hS 6 0 mAr6 rfl h.1 dX9_layOptions_70 (mSA6 _) (fun H locs hP hS => ?_)
            obtain ⟨F17, eF17⟩ : ∃ z : Nat → Nat → Int32, z = upF F13 6 (upd (F13 6) (x1).toNatClampNeg (-1 : Int32)) := ⟨_, rfl⟩
            rw [← eF17] at hP
            have h := h.2 F17 eF17
            refine lv_aload_n hx hb dX9_layOptions_71 rfl (lv_at hl 2 rfl) ?_
            refine va_get (D := D) (ci := 9) (v := .ref (q 7)) (C := RX9) (T := TX9) (N := 44) hx hb hts (fun _ h9 => List.mem_cons_of_mem _ (List.mem_append_right _ h9)) hown hK hP 0 mAt0 rfl 6 (by decide) (hts _ (List.mem_of_getElem? (l := wsX9_layOptions) (i := 4) rfl)) (fun _ h9 => h9) rfl dX9_layOptions_72 ?_
            refine lv_iload_n hx hb dX9_layOptions_75 rfl (lv_at hl 3 rfl) ?_
            refine lv_iconst (v := (1 : Int32)) hx hb dX9_layOptions_76 (by decide) ?_
            refine lv_iload_n hx hb dX9_layOptions_77 rfl (lv_at hl 0 rfl) ?_
            refine lv_iconst (v := (1 : Int32)) hx hb dX9_layOptions_78 (by decide) ?_
            refine lv_iadd hx hb dX9_layOptions_79 ?_
            refine lv_iconst (v := (2 : Int32)) hx hb dX9_layOptions_80 (by decide) ?_
            refine lv_irem hx hb dX9_layOptions_81 (by decide) ?_
            refine lv_iadd hx hb dX9_layOptions_82 ?_
            refine gAst (D := D) hx hb hK hP (mD hq) hS 7 0 mAr7 rfl h.1 dX9_layOptions_83 (mSA7 _) (fun H locs hP hS => ?_)
            obtain ⟨F18, eF18⟩ : ∃ z : Nat → Nat → Int32, z = upF F17 7 (upd (F17 7) (x1).toNatClampNeg ((1 : Int32) + ((v3 + (1 : Int32)) - (v3 + (1 : Int32)) / (2 : Int32) * (2 : Int32)))) := ⟨_, rfl⟩
            rw [← eF18] at hP
            have h := h.2 F18 eF18
            refine lv_iinc (v := (x1 + (1 : Int32))) (lv' := [(1, .int (x1 + (1 : Int32))), (3, .int v3), (2, .int v2), (0, .ref (q 0))]) hx hb dX9_layOptions_84 hl (k := 3) rfl rfl (by decide) rfl (fun ls hl => ?_)
            refine lv_goto (tgt := 2) hx hb dX9_layOptions_87 (by decide) ?_
            exact ih  _ (x1 + (1 : Int32)) I F18 hs _ _ _  hP hS (lv_sub hl [3, 0] rfl) h K
  refine lv_iconst (v := (0 : Int32)) hx hb dX9_layOptions_0 (by decide) ?_
  refine lv_istore_n (lv' := [(1, .int (0 : Int32)), (0, .ref (q 0))]) hx hb dX9_layOptions_1 rfl hl (by decide) rfl (fun ls hl => ?_)
  obtain ⟨n, h⟩ := h
  refine L2 n  _ (0 : Int32) I F hs _ _ _  hP hS (lv_sub hl [1, 0] rfl) h (fun y19 I20 F21 hs22 H locs ls  hP hS hl h => ?_)
  exact hret (I20, F21, hs22) _ _ _ _ dX9_layOptions_90 hP hS h
def w_X9_positionOf (a1 : Int32) (a2 : Int32) (I : Nat → Int32) (F : Nat → Nat → Int32) (hs : Int64) (post : Int32 → Prop) : Prop :=
  vp_in a2 7 ∧ ¬ (F 1 (a2).toNatClampNeg) = (0 : Int32) ∧ post ((a1 / (F 1 (a2).toNatClampNeg)) - (a1 / (F 1 (a2).toNatClampNeg)) / (3 : Int32) * (3 : Int32))
set_option maxHeartbeats 4000000 in
set_option maxRecDepth 100000 in
theorem c_X9_positionOf (l : Launch) (D : va_G) (q : Nat → Nat) (cI cO : ClassId) (hq : mOk q) (a1 : Int32) (a2 : Int32)  (I : Nat → Int32) (F : Nat → Nat → Int32) (hs : Int64) (post : Int32 → Prop) (h : w_X9_positionOf a1 a2 I F hs post) : Met l yX9_positionOf wsX9_positionOf ({ frames := 0, cells := 0, slots := 0, locals := 0 } : Room) (gPre D (mTys cI) (mW q cI cO I F hs) mEnv [.ref (q 0), .int a1, .int a2]) (va_Qi (fun r (_ : Unit) => post r) (gB D (fun _ : Unit => mW q cI cO I F hs)) (mA q)) 0 0 (mA q) := by
  refine gMetI (by decide) rfl (Nat.le_of_ble_eq_true rfl) ?_
  intro p e R s m args below meth c Q ls hR hx hb hml hown hts hK hE hP hl hret
  have hRf : 0 ≤ R.frames := by subst hR; exact Nat.le_refl _
  have hRl : 0 ≤ R.locals := by subst hR; exact Nat.le_refl _
  have hown : s.vm.findClass RX9 = some m.cls := hown
  have hl : lv_has ls 3 [(0, .ref (q 0)), (1, .int a1), (2, .int a2)] := hl
  have hS : va_S (mA q) s.heap s.heap [] := va_S.rf
  have hP : va_P D vwCl (mW q cI cO I F hs) s.heap := hP
  refine lv_iload_n hx hb dX9_positionOf_0 rfl (lv_at hl 1 rfl) ?_
  refine lv_aload_n hx hb dX9_positionOf_1 rfl (lv_at hl 0 rfl) ?_
  refine va_get (D := D) (ci := 9) (v := .ref (q 1)) (C := RX9) (T := TX9) (N := 44) hx hb hts (fun _ h9 => List.mem_cons_of_mem _ (List.mem_append_right _ h9)) hown hK hP 0 mAt0 rfl 0 (by decide) (hts _ (List.mem_of_getElem? (l := wsX9_positionOf) (i := 1) rfl)) (fun _ h9 => h9) rfl dX9_positionOf_2 ?_
  refine lv_iload_n hx hb dX9_positionOf_5 rfl (lv_at hl 2 rfl) ?_
  refine va_iald (D := D) hx hb hK hP 1 0 mAr1 rfl h.1 dX9_positionOf_6 ?_
  have h := h.2
  refine lv_idiv hx hb dX9_positionOf_7 h.1 ?_
  have h := h.2
  refine lv_iconst (v := (3 : Int32)) hx hb dX9_positionOf_8 (by decide) ?_
  refine lv_irem hx hb dX9_positionOf_9 (by decide) ?_
  exact hret ((a1 / (F 1 (a2).toNatClampNeg)) - (a1 / (F 1 (a2).toNatClampNeg)) / (3 : Int32) * (3 : Int32)) () _ _ _ _ dX9_positionOf_10 hP hS h
def w_X9_turned (a1 : Int32) (a2 : Int32) (a3 : Int32) (I : Nat → Int32) (F : Nat → Nat → Int32) (hs : Int64) (post : Int32 → Prop) : Prop :=
  ((¬ a2 = (-1 : Int32) → w_X9_positionOf a1 a2 I F hs (fun (r2 : Int32) => vp_in a2 7 ∧ post (a1 + ((((r2 + a3) - (r2 + a3) / (3 : Int32) * (3 : Int32)) - r2) * (F 1 (a2).toNatClampNeg))))) ∧ (a2 = (-1 : Int32) → post a1))
set_option maxHeartbeats 4000000 in
set_option maxRecDepth 100000 in
theorem c_X9_turned (l : Launch) (D : va_G) (q : Nat → Nat) (cI cO : ClassId) (hq : mOk q) (a1 : Int32) (a2 : Int32) (a3 : Int32)  (I : Nat → Int32) (F : Nat → Nat → Int32) (hs : Int64) (post : Int32 → Prop) (h : w_X9_turned a1 a2 a3 I F hs post) : Met l yX9_turned wsX9_turned ({ frames := 1, cells := 0, slots := 0, locals := 22 } : Room) (gPre D (mTys cI) (mW q cI cO I F hs) mEnv [.ref (q 0), .int a1, .int a2, .int a3]) (va_Qi (fun r (_ : Unit) => post r) (gB D (fun _ : Unit => mW q cI cO I F hs)) (mA q)) 0 0 (mA q) := by
  refine gMetI (by decide) rfl (Nat.le_of_ble_eq_true rfl) ?_
  intro p e R s m args below meth c Q ls hR hx hb hml hown hts hK hE hP hl hret
  have hRf : 1 ≤ R.frames := by subst hR; exact Nat.le_refl _
  have hRl : 22 ≤ R.locals := by subst hR; exact Nat.le_refl _
  have hown : s.vm.findClass RX9 = some m.cls := hown
  have hl : lv_has ls 5 [(0, .ref (q 0)), (1, .int a1), (2, .int a2), (3, .int a3)] := hl
  have hS : va_S (mA q) s.heap s.heap [] := va_S.rf
  have hP : va_P D vwCl (mW q cI cO I F hs) s.heap := hP
  refine lv_iload_n hx hb dX9_turned_0 rfl (lv_at hl 2 rfl) ?_
  refine lv_iconst (v := (-1 : Int32)) hx hb dX9_turned_1 (by decide) ?_
  refine lv_icmp_ne (tgt := 7) hx hb dX9_turned_2 (by decide) (fun c1 => ?_) (fun c1 => ?_)
  · have h := h.1 c1
    refine lv_aload_n hx hb dX9_turned_7 rfl (lv_at hl 0 rfl) ?_
    refine lv_iload_n hx hb dX9_turned_8 rfl (lv_at hl 1 rfl) ?_
    refine lv_iload_n hx hb dX9_turned_9 rfl (lv_at hl 2 rfl) ?_
    refine gCallI (D := D) (va_runV (As := [.int a1, .int a2]) (rest := []) ⟨hx, hb, hml, hown, hts⟩ (c_X9_positionOf l D q cI cO hq a1 a2  I F hs _ h) (cwV 2 hts gX9_turned_X9_positionOf rfl rfl rfl (by decide +kernel) ⟨Nat.le_trans (Nat.le_of_ble_eq_true rfl) hRf, Nat.le_trans (Nat.le_of_ble_eq_true rfl) hRl⟩) (gPreV (ci := 9) (q0 := 0) mEok hE hK hP hS rfl mAt0) rfl rfl hl.1 rfl (lv_room (Nat.le_of_ble_eq_true rfl)) dX9_turned_10 ⟨Nat.zero_le _, Nat.zero_le _⟩) hS (fun r2 _ H locs hP hS h => ?_)
    have hP : va_P D vwCl (mW q cI cO I F hs) H := hP
    refine lv_istore (lv' := [(4, .int r2), (0, .ref (q 0)), (1, .int a1), (2, .int a2), (3, .int a3)]) hx hb dX9_turned_13 hl (by decide) rfl (fun ls hl => ?_)
    refine lv_iload_n hx hb dX9_turned_15 rfl (lv_at hl 2 rfl) ?_
    refine lv_iload hx hb dX9_turned_16 (lv_at hl 0 rfl) ?_
    refine lv_iload_n hx hb dX9_turned_18 rfl (lv_at hl 4 rfl) ?_
    refine lv_iadd hx hb dX9_turned_19 ?_
    refine lv_iconst (v := (3 : Int32)) hx hb dX9_turned_20 (by decide) ?_
    refine lv_irem hx hb dX9_turned_21 (by decide) ?_
    refine lv_iload hx hb dX9_turned_22 (lv_at hl 0 rfl) ?_
    refine lv_isub hx hb dX9_turned_24 ?_
    refine lv_aload_n hx hb dX9_turned_25 rfl (lv_at hl 1 rfl) ?_
    refine va_get (D := D) (ci := 9) (v := .ref (q 1)) (C := RX9) (T := TX9) (N := 44) hx hb hts (fun _ h9 => List.mem_cons_of_mem _ (List.mem_append_right _ h9)) hown hK hP 0 mAt0 rfl 0 (by decide) (hts _ (List.mem_of_getElem? (l := wsX9_turned) (i := 1) rfl)) (fun _ h9 => h9) rfl dX9_turned_26 ?_
    refine lv_iload_n hx hb dX9_turned_29 rfl (lv_at hl 3 rfl) ?_
    refine va_iald (D := D) hx hb hK hP 1 0 mAr1 rfl h.1 dX9_turned_30 ?_
    have h := h.2
    refine lv_imul hx hb dX9_turned_31 ?_
    refine lv_iadd hx hb dX9_turned_32 ?_
    exact hret (a1 + ((((r2 + a3) - (r2 + a3) / (3 : Int32) * (3 : Int32)) - r2) * (F 1 (a2).toNatClampNeg))) () _ _ _ _ dX9_turned_33 hP hS h
  · have h := h.2 c1
    refine lv_iload_n hx hb dX9_turned_5 rfl (lv_at hl 1 rfl) ?_
    exact hret a1 () _ _ _ _ dX9_turned_6 hP hS h
def w_X9_toneOf (a1 : Int32) (a2 : Int32) (I : Nat → Int32) (F : Nat → Nat → Int32) (hs : Int64) (post : Int32 → Prop) : Prop :=
  vp_in a1 7 ∧ post ((((F 2 (a1).toNatClampNeg) + a2) + (11 : Int32)) - (((F 2 (a1).toNatClampNeg) + a2) + (11 : Int32)) / (12 : Int32) * (12 : Int32))
set_option maxHeartbeats 4000000 in
set_option maxRecDepth 100000 in
theorem c_X9_toneOf (l : Launch) (D : va_G) (q : Nat → Nat) (cI cO : ClassId) (hq : mOk q) (a1 : Int32) (a2 : Int32)  (I : Nat → Int32) (F : Nat → Nat → Int32) (hs : Int64) (post : Int32 → Prop) (h : w_X9_toneOf a1 a2 I F hs post) : Met l yX9_toneOf wsX9_toneOf ({ frames := 0, cells := 0, slots := 0, locals := 0 } : Room) (gPre D (mTys cI) (mW q cI cO I F hs) mEnv [.ref (q 0), .int a1, .int a2]) (va_Qi (fun r (_ : Unit) => post r) (gB D (fun _ : Unit => mW q cI cO I F hs)) (mA q)) 0 0 (mA q) := by
  refine gMetI (by decide) rfl (Nat.le_of_ble_eq_true rfl) ?_
  intro p e R s m args below meth c Q ls hR hx hb hml hown hts hK hE hP hl hret
  have hRf : 0 ≤ R.frames := by subst hR; exact Nat.le_refl _
  have hRl : 0 ≤ R.locals := by subst hR; exact Nat.le_refl _
  have hown : s.vm.findClass RX9 = some m.cls := hown
  have hl : lv_has ls 3 [(0, .ref (q 0)), (1, .int a1), (2, .int a2)] := hl
  have hS : va_S (mA q) s.heap s.heap [] := va_S.rf
  have hP : va_P D vwCl (mW q cI cO I F hs) s.heap := hP
  refine lv_aload_n hx hb dX9_toneOf_0 rfl (lv_at hl 0 rfl) ?_
  refine va_get (D := D) (ci := 9) (v := .ref (q 2)) (C := RX9) (T := TX9) (N := 44) hx hb hts (fun _ h9 => List.mem_cons_of_mem _ (List.mem_append_right _ h9)) hown hK hP 0 mAt0 rfl 1 (by decide) (hts _ (List.mem_of_getElem? (l := wsX9_toneOf) (i := 1) rfl)) (fun _ h9 => h9) rfl dX9_toneOf_1 ?_
  refine lv_iload_n hx hb dX9_toneOf_4 rfl (lv_at hl 1 rfl) ?_
  refine va_iald (D := D) hx hb hK hP 2 0 mAr2 rfl h.1 dX9_toneOf_5 ?_
  have h := h.2
  refine lv_iload_n hx hb dX9_toneOf_6 rfl (lv_at hl 2 rfl) ?_
  refine lv_iadd hx hb dX9_toneOf_7 ?_
  refine lv_bipush (v := (11 : Int32)) hx hb dX9_toneOf_8 (by decide) ?_
  refine lv_iadd hx hb dX9_toneOf_10 ?_
  refine lv_bipush (v := (12 : Int32)) hx hb dX9_toneOf_11 (by decide) ?_
  refine lv_irem hx hb dX9_toneOf_13 (by decide) ?_
  exact hret ((((F 2 (a1).toNatClampNeg) + a2) + (11 : Int32)) - (((F 2 (a1).toNatClampNeg) + a2) + (11 : Int32)) / (12 : Int32) * (12 : Int32)) () _ _ _ _ dX9_toneOf_14 hP hS h
