def w_X9_isChordSign_J147 (x2 : Int32) (z0 : Int32) (I : Nat → Int32) (F : Nat → Nat → Int32) (hs : Int64) (post : Int32 → (Nat → Int32) → (Nat → Nat → Int32) → Int64 → Prop) : Prop :=
  vp_in ((I 1) - (1 : Int32)) 8 ∧ ((z0 = 0 → vp_in ((I 1) - (1 : Int32)) 8 ∧ ∀ F2 : Nat → Nat → Int32, F2 = upF F 13 (upd (F 13) (((I 1) - (1 : Int32))).toNatClampNeg ((F 13 (((I 1) - (1 : Int32))).toNatClampNeg) ||| (0 : Int32))) → ((z0 = 0 ∨ z0 = 1) ∧ post z0 I F2 hs)) ∧ (¬ z0 = 0 → vp_in ((I 1) - (1 : Int32)) 8 ∧ ∀ F3 : Nat → Nat → Int32, F3 = upF F 13 (upd (F 13) (((I 1) - (1 : Int32))).toNatClampNeg ((F 13 (((I 1) - (1 : Int32))).toNatClampNeg) ||| ((1 : Int32) <<< ((x2 - (97 : Int32)) &&& 31)))) → ((z0 = 0 ∨ z0 = 1) ∧ post z0 I F3 hs)))
def w_X9_isChordSign_J146 (x2 : Int32) (I : Nat → Int32) (F : Nat → Nat → Int32) (hs : Int64) (post : Int32 → (Nat → Int32) → (Nat → Nat → Int32) → Int64 → Prop) : Prop :=
  w_X9_isChordSign_J147 x2 (0 : Int32) I F hs post
def w_X9_isChordSign_J142 (x2 : Int32) (I : Nat → Int32) (F : Nat → Nat → Int32) (hs : Int64) (post : Int32 → (Nat → Int32) → (Nat → Nat → Int32) → Int64 → Prop) : Prop :=
  w_X9_isChordSign_J147 x2 (1 : Int32) I F hs post
def w_X9_isChordSign_J37 (x1 : Int32) (x2 : Int32) (I : Nat → Int32) (F : Nat → Nat → Int32) (hs : Int64) (post : Int32 → (Nat → Int32) → (Nat → Nat → Int32) → Int64 → Prop) : Prop :=
  ∀ I4 : Nat → Int32, I4 = upd I 2 ((I 2) + (1 : Int32)) → ((¬ (I4 2) = (1 : Int32) → w_X9_in ((x2).toInt64) (97 : Int64) (108 : Int64) I4 F hs (fun (r6 : Int32) => ((r6 = 0 → w_X9_isChordSign_J146 x2 I4 F hs post) ∧ (¬ r6 = 0 → (((5 : Int32) < (I4 2) → w_X9_isChordSign_J146 x2 I4 F hs post) ∧ (¬ (5 : Int32) < (I4 2) → (((I4 2) = (2 : Int32) → w_X9_isChordSign_J142 x2 I4 F hs post) ∧ (¬ (I4 2) = (2 : Int32) → vp_in (x1 - (1 : Int32)) 56 ∧ ((x2 ≤ (F 11 ((x1 - (1 : Int32))).toNatClampNeg) → w_X9_isChordSign_J146 x2 I4 F hs post) ∧ (¬ x2 ≤ (F 11 ((x1 - (1 : Int32))).toNatClampNeg) → w_X9_isChordSign_J142 x2 I4 F hs post)))))))))) ∧ ((I4 2) = (1 : Int32) → w_X9_kindBy x2 I4 F hs (fun (r11 : Int32) => ((¬ r11 = (-1 : Int32) → w_X9_kindBy x2 I4 F hs (fun (r13 : Int32) => vp_in (I4 1) 8 ∧ ∀ F14 : Nat → Nat → Int32, F14 = upF F 12 (upd (F 12) ((I4 1)).toNatClampNeg r13) → vp_in (I4 1) 8 ∧ ∀ F15 : Nat → Nat → Int32, F15 = upF F14 13 (upd (F14 13) ((I4 1)).toNatClampNeg (0 : Int32)) → ∀ I16 : Nat → Int32, I16 = upd I4 1 ((I4 1) + (1 : Int32)) → post (1 : Int32) I16 F15 hs)) ∧ (r11 = (-1 : Int32) → post (0 : Int32) I4 F hs)))))
def w_X9_isChordSign (a1 : Int32) (I : Nat → Int32) (F : Nat → Nat → Int32) (hs : Int64) (post : Int32 → (Nat → Int32) → (Nat → Nat → Int32) → Int64 → Prop) : Prop :=
  vp_in a1 56 ∧ ∀ v17 : Int32, v17 = (F 11 (a1).toNatClampNeg) → ((¬ v17 = (44 : Int32) → w_X9_isChordSign_J37 a1 v17 I F hs post) ∧ (v17 = (44 : Int32) → (((I 2) ≤ (1 : Int32) → w_X9_isChordSign_J37 a1 v17 I F hs post) ∧ (¬ (I 2) ≤ (1 : Int32) → (((8 : Int32) ≤ (I 1) → w_X9_isChordSign_J37 a1 v17 I F hs post) ∧ (¬ (8 : Int32) ≤ (I 1) → ∀ I21 : Nat → Int32, I21 = upd I 2 (0 : Int32) → post (1 : Int32) I21 F hs))))))
set_option maxHeartbeats 4000000 in
set_option maxRecDepth 100000 in
theorem c_X9_isChordSign (l : Launch) (D : va_G) (q : Nat → Nat) (cI cO : ClassId) (hq : mOk q) (a1 : Int32)  (I : Nat → Int32) (F : Nat → Nat → Int32) (hs : Int64) (post : Int32 → (Nat → Int32) → (Nat → Nat → Int32) → Int64 → Prop) (h : w_X9_isChordSign a1 I F hs post) : Met l yX9_isChordSign wsX9_isChordSign ({ frames := 1, cells := 0, slots := 0, locals := 25 } : Room) (gPre D (mTys cI) (mW q cI cO I F hs) mEnv [.ref (q 0), .int a1]) (va_Qi (fun r (u : mS) => post r u.1 u.2.1 u.2.2) (gB D (fun u : mS => mW q cI cO u.1 u.2.1 u.2.2)) (mA q)) 0 0 (mA q) := by
  refine gMetZ (by decide) rfl (Nat.le_of_ble_eq_true rfl) ?_
  intro p e R s m args below meth c Q ls hR hx hb hml hown hts hK hE hP hl hret
  have hRf : 1 ≤ R.frames := by subst hR; exact Nat.le_refl _
  have hRl : 25 ≤ R.locals := by subst hR; exact Nat.le_refl _
  have hown : s.vm.findClass RX9 = some m.cls := hown
  have hl : lv_has ls 4 [(0, .ref (q 0)), (1, .int a1)] := hl
  have hS : va_S (mA q) s.heap s.heap [] := va_S.rf
  have hP : va_P D vwCl (mW q cI cO I F hs) s.heap := hP
  have J147 : ∀ (x2 : Int32) (z0 : Int32) (I : Nat → Int32) (F : Nat → Nat → Int32) (hs : Int64) (H : Heap) (locs : List Loc) (ls : Array Slot), va_P D vwCl (mW q cI cO I F hs) H → va_S (mA q) s.heap H locs → lv_has ls 4 [(0, .ref (q 0)), (2, .int x2)] → w_X9_isChordSign_J147 x2 z0 I F hs post → W p l e R s m args below meth c H locs 0 0 Q (F0 m 147 ls [.int z0]) := by
    intro x2 z0 I F hs H locs ls  hP hS hl h
    refine lv_istore_n (lv' := [(3, .int z0), (0, .ref (q 0)), (2, .int x2)]) hx hb dX9_isChordSign_147 rfl hl (by decide) rfl (fun ls hl => ?_)
    refine lv_aload_n hx hb dX9_isChordSign_148 rfl (lv_at hl 1 rfl) ?_
    refine va_get (D := D) (ci := 9) (v := .ref (q 13)) (C := RX9) (T := TX9) (N := 44) hx hb hts (fun _ h9 => List.mem_cons_of_mem _ (List.mem_append_right _ h9)) hown hK hP 0 mAt0 rfl 15 (by decide) (hts _ (List.mem_of_getElem? (l := wsX9_isChordSign) (i := 5) rfl)) (fun _ h9 => h9) rfl dX9_isChordSign_149 ?_
    refine lv_aload_n hx hb dX9_isChordSign_152 rfl (lv_at hl 1 rfl) ?_
    refine va_get (D := D) (ci := 9) (v := .int (I 1)) (C := RX9) (T := TX9) (N := 44) hx hb hts (fun _ h9 => List.mem_cons_of_mem _ (List.mem_append_right _ h9)) hown hK hP 0 mAt0 rfl 12 (by decide) (hts _ (List.mem_of_getElem? (l := wsX9_isChordSign) (i := 3) rfl)) (fun _ h9 => h9) rfl dX9_isChordSign_153 ?_
    refine lv_iconst (v := (1 : Int32)) hx hb dX9_isChordSign_156 (by decide) ?_
    refine lv_isub hx hb dX9_isChordSign_157 ?_
    refine lv_dup2_11 hx hb dX9_isChordSign_158 rfl rfl ?_
    refine va_iald (D := D) hx hb hK hP 13 0 mAr13 rfl h.1 dX9_isChordSign_159 ?_
    have h := h.2
    refine lv_iload_n hx hb dX9_isChordSign_160 rfl (lv_at hl 0 rfl) ?_
    refine lv_if_eq (tgt := 173) hx hb dX9_isChordSign_161 (by decide) (fun c1 => ?_) (fun c1 => ?_)
    · have h := h.1 c1
      refine lv_iconst (v := (0 : Int32)) hx hb dX9_isChordSign_173 (by decide) ?_
      refine lv_ior hx hb dX9_isChordSign_174 ?_
      refine gAst (D := D) hx hb hK hP (mD hq) hS 13 0 mAr13 rfl h.1 dX9_isChordSign_175 (mSA13 _) (fun H locs hP hS => ?_)
      obtain ⟨F2, eF2⟩ : ∃ z : Nat → Nat → Int32, z = upF F 13 (upd (F 13) (((I 1) - (1 : Int32))).toNatClampNeg ((F 13 (((I 1) - (1 : Int32))).toNatClampNeg) ||| (0 : Int32))) := ⟨_, rfl⟩
      rw [← eF2] at hP
      have h := h.2 F2 eF2
      refine lv_iload_n hx hb dX9_isChordSign_176 rfl (lv_at hl 0 rfl) ?_
      exact hret z0 (I, F2, hs) _ _ _ _ dX9_isChordSign_177 hP hS h.1 h.2
    · have h := h.2 c1
      refine lv_iconst (v := (1 : Int32)) hx hb dX9_isChordSign_164 (by decide) ?_
      refine lv_iload_n hx hb dX9_isChordSign_165 rfl (lv_at hl 2 rfl) ?_
      refine lv_bipush (v := (97 : Int32)) hx hb dX9_isChordSign_166 (by decide) ?_
      refine lv_isub hx hb dX9_isChordSign_168 ?_
      refine lv_ishl hx hb dX9_isChordSign_169 ?_
      refine lv_goto (tgt := 174) hx hb dX9_isChordSign_170 (by decide) ?_
      refine lv_ior hx hb dX9_isChordSign_174 ?_
      refine gAst (D := D) hx hb hK hP (mD hq) hS 13 0 mAr13 rfl h.1 dX9_isChordSign_175 (mSA13 _) (fun H locs hP hS => ?_)
      obtain ⟨F3, eF3⟩ : ∃ z : Nat → Nat → Int32, z = upF F 13 (upd (F 13) (((I 1) - (1 : Int32))).toNatClampNeg ((F 13 (((I 1) - (1 : Int32))).toNatClampNeg) ||| ((1 : Int32) <<< ((x2 - (97 : Int32)) &&& 31)))) := ⟨_, rfl⟩
      rw [← eF3] at hP
      have h := h.2 F3 eF3
      refine lv_iload_n hx hb dX9_isChordSign_176 rfl (lv_at hl 0 rfl) ?_
      exact hret z0 (I, F3, hs) _ _ _ _ dX9_isChordSign_177 hP hS h.1 h.2
  have J146 : ∀ (x2 : Int32) (I : Nat → Int32) (F : Nat → Nat → Int32) (hs : Int64) (H : Heap) (locs : List Loc) (ls : Array Slot), va_P D vwCl (mW q cI cO I F hs) H → va_S (mA q) s.heap H locs → lv_has ls 4 [(0, .ref (q 0)), (2, .int x2)] → w_X9_isChordSign_J146 x2 I F hs post → W p l e R s m args below meth c H locs 0 0 Q (F0 m 146 ls []) := by
    intro x2 I F hs H locs ls  hP hS hl h
    refine lv_iconst (v := (0 : Int32)) hx hb dX9_isChordSign_146 (by decide) ?_
    exact J147 x2 (0 : Int32) I F hs _ _ _  hP hS (lv_sub hl [0, 1] rfl) h
  have J142 : ∀ (x2 : Int32) (I : Nat → Int32) (F : Nat → Nat → Int32) (hs : Int64) (H : Heap) (locs : List Loc) (ls : Array Slot), va_P D vwCl (mW q cI cO I F hs) H → va_S (mA q) s.heap H locs → lv_has ls 4 [(0, .ref (q 0)), (2, .int x2)] → w_X9_isChordSign_J142 x2 I F hs post → W p l e R s m args below meth c H locs 0 0 Q (F0 m 142 ls []) := by
    intro x2 I F hs H locs ls  hP hS hl h
    refine lv_iconst (v := (1 : Int32)) hx hb dX9_isChordSign_142 (by decide) ?_
    refine lv_goto (tgt := 147) hx hb dX9_isChordSign_143 (by decide) ?_
    exact J147 x2 (1 : Int32) I F hs _ _ _  hP hS (lv_sub hl [0, 1] rfl) h
  have J37 : ∀ (x1 : Int32) (x2 : Int32) (I : Nat → Int32) (F : Nat → Nat → Int32) (hs : Int64) (H : Heap) (locs : List Loc) (ls : Array Slot), va_P D vwCl (mW q cI cO I F hs) H → va_S (mA q) s.heap H locs → lv_has ls 4 [(0, .ref (q 0)), (1, .int x1), (2, .int x2)] → w_X9_isChordSign_J37 x1 x2 I F hs post → W p l e R s m args below meth c H locs 0 0 Q (F0 m 37 ls []) := by
    intro x1 x2 I F hs H locs ls  hP hS hl h
    refine lv_aload_n hx hb dX9_isChordSign_37 rfl (lv_at hl 0 rfl) ?_
    refine lv_dup hx hb dX9_isChordSign_38 rfl ?_
    refine va_get (D := D) (ci := 9) (v := .int (I 2)) (C := RX9) (T := TX9) (N := 44) hx hb hts (fun _ h9 => List.mem_cons_of_mem _ (List.mem_append_right _ h9)) hown hK hP 0 mAt0 rfl 13 (by decide) (hts _ (List.mem_of_getElem? (l := wsX9_isChordSign) (i := 2) rfl)) (fun _ h9 => h9) rfl dX9_isChordSign_39 ?_
    refine lv_iconst (v := (1 : Int32)) hx hb dX9_isChordSign_42 (by decide) ?_
    refine lv_iadd hx hb dX9_isChordSign_43 ?_
    refine gPut (D := D) (ci := 9) (ty := .int) (C := RX9) (T := TX9) (N := 44) hx hb hts (fun _ h9 => List.mem_cons_of_mem _ (List.mem_append_right _ h9)) tyX9 tyX9_ok nmX9 hown hK hP (mD hq) hS 0 mAt0 rfl 13 (by decide) (hts _ (List.mem_of_getElem? (l := wsX9_isChordSign) (i := 2) rfl)) (fun _ h9 => h9) rfl (by decide +kernel) rfl rfl (Nat.le_of_ble_eq_true rfl) dX9_isChordSign_44 (mSet2 ((I 2) + (1 : Int32))) (fun H locs hP hS => ?_)
    obtain ⟨I4, eI4⟩ : ∃ z : Nat → Int32, z = upd I 2 ((I 2) + (1 : Int32)) := ⟨_, rfl⟩
    rw [← eI4] at hP
    have h := h I4 eI4
    refine lv_aload_n hx hb dX9_isChordSign_47 rfl (lv_at hl 0 rfl) ?_
    refine va_get (D := D) (ci := 9) (v := .int (I4 2)) (C := RX9) (T := TX9) (N := 44) hx hb hts (fun _ h9 => List.mem_cons_of_mem _ (List.mem_append_right _ h9)) hown hK hP 0 mAt0 rfl 13 (by decide) (hts _ (List.mem_of_getElem? (l := wsX9_isChordSign) (i := 2) rfl)) (fun _ h9 => h9) rfl dX9_isChordSign_48 ?_
    refine lv_iconst (v := (1 : Int32)) hx hb dX9_isChordSign_51 (by decide) ?_
    refine lv_icmp_ne (tgt := 100) hx hb dX9_isChordSign_52 (by decide) (fun c5 => ?_) (fun c5 => ?_)
    · have h := h.1 c5
      refine lv_iload_n hx hb dX9_isChordSign_100 rfl (lv_at hl 2 rfl) ?_
      refine lv_i2l (v := (x2).toInt64) hx hb dX9_isChordSign_101 rfl ?_
      refine lv_ldc2 (v := (97 : Int64)) hx hb hown (hts _ (List.mem_of_getElem? (l := wsX9_isChordSign) (i := 6) rfl)) dX9_isChordSign_102 ?_
      refine lv_ldc2 (v := (108 : Int64)) hx hb hown (hts _ (List.mem_of_getElem? (l := wsX9_isChordSign) (i := 7) rfl)) dX9_isChordSign_105 ?_
      refine gCallI (D := D) (va_runS (As := [.long ((x2).toInt64), .long (97 : Int64), .long (108 : Int64)]) (rest := []) ⟨hx, hb, hml, hown, hts⟩ (c_X9_in l D q cI cO hq ((x2).toInt64) (97 : Int64) (108 : Int64)  I4 F hs _ h) (va_cwS 3 hts gX9_isChordSign_X9_in rfl rfl rfl (by decide +kernel) ⟨Nat.le_trans (Nat.le_of_ble_eq_true rfl) hRf, Nat.le_trans (Nat.le_of_ble_eq_true rfl) hRl⟩) (gPreS mEok hE hK hP hS) rfl rfl hl.1 rfl (lv_room (Nat.le_of_ble_eq_true rfl)) dX9_isChordSign_108 ⟨Nat.zero_le _, Nat.zero_le _⟩) hS (fun r6 _ H locs hP hS h => ?_)
      have hP : va_P D vwCl (mW q cI cO I4 F hs) H := hP
      refine lv_if_eq (tgt := 146) hx hb dX9_isChordSign_111 (by decide) (fun c7 => ?_) (fun c7 => ?_)
      · have h := h.1 c7
        exact J146 x2 I4 F hs _ _ _  hP hS (lv_sub hl [0, 2] rfl) h
      · have h := h.2 c7
        refine lv_aload_n hx hb dX9_isChordSign_114 rfl (lv_at hl 0 rfl) ?_
        refine va_get (D := D) (ci := 9) (v := .int (I4 2)) (C := RX9) (T := TX9) (N := 44) hx hb hts (fun _ h9 => List.mem_cons_of_mem _ (List.mem_append_right _ h9)) hown hK hP 0 mAt0 rfl 13 (by decide) (hts _ (List.mem_of_getElem? (l := wsX9_isChordSign) (i := 2) rfl)) (fun _ h9 => h9) rfl dX9_isChordSign_115 ?_
        refine lv_iconst (v := (5 : Int32)) hx hb dX9_isChordSign_118 (by decide) ?_
        refine lv_icmp_gt (tgt := 146) hx hb dX9_isChordSign_119 (by decide) (fun c8 => ?_) (fun c8 => ?_)
        · have h := h.1 c8
          exact J146 x2 I4 F hs _ _ _  hP hS (lv_sub hl [0, 2] rfl) h
        · have h := h.2 c8
          refine lv_aload_n hx hb dX9_isChordSign_122 rfl (lv_at hl 0 rfl) ?_
          refine va_get (D := D) (ci := 9) (v := .int (I4 2)) (C := RX9) (T := TX9) (N := 44) hx hb hts (fun _ h9 => List.mem_cons_of_mem _ (List.mem_append_right _ h9)) hown hK hP 0 mAt0 rfl 13 (by decide) (hts _ (List.mem_of_getElem? (l := wsX9_isChordSign) (i := 2) rfl)) (fun _ h9 => h9) rfl dX9_isChordSign_123 ?_
          refine lv_iconst (v := (2 : Int32)) hx hb dX9_isChordSign_126 (by decide) ?_
          refine lv_icmp_eq (tgt := 142) hx hb dX9_isChordSign_127 (by decide) (fun c9 => ?_) (fun c9 => ?_)
          · have h := h.1 c9
            exact J142 x2 I4 F hs _ _ _  hP hS (lv_sub hl [0, 2] rfl) h
          · have h := h.2 c9
            refine lv_iload_n hx hb dX9_isChordSign_130 rfl (lv_at hl 2 rfl) ?_
            refine lv_aload_n hx hb dX9_isChordSign_131 rfl (lv_at hl 0 rfl) ?_
            refine va_get (D := D) (ci := 9) (v := .ref (q 11)) (C := RX9) (T := TX9) (N := 44) hx hb hts (fun _ h9 => List.mem_cons_of_mem _ (List.mem_append_right _ h9)) hown hK hP 0 mAt0 rfl 10 (by decide) (hts _ (List.mem_of_getElem? (l := wsX9_isChordSign) (i := 1) rfl)) (fun _ h9 => h9) rfl dX9_isChordSign_132 ?_
            refine lv_iload_n hx hb dX9_isChordSign_135 rfl (lv_at hl 1 rfl) ?_
            refine lv_iconst (v := (1 : Int32)) hx hb dX9_isChordSign_136 (by decide) ?_
            refine lv_isub hx hb dX9_isChordSign_137 ?_
            refine va_iald (D := D) hx hb hK hP 11 0 mAr11 rfl h.1 dX9_isChordSign_138 ?_
            have h := h.2
            refine lv_icmp_le (tgt := 146) hx hb dX9_isChordSign_139 (by decide) (fun c10 => ?_) (fun c10 => ?_)
            · have h := h.1 c10
              exact J146 x2 I4 F hs _ _ _  hP hS (lv_sub hl [0, 2] rfl) h
            · have h := h.2 c10
              exact J142 x2 I4 F hs _ _ _  hP hS (lv_sub hl [0, 2] rfl) h
    · have h := h.2 c5
      refine lv_iload_n hx hb dX9_isChordSign_55 rfl (lv_at hl 2 rfl) ?_
      refine gCallI (D := D) (va_runS (As := [.int x2]) (rest := []) ⟨hx, hb, hml, hown, hts⟩ (c_X9_kindBy l D q cI cO hq x2  I4 F hs _ h) (va_cwS 1 hts gX9_isChordSign_X9_kindBy rfl rfl rfl (by decide +kernel) ⟨Nat.le_trans (Nat.le_of_ble_eq_true rfl) hRf, Nat.le_trans (Nat.le_of_ble_eq_true rfl) hRl⟩) (gPreS mEok hE hK hP hS) rfl rfl hl.1 rfl (lv_room (Nat.le_of_ble_eq_true rfl)) dX9_isChordSign_56 ⟨Nat.zero_le _, Nat.zero_le _⟩) hS (fun r11 _ H locs hP hS h => ?_)
      have hP : va_P D vwCl (mW q cI cO I4 F hs) H := hP
      refine lv_iconst (v := (-1 : Int32)) hx hb dX9_isChordSign_59 (by decide) ?_
      refine lv_icmp_ne (tgt := 65) hx hb dX9_isChordSign_60 (by decide) (fun c12 => ?_) (fun c12 => ?_)
      · have h := h.1 c12
        refine lv_aload_n hx hb dX9_isChordSign_65 rfl (lv_at hl 0 rfl) ?_
        refine va_get (D := D) (ci := 9) (v := .ref (q 12)) (C := RX9) (T := TX9) (N := 44) hx hb hts (fun _ h9 => List.mem_cons_of_mem _ (List.mem_append_right _ h9)) hown hK hP 0 mAt0 rfl 14 (by decide) (hts _ (List.mem_of_getElem? (l := wsX9_isChordSign) (i := 4) rfl)) (fun _ h9 => h9) rfl dX9_isChordSign_66 ?_
        refine lv_aload_n hx hb dX9_isChordSign_69 rfl (lv_at hl 0 rfl) ?_
        refine va_get (D := D) (ci := 9) (v := .int (I4 1)) (C := RX9) (T := TX9) (N := 44) hx hb hts (fun _ h9 => List.mem_cons_of_mem _ (List.mem_append_right _ h9)) hown hK hP 0 mAt0 rfl 12 (by decide) (hts _ (List.mem_of_getElem? (l := wsX9_isChordSign) (i := 3) rfl)) (fun _ h9 => h9) rfl dX9_isChordSign_70 ?_
        refine lv_iload_n hx hb dX9_isChordSign_73 rfl (lv_at hl 2 rfl) ?_
        refine gCallI (D := D) (va_runS (As := [.int x2]) (rest := [.int (I4 1), .ref (q 12)]) ⟨hx, hb, hml, hown, hts⟩ (c_X9_kindBy l D q cI cO hq x2  I4 F hs _ h) (va_cwS 1 hts gX9_isChordSign_X9_kindBy rfl rfl rfl (by decide +kernel) ⟨Nat.le_trans (Nat.le_of_ble_eq_true rfl) hRf, Nat.le_trans (Nat.le_of_ble_eq_true rfl) hRl⟩) (gPreS mEok hE hK hP hS) rfl rfl hl.1 rfl (lv_room (Nat.le_of_ble_eq_true rfl)) dX9_isChordSign_74 ⟨Nat.zero_le _, Nat.zero_le _⟩) hS (fun r13 _ H locs hP hS h => ?_)
        have hP : va_P D vwCl (mW q cI cO I4 F hs) H := hP
        refine gAst (D := D) hx hb hK hP (mD hq) hS 12 0 mAr12 rfl h.1 dX9_isChordSign_77 (mSA12 _) (fun H locs hP hS => ?_)
        obtain ⟨F14, eF14⟩ : ∃ z : Nat → Nat → Int32, z = upF F 12 (upd (F 12) ((I4 1)).toNatClampNeg r13) := ⟨_, rfl⟩
        rw [← eF14] at hP
        have h := h.2 F14 eF14
        refine lv_aload_n hx hb dX9_isChordSign_78 rfl (lv_at hl 0 rfl) ?_
        refine va_get (D := D) (ci := 9) (v := .ref (q 13)) (C := RX9) (T := TX9) (N := 44) hx hb hts (fun _ h9 => List.mem_cons_of_mem _ (List.mem_append_right _ h9)) hown hK hP 0 mAt0 rfl 15 (by decide) (hts _ (List.mem_of_getElem? (l := wsX9_isChordSign) (i := 5) rfl)) (fun _ h9 => h9) rfl dX9_isChordSign_79 ?_
        refine lv_aload_n hx hb dX9_isChordSign_82 rfl (lv_at hl 0 rfl) ?_
        refine va_get (D := D) (ci := 9) (v := .int (I4 1)) (C := RX9) (T := TX9) (N := 44) hx hb hts (fun _ h9 => List.mem_cons_of_mem _ (List.mem_append_right _ h9)) hown hK hP 0 mAt0 rfl 12 (by decide) (hts _ (List.mem_of_getElem? (l := wsX9_isChordSign) (i := 3) rfl)) (fun _ h9 => h9) rfl dX9_isChordSign_83 ?_
        refine lv_iconst (v := (0 : Int32)) hx hb dX9_isChordSign_86 (by decide) ?_
        refine gAst (D := D) hx hb hK hP (mD hq) hS 13 0 mAr13 rfl h.1 dX9_isChordSign_87 (mSA13 _) (fun H locs hP hS => ?_)
        obtain ⟨F15, eF15⟩ : ∃ z : Nat → Nat → Int32, z = upF F14 13 (upd (F14 13) ((I4 1)).toNatClampNeg (0 : Int32)) := ⟨_, rfl⟩
        rw [← eF15] at hP
        have h := h.2 F15 eF15
        refine lv_aload_n hx hb dX9_isChordSign_88 rfl (lv_at hl 0 rfl) ?_
        refine lv_dup hx hb dX9_isChordSign_89 rfl ?_
        refine va_get (D := D) (ci := 9) (v := .int (I4 1)) (C := RX9) (T := TX9) (N := 44) hx hb hts (fun _ h9 => List.mem_cons_of_mem _ (List.mem_append_right _ h9)) hown hK hP 0 mAt0 rfl 12 (by decide) (hts _ (List.mem_of_getElem? (l := wsX9_isChordSign) (i := 3) rfl)) (fun _ h9 => h9) rfl dX9_isChordSign_90 ?_
        refine lv_iconst (v := (1 : Int32)) hx hb dX9_isChordSign_93 (by decide) ?_
        refine lv_iadd hx hb dX9_isChordSign_94 ?_
        refine gPut (D := D) (ci := 9) (ty := .int) (C := RX9) (T := TX9) (N := 44) hx hb hts (fun _ h9 => List.mem_cons_of_mem _ (List.mem_append_right _ h9)) tyX9 tyX9_ok nmX9 hown hK hP (mD hq) hS 0 mAt0 rfl 12 (by decide) (hts _ (List.mem_of_getElem? (l := wsX9_isChordSign) (i := 3) rfl)) (fun _ h9 => h9) rfl (by decide +kernel) rfl rfl (Nat.le_of_ble_eq_true rfl) dX9_isChordSign_95 (mSet1 ((I4 1) + (1 : Int32))) (fun H locs hP hS => ?_)
        obtain ⟨I16, eI16⟩ : ∃ z : Nat → Int32, z = upd I4 1 ((I4 1) + (1 : Int32)) := ⟨_, rfl⟩
        rw [← eI16] at hP
        have h := h I16 eI16
        refine lv_iconst (v := (1 : Int32)) hx hb dX9_isChordSign_98 (by decide) ?_
        exact hret (1 : Int32) (I16, F15, hs) _ _ _ _ dX9_isChordSign_99 hP hS (by decide) h
      · have h := h.2 c12
        refine lv_iconst (v := (0 : Int32)) hx hb dX9_isChordSign_63 (by decide) ?_
        exact hret (0 : Int32) (I4, F, hs) _ _ _ _ dX9_isChordSign_64 hP hS (by decide) h
  refine lv_aload_n hx hb dX9_isChordSign_0 rfl (lv_at hl 0 rfl) ?_
  refine va_get (D := D) (ci := 9) (v := .ref (q 11)) (C := RX9) (T := TX9) (N := 44) hx hb hts (fun _ h9 => List.mem_cons_of_mem _ (List.mem_append_right _ h9)) hown hK hP 0 mAt0 rfl 10 (by decide) (hts _ (List.mem_of_getElem? (l := wsX9_isChordSign) (i := 1) rfl)) (fun _ h9 => h9) rfl dX9_isChordSign_1 ?_
  refine lv_iload_n hx hb dX9_isChordSign_4 rfl (lv_at hl 1 rfl) ?_
  refine va_iald (D := D) hx hb hK hP 11 0 mAr11 rfl h.1 dX9_isChordSign_5 ?_
  have h := h.2
  refine lv_topi (fun v17 ev17 => ?_)
  have h := h v17 ev17
  refine lv_istore_n (lv' := [(2, .int v17), (0, .ref (q 0)), (1, .int a1)]) hx hb dX9_isChordSign_6 rfl hl (by decide) rfl (fun ls hl => ?_)
  refine lv_iload_n hx hb dX9_isChordSign_7 rfl (lv_at hl 0 rfl) ?_
  refine lv_bipush (v := (44 : Int32)) hx hb dX9_isChordSign_8 (by decide) ?_
  refine lv_icmp_ne (tgt := 37) hx hb dX9_isChordSign_10 (by decide) (fun c18 => ?_) (fun c18 => ?_)
  · have h := h.1 c18
    exact J37 a1 v17 I F hs _ _ _  hP hS (lv_sub hl [1, 2, 0] rfl) h
  · have h := h.2 c18
    refine lv_aload_n hx hb dX9_isChordSign_13 rfl (lv_at hl 1 rfl) ?_
    refine va_get (D := D) (ci := 9) (v := .int (I 2)) (C := RX9) (T := TX9) (N := 44) hx hb hts (fun _ h9 => List.mem_cons_of_mem _ (List.mem_append_right _ h9)) hown hK hP 0 mAt0 rfl 13 (by decide) (hts _ (List.mem_of_getElem? (l := wsX9_isChordSign) (i := 2) rfl)) (fun _ h9 => h9) rfl dX9_isChordSign_14 ?_
    refine lv_iconst (v := (1 : Int32)) hx hb dX9_isChordSign_17 (by decide) ?_
    refine lv_icmp_le (tgt := 37) hx hb dX9_isChordSign_18 (by decide) (fun c19 => ?_) (fun c19 => ?_)
    · have h := h.1 c19
      exact J37 a1 v17 I F hs _ _ _  hP hS (lv_sub hl [1, 2, 0] rfl) h
    · have h := h.2 c19
      refine lv_aload_n hx hb dX9_isChordSign_21 rfl (lv_at hl 1 rfl) ?_
      refine va_get (D := D) (ci := 9) (v := .int (I 1)) (C := RX9) (T := TX9) (N := 44) hx hb hts (fun _ h9 => List.mem_cons_of_mem _ (List.mem_append_right _ h9)) hown hK hP 0 mAt0 rfl 12 (by decide) (hts _ (List.mem_of_getElem? (l := wsX9_isChordSign) (i := 3) rfl)) (fun _ h9 => h9) rfl dX9_isChordSign_22 ?_
      refine lv_bipush (v := (8 : Int32)) hx hb dX9_isChordSign_25 (by decide) ?_
      refine lv_icmp_ge (tgt := 37) hx hb dX9_isChordSign_27 (by decide) (fun c20 => ?_) (fun c20 => ?_)
      · have h := h.1 c20
        exact J37 a1 v17 I F hs _ _ _  hP hS (lv_sub hl [1, 2, 0] rfl) h
      · have h := h.2 c20
        refine lv_aload_n hx hb dX9_isChordSign_30 rfl (lv_at hl 1 rfl) ?_
        refine lv_iconst (v := (0 : Int32)) hx hb dX9_isChordSign_31 (by decide) ?_
        refine gPut (D := D) (ci := 9) (ty := .int) (C := RX9) (T := TX9) (N := 44) hx hb hts (fun _ h9 => List.mem_cons_of_mem _ (List.mem_append_right _ h9)) tyX9 tyX9_ok nmX9 hown hK hP (mD hq) hS 0 mAt0 rfl 13 (by decide) (hts _ (List.mem_of_getElem? (l := wsX9_isChordSign) (i := 2) rfl)) (fun _ h9 => h9) rfl (by decide +kernel) rfl rfl (Nat.le_of_ble_eq_true rfl) dX9_isChordSign_32 (mSet2 (0 : Int32)) (fun H locs hP hS => ?_)
        obtain ⟨I21, eI21⟩ : ∃ z : Nat → Int32, z = upd I 2 (0 : Int32) := ⟨_, rfl⟩
        rw [← eI21] at hP
        have h := h I21 eI21
        refine lv_iconst (v := (1 : Int32)) hx hb dX9_isChordSign_35 (by decide) ?_
        exact hret (1 : Int32) (I21, F, hs) _ _ _ _ dX9_isChordSign_36 hP hS (by decide) h
def w_X9_isGood (a1 : Int32) (I : Nat → Int32) (F : Nat → Nat → Int32) (hs : Int64) (post : Int32 → (Nat → Int32) → (Nat → Nat → Int32) → Int64 → Prop) : Prop :=
  vp_in a1 56 ∧ ∀ v1 : Int32, v1 = (F 11 (a1).toNatClampNeg) → (((7 : Int32) ≤ a1 → ((¬ a1 = (7 : Int32) → w_X9_isChordSign a1 I F hs (fun (r4 : Int32) (I5 : Nat → Int32) (F6 : Nat → Nat → Int32) (hs7 : Int64) => ((r4 = 0 ∨ r4 = 1) ∧ post r4 I5 F6 hs7))) ∧ (a1 = (7 : Int32) → ((¬ v1 = (59 : Int32) → post (0 : Int32) I F hs) ∧ (v1 = (59 : Int32) → post (1 : Int32) I F hs))))) ∧ (¬ (7 : Int32) ≤ a1 → w_X9_in ((v1).toInt64) (48 : Int64) (50 : Int64) I F hs (fun (r9 : Int32) => ((r9 = 0 ∨ r9 = 1) ∧ post r9 I F hs))))
set_option maxHeartbeats 4000000 in
set_option maxRecDepth 100000 in
theorem c_X9_isGood (l : Launch) (D : va_G) (q : Nat → Nat) (cI cO : ClassId) (hq : mOk q) (a1 : Int32)  (I : Nat → Int32) (F : Nat → Nat → Int32) (hs : Int64) (post : Int32 → (Nat → Int32) → (Nat → Nat → Int32) → Int64 → Prop) (h : w_X9_isGood a1 I F hs post) : Met l yX9_isGood wsX9_isGood ({ frames := 2, cells := 0, slots := 0, locals := 48 } : Room) (gPre D (mTys cI) (mW q cI cO I F hs) mEnv [.ref (q 0), .int a1]) (va_Qi (fun r (u : mS) => post r u.1 u.2.1 u.2.2) (gB D (fun u : mS => mW q cI cO u.1 u.2.1 u.2.2)) (mA q)) 0 0 (mA q) := by
  refine gMetZ (by decide) rfl (Nat.le_of_ble_eq_true rfl) ?_
  intro p e R s m args below meth c Q ls hR hx hb hml hown hts hK hE hP hl hret
  have hRf : 2 ≤ R.frames := by subst hR; exact Nat.le_refl _
  have hRl : 48 ≤ R.locals := by subst hR; exact Nat.le_refl _
  have hown : s.vm.findClass RX9 = some m.cls := hown
  have hl : lv_has ls 3 [(0, .ref (q 0)), (1, .int a1)] := hl
  have hS : va_S (mA q) s.heap s.heap [] := va_S.rf
  have hP : va_P D vwCl (mW q cI cO I F hs) s.heap := hP
  refine lv_aload_n hx hb dX9_isGood_0 rfl (lv_at hl 0 rfl) ?_
  refine va_get (D := D) (ci := 9) (v := .ref (q 11)) (C := RX9) (T := TX9) (N := 44) hx hb hts (fun _ h9 => List.mem_cons_of_mem _ (List.mem_append_right _ h9)) hown hK hP 0 mAt0 rfl 10 (by decide) (hts _ (List.mem_of_getElem? (l := wsX9_isGood) (i := 1) rfl)) (fun _ h9 => h9) rfl dX9_isGood_1 ?_
  refine lv_iload_n hx hb dX9_isGood_4 rfl (lv_at hl 1 rfl) ?_
  refine va_iald (D := D) hx hb hK hP 11 0 mAr11 rfl h.1 dX9_isGood_5 ?_
  have h := h.2
  refine lv_topi (fun v1 ev1 => ?_)
  have h := h v1 ev1
  refine lv_istore_n (lv' := [(2, .int v1), (0, .ref (q 0)), (1, .int a1)]) hx hb dX9_isGood_6 rfl hl (by decide) rfl (fun ls hl => ?_)
  refine lv_iload_n hx hb dX9_isGood_7 rfl (lv_at hl 2 rfl) ?_
  refine lv_bipush (v := (7 : Int32)) hx hb dX9_isGood_8 (by decide) ?_
  refine lv_icmp_ge (tgt := 25) hx hb dX9_isGood_10 (by decide) (fun c2 => ?_) (fun c2 => ?_)
  · have h := h.1 c2
    refine lv_iload_n hx hb dX9_isGood_25 rfl (lv_at hl 2 rfl) ?_
    refine lv_bipush (v := (7 : Int32)) hx hb dX9_isGood_26 (by decide) ?_
    refine lv_icmp_ne (tgt := 45) hx hb dX9_isGood_28 (by decide) (fun c3 => ?_) (fun c3 => ?_)
    · have h := h.1 c3
      refine lv_aload_n hx hb dX9_isGood_45 rfl (lv_at hl 1 rfl) ?_
      refine lv_iload_n hx hb dX9_isGood_46 rfl (lv_at hl 2 rfl) ?_
      refine gCallI (D := D) (va_runV (As := [.int a1]) (rest := []) ⟨hx, hb, hml, hown, hts⟩ (c_X9_isChordSign l D q cI cO hq a1  I F hs _ h) (cwV 1 hts gX9_isGood_X9_isChordSign rfl rfl rfl (by decide +kernel) ⟨Nat.le_trans (Nat.le_of_ble_eq_true rfl) hRf, Nat.le_trans (Nat.le_of_ble_eq_true rfl) hRl⟩) (gPreV (ci := 9) (q0 := 0) mEok hE hK hP hS rfl mAt0) rfl rfl hl.1 rfl (lv_room (Nat.le_of_ble_eq_true rfl)) dX9_isGood_47 ⟨Nat.zero_le _, Nat.zero_le _⟩) hS (fun r4 u H locs hP hS h => ?_)
      obtain ⟨I5, F6, hs7⟩ := u
      have hP : va_P D vwCl (mW q cI cO I5 F6 hs7) H := hP
      exact hret r4 (I5, F6, hs7) _ _ _ _ dX9_isGood_50 hP hS h.1 h.2
    · have h := h.2 c3
      refine lv_iload_n hx hb dX9_isGood_31 rfl (lv_at hl 0 rfl) ?_
      refine lv_bipush (v := (59 : Int32)) hx hb dX9_isGood_32 (by decide) ?_
      refine lv_icmp_ne (tgt := 41) hx hb dX9_isGood_34 (by decide) (fun c8 => ?_) (fun c8 => ?_)
      · have h := h.1 c8
        refine lv_iconst (v := (0 : Int32)) hx hb dX9_isGood_41 (by decide) ?_
        refine lv_goto (tgt := 50) hx hb dX9_isGood_42 (by decide) ?_
        exact hret (0 : Int32) (I, F, hs) _ _ _ _ dX9_isGood_50 hP hS (by decide) h
      · have h := h.2 c8
        refine lv_iconst (v := (1 : Int32)) hx hb dX9_isGood_37 (by decide) ?_
        refine lv_goto (tgt := 50) hx hb dX9_isGood_38 (by decide) ?_
        exact hret (1 : Int32) (I, F, hs) _ _ _ _ dX9_isGood_50 hP hS (by decide) h
  · have h := h.2 c2
    refine lv_iload_n hx hb dX9_isGood_13 rfl (lv_at hl 0 rfl) ?_
    refine lv_i2l (v := (v1).toInt64) hx hb dX9_isGood_14 rfl ?_
    refine lv_ldc2 (v := (48 : Int64)) hx hb hown (hts _ (List.mem_of_getElem? (l := wsX9_isGood) (i := 2) rfl)) dX9_isGood_15 ?_
    refine lv_ldc2 (v := (50 : Int64)) hx hb hown (hts _ (List.mem_of_getElem? (l := wsX9_isGood) (i := 3) rfl)) dX9_isGood_18 ?_
    refine gCallI (D := D) (va_runS (As := [.long ((v1).toInt64), .long (48 : Int64), .long (50 : Int64)]) (rest := []) ⟨hx, hb, hml, hown, hts⟩ (c_X9_in l D q cI cO hq ((v1).toInt64) (48 : Int64) (50 : Int64)  I F hs _ h) (va_cwS 3 hts gX9_isGood_X9_in rfl rfl rfl (by decide +kernel) ⟨Nat.le_trans (Nat.le_of_ble_eq_true rfl) hRf, Nat.le_trans (Nat.le_of_ble_eq_true rfl) hRl⟩) (gPreS mEok hE hK hP hS) rfl rfl hl.1 rfl (lv_room (Nat.le_of_ble_eq_true rfl)) dX9_isGood_21 ⟨Nat.zero_le _, Nat.zero_le _⟩) hS (fun r9 _ H locs hP hS h => ?_)
    have hP : va_P D vwCl (mW q cI cO I F hs) H := hP
    exact hret r9 (I, F, hs) _ _ _ _ dX9_isGood_24 hP hS h.1 h.2
def w_X9_faultOf_B12  (k again : Int32 → (Nat → Int32) → (Nat → Nat → Int32) → Int64 → Prop) (x1 : Int32) (I : Nat → Int32) (F : Nat → Nat → Int32) (hs : Int64) : Prop :=
  (((I 0) ≤ x1 → k x1 I F hs) ∧ (¬ (I 0) ≤ x1 → w_X9_isGood x1 I F hs (fun (r2 : Int32) (I3 : Nat → Int32) (F4 : Nat → Nat → Int32) (hs5 : Int64) => ((r2 = 0 → k x1 I3 F4 hs5) ∧ (¬ r2 = 0 → again (x1 + (1 : Int32)) I3 F4 hs5)))))
def w_X9_faultOf  (I : Nat → Int32) (F : Nat → Nat → Int32) (hs : Int64) (post : Int32 → (Nat → Int32) → (Nat → Nat → Int32) → Int64 → Prop) : Prop :=
  ∀ I7 : Nat → Int32, I7 = upd I 1 (0 : Int32) → ∀ I8 : Nat → Int32, I8 = upd I7 2 (0 : Int32) → gL (fun ag v => w_X9_faultOf_B12  (fun (y9 : Int32) (I10 : Nat → Int32) (F11 : Nat → Nat → Int32) (hs12 : Int64) => post y9 I10 F11 hs12) (fun b0 b1 b2 b3 => ag (b0, b1, b2, b3)) v.1 v.2.1 v.2.2.1 v.2.2.2) ((0 : Int32), I8, F, hs)
set_option maxHeartbeats 4000000 in
set_option maxRecDepth 100000 in
theorem c_X9_faultOf (l : Launch) (D : va_G) (q : Nat → Nat) (cI cO : ClassId) (hq : mOk q)   (I : Nat → Int32) (F : Nat → Nat → Int32) (hs : Int64) (post : Int32 → (Nat → Int32) → (Nat → Nat → Int32) → Int64 → Prop) (h : w_X9_faultOf  I F hs post) : Met l yX9_faultOf wsX9_faultOf ({ frames := 3, cells := 0, slots := 0, locals := 70 } : Room) (gPre D (mTys cI) (mW q cI cO I F hs) mEnv [.ref (q 0)]) (va_Qi (fun r (u : mS) => post r u.1 u.2.1 u.2.2) (gB D (fun u : mS => mW q cI cO u.1 u.2.1 u.2.2)) (mA q)) 0 0 (mA q) := by
  refine gMetI (by decide) rfl (Nat.le_of_ble_eq_true rfl) ?_
  intro p e R s m args below meth c Q ls hR hx hb hml hown hts hK hE hP hl hret
  have hRf : 3 ≤ R.frames := by subst hR; exact Nat.le_refl _
  have hRl : 70 ≤ R.locals := by subst hR; exact Nat.le_refl _
  have hown : s.vm.findClass RX9 = some m.cls := hown
  have hl : lv_has ls 2 [(0, .ref (q 0))] := hl
  have hS : va_S (mA q) s.heap s.heap [] := va_S.rf
  have hP : va_P D vwCl (mW q cI cO I F hs) s.heap := hP
  have L12 : ∀ (n : Nat)  (k : Int32 → (Nat → Int32) → (Nat → Nat → Int32) → Int64 → Prop) (x1 : Int32) (I : Nat → Int32) (F : Nat → Nat → Int32) (hs : Int64) (H : Heap) (locs : List Loc) (ls : Array Slot), va_P D vwCl (mW q cI cO I F hs) H → va_S (mA q) s.heap H locs → lv_has ls 2 [(0, .ref (q 0)), (1, .int x1)] → gLN (fun ag v => w_X9_faultOf_B12  k (fun b0 b1 b2 b3 => ag (b0, b1, b2, b3)) v.1 v.2.1 v.2.2.1 v.2.2.2) n (x1, I, F, hs) → (∀ (x1 : Int32) (I : Nat → Int32) (F : Nat → Nat → Int32) (hs : Int64) (H : Heap) (locs : List Loc) (ls : Array Slot), va_P D vwCl (mW q cI cO I F hs) H → va_S (mA q) s.heap H locs → lv_has ls 2 [(1, .int x1)] → k x1 I F hs → W p l e R s m args below meth c H locs 0 0 Q (F0 m 34 ls [])) → W p l e R s m args below meth c H locs 0 0 Q (F0 m 12 ls []) := by
    intro n
    induction n with
    | zero =>
      intro  k x1 I F hs H locs ls  hP hS hl h K
      exact False.elim h
    | succ n ih =>
      intro  k x1 I F hs H locs ls  hP hS hl h K
      have h : w_X9_faultOf_B12  k (fun b0 b1 b2 b3 => gLN (fun ag v => w_X9_faultOf_B12  k (fun b0 b1 b2 b3 => ag (b0, b1, b2, b3)) v.1 v.2.1 v.2.2.1 v.2.2.2) n (b0, b1, b2, b3)) x1 I F hs := h
      refine lv_iload_n hx hb dX9_faultOf_12 rfl (lv_at hl 1 rfl) ?_
      refine lv_aload_n hx hb dX9_faultOf_13 rfl (lv_at hl 0 rfl) ?_
      refine va_get (D := D) (ci := 9) (v := .int (I 0)) (C := RX9) (T := TX9) (N := 44) hx hb hts (fun _ h9 => List.mem_cons_of_mem _ (List.mem_append_right _ h9)) hown hK hP 0 mAt0 rfl 11 (by decide) (hts _ (List.mem_of_getElem? (l := wsX9_faultOf) (i := 3) rfl)) (fun _ h9 => h9) rfl dX9_faultOf_14 ?_
      refine lv_icmp_ge (tgt := 34) hx hb dX9_faultOf_17 (by decide) (fun c1 => ?_) (fun c1 => ?_)
      · have h := h.1 c1
        exact K x1 I F hs _ _ _  hP hS (lv_sub hl [1] rfl) h
      · have h := h.2 c1
        refine lv_aload_n hx hb dX9_faultOf_20 rfl (lv_at hl 0 rfl) ?_
        refine lv_iload_n hx hb dX9_faultOf_21 rfl (lv_at hl 1 rfl) ?_
        refine gCallI (D := D) (va_runV (As := [.int x1]) (rest := []) ⟨hx, hb, hml, hown, hts⟩ (c_X9_isGood l D q cI cO hq x1  I F hs _ h) (cwV 1 hts gX9_faultOf_X9_isGood rfl rfl rfl (by decide +kernel) ⟨Nat.le_trans (Nat.le_of_ble_eq_true rfl) hRf, Nat.le_trans (Nat.le_of_ble_eq_true rfl) hRl⟩) (gPreV (ci := 9) (q0 := 0) mEok hE hK hP hS rfl mAt0) rfl rfl hl.1 rfl (lv_room (Nat.le_of_ble_eq_true rfl)) dX9_faultOf_22 ⟨Nat.zero_le _, Nat.zero_le _⟩) hS (fun r2 u H locs hP hS h => ?_)
        obtain ⟨I3, F4, hs5⟩ := u
        have hP : va_P D vwCl (mW q cI cO I3 F4 hs5) H := hP
        refine lv_if_eq (tgt := 34) hx hb dX9_faultOf_25 (by decide) (fun c6 => ?_) (fun c6 => ?_)
        · have h := h.1 c6
          exact K x1 I3 F4 hs5 _ _ _  hP hS (lv_sub hl [1] rfl) h
        · have h := h.2 c6
          refine lv_iinc (v := (x1 + (1 : Int32))) (lv' := [(1, .int (x1 + (1 : Int32))), (0, .ref (q 0))]) hx hb dX9_faultOf_28 hl (k := 1) rfl rfl (by decide) rfl (fun ls hl => ?_)
          refine lv_goto (tgt := 12) hx hb dX9_faultOf_31 (by decide) ?_
          exact ih  _ (x1 + (1 : Int32)) I3 F4 hs5 _ _ _  hP hS (lv_sub hl [1, 0] rfl) h K
  refine lv_aload_n hx hb dX9_faultOf_0 rfl (lv_at hl 0 rfl) ?_
  refine lv_iconst (v := (0 : Int32)) hx hb dX9_faultOf_1 (by decide) ?_
  refine gPut (D := D) (ci := 9) (ty := .int) (C := RX9) (T := TX9) (N := 44) hx hb hts (fun _ h9 => List.mem_cons_of_mem _ (List.mem_append_right _ h9)) tyX9 tyX9_ok nmX9 hown hK hP (mD hq) hS 0 mAt0 rfl 12 (by decide) (hts _ (List.mem_of_getElem? (l := wsX9_faultOf) (i := 1) rfl)) (fun _ h9 => h9) rfl (by decide +kernel) rfl rfl (Nat.le_of_ble_eq_true rfl) dX9_faultOf_2 (mSet1 (0 : Int32)) (fun H locs hP hS => ?_)
  obtain ⟨I7, eI7⟩ : ∃ z : Nat → Int32, z = upd I 1 (0 : Int32) := ⟨_, rfl⟩
  rw [← eI7] at hP
  have h := h I7 eI7
  refine lv_aload_n hx hb dX9_faultOf_5 rfl (lv_at hl 0 rfl) ?_
  refine lv_iconst (v := (0 : Int32)) hx hb dX9_faultOf_6 (by decide) ?_
  refine gPut (D := D) (ci := 9) (ty := .int) (C := RX9) (T := TX9) (N := 44) hx hb hts (fun _ h9 => List.mem_cons_of_mem _ (List.mem_append_right _ h9)) tyX9 tyX9_ok nmX9 hown hK hP (mD hq) hS 0 mAt0 rfl 13 (by decide) (hts _ (List.mem_of_getElem? (l := wsX9_faultOf) (i := 2) rfl)) (fun _ h9 => h9) rfl (by decide +kernel) rfl rfl (Nat.le_of_ble_eq_true rfl) dX9_faultOf_7 (mSet2 (0 : Int32)) (fun H locs hP hS => ?_)
  obtain ⟨I8, eI8⟩ : ∃ z : Nat → Int32, z = upd I7 2 (0 : Int32) := ⟨_, rfl⟩
  rw [← eI8] at hP
  have h := h I8 eI8
  refine lv_iconst (v := (0 : Int32)) hx hb dX9_faultOf_10 (by decide) ?_
  refine lv_istore_n (lv' := [(1, .int (0 : Int32)), (0, .ref (q 0))]) hx hb dX9_faultOf_11 rfl hl (by decide) rfl (fun ls hl => ?_)
  obtain ⟨n, h⟩ := h
  refine L12 n  _ (0 : Int32) I8 F hs _ _ _  hP hS (lv_sub hl [1, 0] rfl) h (fun y9 I10 F11 hs12 H locs ls  hP hS hl h => ?_)
  refine lv_iload_n hx hb dX9_faultOf_34 rfl (lv_at hl 0 rfl) ?_
  exact hret y9 (I10, F11, hs12) _ _ _ _ dX9_faultOf_35 hP hS h
def w_X9_fault  (I : Nat → Int32) (F : Nat → Nat → Int32) (hs : Int64) (post : Int32 → (Nat → Int32) → (Nat → Nat → Int32) → Int64 → Prop) : Prop :=
  w_X9_faultOf I F hs (fun (r1 : Int32) (I2 : Nat → Int32) (F3 : Nat → Nat → Int32) (hs4 : Int64) => post r1 I2 F3 hs4)
set_option maxHeartbeats 4000000 in
set_option maxRecDepth 100000 in
theorem c_X9_fault (l : Launch) (D : va_G) (q : Nat → Nat) (cI cO : ClassId) (hq : mOk q)   (I : Nat → Int32) (F : Nat → Nat → Int32) (hs : Int64) (post : Int32 → (Nat → Int32) → (Nat → Nat → Int32) → Int64 → Prop) (h : w_X9_fault  I F hs post) : Met l yX9_fault wsX9_fault ({ frames := 4, cells := 0, slots := 0, locals := 91 } : Room) (gPre D (mTys cI) (mW q cI cO I F hs) mEnv [.ref (q 0)]) (va_Qi (fun r (u : mS) => post r u.1 u.2.1 u.2.2) (gB D (fun u : mS => mW q cI cO u.1 u.2.1 u.2.2)) (mA q)) 0 0 (mA q) := by
  refine gMetI (by decide) rfl (Nat.le_of_ble_eq_true rfl) ?_
  intro p e R s m args below meth c Q ls hR hx hb hml hown hts hK hE hP hl hret
  have hRf : 4 ≤ R.frames := by subst hR; exact Nat.le_refl _
  have hRl : 91 ≤ R.locals := by subst hR; exact Nat.le_refl _
  have hown : s.vm.findClass RX9 = some m.cls := hown
  have hl : lv_has ls 1 [(0, .ref (q 0))] := hl
  have hS : va_S (mA q) s.heap s.heap [] := va_S.rf
  have hP : va_P D vwCl (mW q cI cO I F hs) s.heap := hP
  refine lv_aload_n hx hb dX9_fault_0 rfl (lv_at hl 0 rfl) ?_
  refine gCallI (D := D) (va_runV (As := []) (rest := []) ⟨hx, hb, hml, hown, hts⟩ (c_X9_faultOf l D q cI cO hq   I F hs _ h) (cwV 0 hts gX9_fault_X9_faultOf rfl rfl rfl (by decide +kernel) ⟨Nat.le_trans (Nat.le_of_ble_eq_true rfl) hRf, Nat.le_trans (Nat.le_of_ble_eq_true rfl) hRl⟩) (gPreV (ci := 9) (q0 := 0) mEok hE hK hP hS rfl mAt0) rfl rfl hl.1 rfl (lv_room (Nat.le_of_ble_eq_true rfl)) dX9_fault_1 ⟨Nat.zero_le _, Nat.zero_le _⟩) hS (fun r1 u H locs hP hS h => ?_)
  obtain ⟨I2, F3, hs4⟩ := u
  have hP : va_P D vwCl (mW q cI cO I2 F3 hs4) H := hP
  exact hret r1 (I2, F3, hs4) _ _ _ _ dX9_fault_4 hP hS h
def w_X9_copy_12_14_B2  (k again : Int32 → (Nat → Int32) → (Nat → Nat → Int32) → Int64 → Prop) (x2 : Int32) (I : Nat → Int32) (F : Nat → Nat → Int32) (hs : Int64) : Prop :=
  (((8 : Int32) ≤ x2 → k x2 I F hs) ∧ (¬ (8 : Int32) ≤ x2 → vp_in x2 8 ∧ vp_in x2 8 ∧ ∀ F2 : Nat → Nat → Int32, F2 = upF F 14 (upd (F 14) (x2).toNatClampNeg (F 12 (x2).toNatClampNeg)) → again (x2 + (1 : Int32)) I F2 hs))
def w_X9_copy_12_14  (I : Nat → Int32) (F : Nat → Nat → Int32) (hs : Int64) (post : (Nat → Int32) → (Nat → Nat → Int32) → Int64 → Prop) : Prop :=
  gL (fun ag v => w_X9_copy_12_14_B2  (fun (y3 : Int32) (I4 : Nat → Int32) (F5 : Nat → Nat → Int32) (hs6 : Int64) => post I4 F5 hs6) (fun b0 b1 b2 b3 => ag (b0, b1, b2, b3)) v.1 v.2.1 v.2.2.1 v.2.2.2) ((0 : Int32), I, F, hs)
set_option maxHeartbeats 4000000 in
set_option maxRecDepth 100000 in
theorem c_X9_copy_12_14 (l : Launch) (D : va_G) (q : Nat → Nat) (cI cO : ClassId) (hq : mOk q)   (I : Nat → Int32) (F : Nat → Nat → Int32) (hs : Int64) (post : (Nat → Int32) → (Nat → Nat → Int32) → Int64 → Prop) (h : w_X9_copy_12_14  I F hs post) : Met l yX9_copy wsX9_copy ({ frames := 0, cells := 0, slots := 0, locals := 0 } : Room) (gPre D (mTys cI) (mW q cI cO I F hs) mEnv [.ref (q 12), .ref (q 14)]) (va_Qv (fun (u : mS) => post u.1 u.2.1 u.2.2) (gB D (fun u : mS => mW q cI cO u.1 u.2.1 u.2.2)) (mA q)) 0 0 (mA q) := by
  refine gMetV (by decide) rfl (Nat.le_of_ble_eq_true rfl) ?_
  intro p e R s m args below meth c Q ls hR hx hb hml hown hts hK hE hP hl hret
  have hRf : 0 ≤ R.frames := by subst hR; exact Nat.le_refl _
  have hRl : 0 ≤ R.locals := by subst hR; exact Nat.le_refl _
  have hown : s.vm.findClass RX9 = some m.cls := hown
  have hl : lv_has ls 3 [(0, .ref (q 12)), (1, .ref (q 14))] := hl
  have hS : va_S (mA q) s.heap s.heap [] := va_S.rf
  have hP : va_P D vwCl (mW q cI cO I F hs) s.heap := hP
  have L2 : ∀ (n : Nat)  (k : Int32 → (Nat → Int32) → (Nat → Nat → Int32) → Int64 → Prop) (x2 : Int32) (I : Nat → Int32) (F : Nat → Nat → Int32) (hs : Int64) (H : Heap) (locs : List Loc) (ls : Array Slot), va_P D vwCl (mW q cI cO I F hs) H → va_S (mA q) s.heap H locs → lv_has ls 3 [(0, .ref (q 12)), (1, .ref (q 14)), (2, .int x2)] → gLN (fun ag v => w_X9_copy_12_14_B2  k (fun b0 b1 b2 b3 => ag (b0, b1, b2, b3)) v.1 v.2.1 v.2.2.1 v.2.2.2) n (x2, I, F, hs) → (∀ (x2 : Int32) (I : Nat → Int32) (F : Nat → Nat → Int32) (hs : Int64) (H : Heap) (locs : List Loc) (ls : Array Slot), va_P D vwCl (mW q cI cO I F hs) H → va_S (mA q) s.heap H locs → lv_has ls 3 [] → k x2 I F hs → W p l e R s m args below meth c H locs 0 0 Q (F0 m 20 ls [])) → W p l e R s m args below meth c H locs 0 0 Q (F0 m 2 ls []) := by
    intro n
    induction n with
    | zero =>
      intro  k x2 I F hs H locs ls  hP hS hl h K
      exact False.elim h
    | succ n ih =>
      intro  k x2 I F hs H locs ls  hP hS hl h K
      have h : w_X9_copy_12_14_B2  k (fun b0 b1 b2 b3 => gLN (fun ag v => w_X9_copy_12_14_B2  k (fun b0 b1 b2 b3 => ag (b0, b1, b2, b3)) v.1 v.2.1 v.2.2.1 v.2.2.2) n (b0, b1, b2, b3)) x2 I F hs := h
      refine lv_iload_n hx hb dX9_copy_2 rfl (lv_at hl 2 rfl) ?_
      refine lv_aload_n hx hb dX9_copy_3 rfl (lv_at hl 0 rfl) ?_
      refine va_alen (D := D) (v := (8 : Int32)) hx hb hK hP 12 0 mAr12 rfl rfl dX9_copy_4 ?_
      refine lv_icmp_ge (tgt := 20) hx hb dX9_copy_5 (by decide) (fun c1 => ?_) (fun c1 => ?_)
      · have h := h.1 c1
        exact K x2 I F hs _ _ _  hP hS (lv_sub hl [] rfl) h
      · have h := h.2 c1
        refine lv_aload_n hx hb dX9_copy_8 rfl (lv_at hl 1 rfl) ?_
        refine lv_iload_n hx hb dX9_copy_9 rfl (lv_at hl 2 rfl) ?_
        refine lv_aload_n hx hb dX9_copy_10 rfl (lv_at hl 0 rfl) ?_
        refine lv_iload_n hx hb dX9_copy_11 rfl (lv_at hl 2 rfl) ?_
        refine va_iald (D := D) hx hb hK hP 12 0 mAr12 rfl h.1 dX9_copy_12 ?_
        have h := h.2
        refine gAst (D := D) hx hb hK hP (mD hq) hS 14 0 mAr14 rfl h.1 dX9_copy_13 (mSA14 _) (fun H locs hP hS => ?_)
        obtain ⟨F2, eF2⟩ : ∃ z : Nat → Nat → Int32, z = upF F 14 (upd (F 14) (x2).toNatClampNeg (F 12 (x2).toNatClampNeg)) := ⟨_, rfl⟩
        rw [← eF2] at hP
        have h := h.2 F2 eF2
        refine lv_iinc (v := (x2 + (1 : Int32))) (lv' := [(2, .int (x2 + (1 : Int32))), (0, .ref (q 12)), (1, .ref (q 14))]) hx hb dX9_copy_14 hl (k := 2) rfl rfl (by decide) rfl (fun ls hl => ?_)
        refine lv_goto (tgt := 2) hx hb dX9_copy_17 (by decide) ?_
        exact ih  _ (x2 + (1 : Int32)) I F2 hs _ _ _  hP hS (lv_sub hl [1, 2, 0] rfl) h K
  refine lv_iconst (v := (0 : Int32)) hx hb dX9_copy_0 (by decide) ?_
  refine lv_istore_n (lv' := [(2, .int (0 : Int32)), (0, .ref (q 12)), (1, .ref (q 14))]) hx hb dX9_copy_1 rfl hl (by decide) rfl (fun ls hl => ?_)
  obtain ⟨n, h⟩ := h
  refine L2 n  _ (0 : Int32) I F hs _ _ _  hP hS (lv_sub hl [1, 2, 0] rfl) h (fun y3 I4 F5 hs6 H locs ls  hP hS hl h => ?_)
  exact hret (I4, F5, hs6) _ _ _ _ dX9_copy_20 hP hS h
def w_X9_copy_13_15_B2  (k again : Int32 → (Nat → Int32) → (Nat → Nat → Int32) → Int64 → Prop) (x2 : Int32) (I : Nat → Int32) (F : Nat → Nat → Int32) (hs : Int64) : Prop :=
  (((8 : Int32) ≤ x2 → k x2 I F hs) ∧ (¬ (8 : Int32) ≤ x2 → vp_in x2 8 ∧ vp_in x2 8 ∧ ∀ F2 : Nat → Nat → Int32, F2 = upF F 15 (upd (F 15) (x2).toNatClampNeg (F 13 (x2).toNatClampNeg)) → again (x2 + (1 : Int32)) I F2 hs))
def w_X9_copy_13_15  (I : Nat → Int32) (F : Nat → Nat → Int32) (hs : Int64) (post : (Nat → Int32) → (Nat → Nat → Int32) → Int64 → Prop) : Prop :=
  gL (fun ag v => w_X9_copy_13_15_B2  (fun (y3 : Int32) (I4 : Nat → Int32) (F5 : Nat → Nat → Int32) (hs6 : Int64) => post I4 F5 hs6) (fun b0 b1 b2 b3 => ag (b0, b1, b2, b3)) v.1 v.2.1 v.2.2.1 v.2.2.2) ((0 : Int32), I, F, hs)
set_option maxHeartbeats 4000000 in
set_option maxRecDepth 100000 in
theorem c_X9_copy_13_15 (l : Launch) (D : va_G) (q : Nat → Nat) (cI cO : ClassId) (hq : mOk q)   (I : Nat → Int32) (F : Nat → Nat → Int32) (hs : Int64) (post : (Nat → Int32) → (Nat → Nat → Int32) → Int64 → Prop) (h : w_X9_copy_13_15  I F hs post) : Met l yX9_copy wsX9_copy ({ frames := 0, cells := 0, slots := 0, locals := 0 } : Room) (gPre D (mTys cI) (mW q cI cO I F hs) mEnv [.ref (q 13), .ref (q 15)]) (va_Qv (fun (u : mS) => post u.1 u.2.1 u.2.2) (gB D (fun u : mS => mW q cI cO u.1 u.2.1 u.2.2)) (mA q)) 0 0 (mA q) := by
  refine gMetV (by decide) rfl (Nat.le_of_ble_eq_true rfl) ?_
  intro p e R s m args below meth c Q ls hR hx hb hml hown hts hK hE hP hl hret
  have hRf : 0 ≤ R.frames := by subst hR; exact Nat.le_refl _
  have hRl : 0 ≤ R.locals := by subst hR; exact Nat.le_refl _
  have hown : s.vm.findClass RX9 = some m.cls := hown
  have hl : lv_has ls 3 [(0, .ref (q 13)), (1, .ref (q 15))] := hl
  have hS : va_S (mA q) s.heap s.heap [] := va_S.rf
  have hP : va_P D vwCl (mW q cI cO I F hs) s.heap := hP
  have L2 : ∀ (n : Nat)  (k : Int32 → (Nat → Int32) → (Nat → Nat → Int32) → Int64 → Prop) (x2 : Int32) (I : Nat → Int32) (F : Nat → Nat → Int32) (hs : Int64) (H : Heap) (locs : List Loc) (ls : Array Slot), va_P D vwCl (mW q cI cO I F hs) H → va_S (mA q) s.heap H locs → lv_has ls 3 [(0, .ref (q 13)), (1, .ref (q 15)), (2, .int x2)] → gLN (fun ag v => w_X9_copy_13_15_B2  k (fun b0 b1 b2 b3 => ag (b0, b1, b2, b3)) v.1 v.2.1 v.2.2.1 v.2.2.2) n (x2, I, F, hs) → (∀ (x2 : Int32) (I : Nat → Int32) (F : Nat → Nat → Int32) (hs : Int64) (H : Heap) (locs : List Loc) (ls : Array Slot), va_P D vwCl (mW q cI cO I F hs) H → va_S (mA q) s.heap H locs → lv_has ls 3 [] → k x2 I F hs → W p l e R s m args below meth c H locs 0 0 Q (F0 m 20 ls [])) → W p l e R s m args below meth c H locs 0 0 Q (F0 m 2 ls []) := by
    intro n
    induction n with
    | zero =>
      intro  k x2 I F hs H locs ls  hP hS hl h K
      exact False.elim h
    | succ n ih =>
      intro  k x2 I F hs H locs ls  hP hS hl h K
      have h : w_X9_copy_13_15_B2  k (fun b0 b1 b2 b3 => gLN (fun ag v => w_X9_copy_13_15_B2  k (fun b0 b1 b2 b3 => ag (b0, b1, b2, b3)) v.1 v.2.1 v.2.2.1 v.2.2.2) n (b0, b1, b2, b3)) x2 I F hs := h
      refine lv_iload_n hx hb dX9_copy_2 rfl (lv_at hl 2 rfl) ?_
      refine lv_aload_n hx hb dX9_copy_3 rfl (lv_at hl 0 rfl) ?_
      refine va_alen (D := D) (v := (8 : Int32)) hx hb hK hP 13 0 mAr13 rfl rfl dX9_copy_4 ?_
      refine lv_icmp_ge (tgt := 20) hx hb dX9_copy_5 (by decide) (fun c1 => ?_) (fun c1 => ?_)
      · have h := h.1 c1
        exact K x2 I F hs _ _ _  hP hS (lv_sub hl [] rfl) h
      · have h := h.2 c1
        refine lv_aload_n hx hb dX9_copy_8 rfl (lv_at hl 1 rfl) ?_
        refine lv_iload_n hx hb dX9_copy_9 rfl (lv_at hl 2 rfl) ?_
        refine lv_aload_n hx hb dX9_copy_10 rfl (lv_at hl 0 rfl) ?_
        refine lv_iload_n hx hb dX9_copy_11 rfl (lv_at hl 2 rfl) ?_
        refine va_iald (D := D) hx hb hK hP 13 0 mAr13 rfl h.1 dX9_copy_12 ?_
        have h := h.2
        refine gAst (D := D) hx hb hK hP (mD hq) hS 15 0 mAr15 rfl h.1 dX9_copy_13 (mSA15 _) (fun H locs hP hS => ?_)
        obtain ⟨F2, eF2⟩ : ∃ z : Nat → Nat → Int32, z = upF F 15 (upd (F 15) (x2).toNatClampNeg (F 13 (x2).toNatClampNeg)) := ⟨_, rfl⟩
        rw [← eF2] at hP
        have h := h.2 F2 eF2
        refine lv_iinc (v := (x2 + (1 : Int32))) (lv' := [(2, .int (x2 + (1 : Int32))), (0, .ref (q 13)), (1, .ref (q 15))]) hx hb dX9_copy_14 hl (k := 2) rfl rfl (by decide) rfl (fun ls hl => ?_)
        refine lv_goto (tgt := 2) hx hb dX9_copy_17 (by decide) ?_
        exact ih  _ (x2 + (1 : Int32)) I F2 hs _ _ _  hP hS (lv_sub hl [1, 2, 0] rfl) h K
  refine lv_iconst (v := (0 : Int32)) hx hb dX9_copy_0 (by decide) ?_
  refine lv_istore_n (lv' := [(2, .int (0 : Int32)), (0, .ref (q 13)), (1, .ref (q 15))]) hx hb dX9_copy_1 rfl hl (by decide) rfl (fun ls hl => ?_)
  obtain ⟨n, h⟩ := h
  refine L2 n  _ (0 : Int32) I F hs _ _ _  hP hS (lv_sub hl [1, 2, 0] rfl) h (fun y3 I4 F5 hs6 H locs ls  hP hS hl h => ?_)
  exact hret (I4, F5, hs6) _ _ _ _ dX9_copy_20 hP hS h
def w_X9_part_B29  (k again : Int32 → (Nat → Int32) → (Nat → Nat → Int32) → Int64 → Prop) (x1 : Int32) (I : Nat → Int32) (F : Nat → Nat → Int32) (hs : Int64) : Prop :=
  (((7 : Int32) ≤ x1 → k x1 I F hs) ∧ (¬ (7 : Int32) ≤ x1 → vp_in x1 56 ∧ ∀ I2 : Nat → Int32, I2 = upd I 4 ((((3 : Int32) * (I 4)) + (F 11 (x1).toNatClampNeg)) - (48 : Int32)) → again (x1 + (1 : Int32)) I2 F hs))
def w_X9_part  (I : Nat → Int32) (F : Nat → Nat → Int32) (hs : Int64) (post : Int32 → (Nat → Int32) → (Nat → Nat → Int32) → Int64 → Prop) : Prop :=
  w_X9_faultOf I F hs (fun (r3 : Int32) (I4 : Nat → Int32) (F5 : Nat → Nat → Int32) (hs6 : Int64) => ((r3 < (I4 0) → post (-103 : Int32) I4 F5 hs6) ∧ (¬ r3 < (I4 0) → (((2 : Int32) ≤ (I4 2) → ∀ I9 : Nat → Int32, I9 = upd I4 4 (0 : Int32) → gL (fun ag v => w_X9_part_B29  (fun (y10 : Int32) (I11 : Nat → Int32) (F12 : Nat → Nat → Int32) (hs13 : Int64) => ∀ I14 : Nat → Int32, I14 = upd I11 3 (I11 1) → w_X9_copy_12_14 I14 F12 hs13 (fun (I15 : Nat → Int32) (F16 : Nat → Nat → Int32) (hs17 : Int64) => w_X9_copy_13_15 I15 F16 hs17 (fun (I18 : Nat → Int32) (F19 : Nat → Nat → Int32) (hs20 : Int64) => ∀ I21 : Nat → Int32, I21 = upd I18 11 (0 : Int32) → ∀ I22 : Nat → Int32, I22 = upd I21 5 ((I21 5) + (1 : Int32)) → ∀ I23 : Nat → Int32, I23 = upd I22 0 (0 : Int32) → ∀ I24 : Nat → Int32, I24 = upd I23 6 (1 : Int32) → post (I24 3) I24 F19 hs20))) (fun b0 b1 b2 b3 => ag (b0, b1, b2, b3)) v.1 v.2.1 v.2.2.1 v.2.2.2) ((0 : Int32), I9, F5, hs6)) ∧ (¬ (2 : Int32) ≤ (I4 2) → post (-103 : Int32) I4 F5 hs6)))))
set_option maxHeartbeats 4000000 in
set_option maxRecDepth 100000 in
theorem c_X9_part (l : Launch) (D : va_G) (q : Nat → Nat) (cI cO : ClassId) (hq : mOk q)   (I : Nat → Int32) (F : Nat → Nat → Int32) (hs : Int64) (post : Int32 → (Nat → Int32) → (Nat → Nat → Int32) → Int64 → Prop) (h : w_X9_part  I F hs post) : Met l yX9_part wsX9_part ({ frames := 4, cells := 0, slots := 0, locals := 91 } : Room) (gPre D (mTys cI) (mW q cI cO I F hs) mEnv [.ref (q 0)]) (va_Qi (fun r (u : mS) => post r u.1 u.2.1 u.2.2) (gB D (fun u : mS => mW q cI cO u.1 u.2.1 u.2.2)) (mA q)) 0 0 (mA q) := by
  refine gMetI (by decide) rfl (Nat.le_of_ble_eq_true rfl) ?_
  intro p e R s m args below meth c Q ls hR hx hb hml hown hts hK hE hP hl hret
  have hRf : 4 ≤ R.frames := by subst hR; exact Nat.le_refl _
  have hRl : 91 ≤ R.locals := by subst hR; exact Nat.le_refl _
  have hown : s.vm.findClass RX9 = some m.cls := hown
  have hl : lv_has ls 2 [(0, .ref (q 0))] := hl
  have hS : va_S (mA q) s.heap s.heap [] := va_S.rf
  have hP : va_P D vwCl (mW q cI cO I F hs) s.heap := hP
  have L29 : ∀ (n : Nat)  (k : Int32 → (Nat → Int32) → (Nat → Nat → Int32) → Int64 → Prop) (x1 : Int32) (I : Nat → Int32) (F : Nat → Nat → Int32) (hs : Int64) (H : Heap) (locs : List Loc) (ls : Array Slot), va_P D vwCl (mW q cI cO I F hs) H → va_S (mA q) s.heap H locs → lv_has ls 2 [(0, .ref (q 0)), (1, .int x1)] → gLN (fun ag v => w_X9_part_B29  k (fun b0 b1 b2 b3 => ag (b0, b1, b2, b3)) v.1 v.2.1 v.2.2.1 v.2.2.2) n (x1, I, F, hs) → (∀ (x1 : Int32) (I : Nat → Int32) (F : Nat → Nat → Int32) (hs : Int64) (H : Heap) (locs : List Loc) (ls : Array Slot), va_P D vwCl (mW q cI cO I F hs) H → va_S (mA q) s.heap H locs → lv_has ls 2 [(0, .ref (q 0))] → k x1 I F hs → W p l e R s m args below meth c H locs 0 0 Q (F0 m 61 ls [])) → W p l e R s m args below meth c H locs 0 0 Q (F0 m 29 ls []) := by
    intro n
    induction n with
    | zero =>
      intro  k x1 I F hs H locs ls  hP hS hl h K
      exact False.elim h
    | succ n ih =>
      intro  k x1 I F hs H locs ls  hP hS hl h K
      have h : w_X9_part_B29  k (fun b0 b1 b2 b3 => gLN (fun ag v => w_X9_part_B29  k (fun b0 b1 b2 b3 => ag (b0, b1, b2, b3)) v.1 v.2.1 v.2.2.1 v.2.2.2) n (b0, b1, b2, b3)) x1 I F hs := h
      refine lv_iload_n hx hb dX9_part_29 rfl (lv_at hl 1 rfl) ?_
      refine lv_bipush (v := (7 : Int32)) hx hb dX9_part_30 (by decide) ?_
      refine lv_icmp_ge (tgt := 61) hx hb dX9_part_32 (by decide) (fun c1 => ?_) (fun c1 => ?_)
      · have h := h.1 c1
        exact K x1 I F hs _ _ _  hP hS (lv_sub hl [0] rfl) h
      · have h := h.2 c1
        refine lv_aload_n hx hb dX9_part_35 rfl (lv_at hl 0 rfl) ?_
        refine lv_iconst (v := (3 : Int32)) hx hb dX9_part_36 (by decide) ?_
        refine lv_aload_n hx hb dX9_part_37 rfl (lv_at hl 0 rfl) ?_
        refine va_get (D := D) (ci := 9) (v := .int (I 4)) (C := RX9) (T := TX9) (N := 44) hx hb hts (fun _ h9 => List.mem_cons_of_mem _ (List.mem_append_right _ h9)) hown hK hP 0 mAt0 rfl 17 (by decide) (hts _ (List.mem_of_getElem? (l := wsX9_part) (i := 3) rfl)) (fun _ h9 => h9) rfl dX9_part_38 ?_
        refine lv_imul hx hb dX9_part_41 ?_
        refine lv_aload_n hx hb dX9_part_42 rfl (lv_at hl 0 rfl) ?_
        refine va_get (D := D) (ci := 9) (v := .ref (q 11)) (C := RX9) (T := TX9) (N := 44) hx hb hts (fun _ h9 => List.mem_cons_of_mem _ (List.mem_append_right _ h9)) hown hK hP 0 mAt0 rfl 10 (by decide) (hts _ (List.mem_of_getElem? (l := wsX9_part) (i := 4) rfl)) (fun _ h9 => h9) rfl dX9_part_43 ?_
        refine lv_iload_n hx hb dX9_part_46 rfl (lv_at hl 1 rfl) ?_
        refine va_iald (D := D) hx hb hK hP 11 0 mAr11 rfl h.1 dX9_part_47 ?_
        have h := h.2
        refine lv_iadd hx hb dX9_part_48 ?_
        refine lv_bipush (v := (48 : Int32)) hx hb dX9_part_49 (by decide) ?_
        refine lv_isub hx hb dX9_part_51 ?_
        refine gPut (D := D) (ci := 9) (ty := .int) (C := RX9) (T := TX9) (N := 44) hx hb hts (fun _ h9 => List.mem_cons_of_mem _ (List.mem_append_right _ h9)) tyX9 tyX9_ok nmX9 hown hK hP (mD hq) hS 0 mAt0 rfl 17 (by decide) (hts _ (List.mem_of_getElem? (l := wsX9_part) (i := 3) rfl)) (fun _ h9 => h9) rfl (by decide +kernel) rfl rfl (Nat.le_of_ble_eq_true rfl) dX9_part_52 (mSet4 ((((3 : Int32) * (I 4)) + (F 11 (x1).toNatClampNeg)) - (48 : Int32))) (fun H locs hP hS => ?_)
        obtain ⟨I2, eI2⟩ : ∃ z : Nat → Int32, z = upd I 4 ((((3 : Int32) * (I 4)) + (F 11 (x1).toNatClampNeg)) - (48 : Int32)) := ⟨_, rfl⟩
        rw [← eI2] at hP
        have h := h I2 eI2
        refine lv_iinc (v := (x1 + (1 : Int32))) (lv' := [(1, .int (x1 + (1 : Int32))), (0, .ref (q 0))]) hx hb dX9_part_55 hl (k := 1) rfl rfl (by decide) rfl (fun ls hl => ?_)
        refine lv_goto (tgt := 29) hx hb dX9_part_58 (by decide) ?_
        exact ih  _ (x1 + (1 : Int32)) I2 F hs _ _ _  hP hS (lv_sub hl [1, 0] rfl) h K
  refine lv_aload_n hx hb dX9_part_0 rfl (lv_at hl 0 rfl) ?_
  refine gCallI (D := D) (va_runV (As := []) (rest := []) ⟨hx, hb, hml, hown, hts⟩ (c_X9_faultOf l D q cI cO hq   I F hs _ h) (cwV 0 hts gX9_part_X9_faultOf rfl rfl rfl (by decide +kernel) ⟨Nat.le_trans (Nat.le_of_ble_eq_true rfl) hRf, Nat.le_trans (Nat.le_of_ble_eq_true rfl) hRl⟩) (gPreV (ci := 9) (q0 := 0) mEok hE hK hP hS rfl mAt0) rfl rfl hl.1 rfl (lv_room (Nat.le_of_ble_eq_true rfl)) dX9_part_1 ⟨Nat.zero_le _, Nat.zero_le _⟩) hS (fun r3 u H locs hP hS h => ?_)
  obtain ⟨I4, F5, hs6⟩ := u
  have hP : va_P D vwCl (mW q cI cO I4 F5 hs6) H := hP
  refine lv_aload_n hx hb dX9_part_4 rfl (lv_at hl 0 rfl) ?_
  refine va_get (D := D) (ci := 9) (v := .int (I4 0)) (C := RX9) (T := TX9) (N := 44) hx hb hts (fun _ h9 => List.mem_cons_of_mem _ (List.mem_append_right _ h9)) hown hK hP 0 mAt0 rfl 11 (by decide) (hts _ (List.mem_of_getElem? (l := wsX9_part) (i := 1) rfl)) (fun _ h9 => h9) rfl dX9_part_5 ?_
  refine lv_icmp_lt (tgt := 19) hx hb dX9_part_8 (by decide) (fun c7 => ?_) (fun c7 => ?_)
  · have h := h.1 c7
    refine lv_bipush (v := (-103 : Int32)) hx hb dX9_part_19 (by decide) ?_
    exact hret (-103 : Int32) (I4, F5, hs6) _ _ _ _ dX9_part_21 hP hS h
  · have h := h.2 c7
    refine lv_aload_n hx hb dX9_part_11 rfl (lv_at hl 0 rfl) ?_
    refine va_get (D := D) (ci := 9) (v := .int (I4 2)) (C := RX9) (T := TX9) (N := 44) hx hb hts (fun _ h9 => List.mem_cons_of_mem _ (List.mem_append_right _ h9)) hown hK hP 0 mAt0 rfl 13 (by decide) (hts _ (List.mem_of_getElem? (l := wsX9_part) (i := 2) rfl)) (fun _ h9 => h9) rfl dX9_part_12 ?_
    refine lv_iconst (v := (2 : Int32)) hx hb dX9_part_15 (by decide) ?_
    refine lv_icmp_ge (tgt := 22) hx hb dX9_part_16 (by decide) (fun c8 => ?_) (fun c8 => ?_)
    · have h := h.1 c8
      refine lv_aload_n hx hb dX9_part_22 rfl (lv_at hl 0 rfl) ?_
      refine lv_iconst (v := (0 : Int32)) hx hb dX9_part_23 (by decide) ?_
      refine gPut (D := D) (ci := 9) (ty := .int) (C := RX9) (T := TX9) (N := 44) hx hb hts (fun _ h9 => List.mem_cons_of_mem _ (List.mem_append_right _ h9)) tyX9 tyX9_ok nmX9 hown hK hP (mD hq) hS 0 mAt0 rfl 17 (by decide) (hts _ (List.mem_of_getElem? (l := wsX9_part) (i := 3) rfl)) (fun _ h9 => h9) rfl (by decide +kernel) rfl rfl (Nat.le_of_ble_eq_true rfl) dX9_part_24 (mSet4 (0 : Int32)) (fun H locs hP hS => ?_)
      obtain ⟨I9, eI9⟩ : ∃ z : Nat → Int32, z = upd I4 4 (0 : Int32) := ⟨_, rfl⟩
      rw [← eI9] at hP
      have h := h I9 eI9
      refine lv_iconst (v := (0 : Int32)) hx hb dX9_part_27 (by decide) ?_
      refine lv_istore_n (lv' := [(1, .int (0 : Int32)), (0, .ref (q 0))]) hx hb dX9_part_28 rfl hl (by decide) rfl (fun ls hl => ?_)
      obtain ⟨n, h⟩ := h
      refine L29 n  _ (0 : Int32) I9 F5 hs6 _ _ _  hP hS (lv_sub hl [1, 0] rfl) h (fun y10 I11 F12 hs13 H locs ls  hP hS hl h => ?_)
      refine lv_aload_n hx hb dX9_part_61 rfl (lv_at hl 0 rfl) ?_
      refine lv_aload_n hx hb dX9_part_62 rfl (lv_at hl 0 rfl) ?_
      refine va_get (D := D) (ci := 9) (v := .int (I11 1)) (C := RX9) (T := TX9) (N := 44) hx hb hts (fun _ h9 => List.mem_cons_of_mem _ (List.mem_append_right _ h9)) hown hK hP 0 mAt0 rfl 12 (by decide) (hts _ (List.mem_of_getElem? (l := wsX9_part) (i := 5) rfl)) (fun _ h9 => h9) rfl dX9_part_63 ?_
      refine gPut (D := D) (ci := 9) (ty := .int) (C := RX9) (T := TX9) (N := 44) hx hb hts (fun _ h9 => List.mem_cons_of_mem _ (List.mem_append_right _ h9)) tyX9 tyX9_ok nmX9 hown hK hP (mD hq) hS 0 mAt0 rfl 16 (by decide) (hts _ (List.mem_of_getElem? (l := wsX9_part) (i := 6) rfl)) (fun _ h9 => h9) rfl (by decide +kernel) rfl rfl (Nat.le_of_ble_eq_true rfl) dX9_part_66 (mSet3 (I11 1)) (fun H locs hP hS => ?_)
      obtain ⟨I14, eI14⟩ : ∃ z : Nat → Int32, z = upd I11 3 (I11 1) := ⟨_, rfl⟩
      rw [← eI14] at hP
      have h := h I14 eI14
      refine lv_aload_n hx hb dX9_part_69 rfl (lv_at hl 0 rfl) ?_
      refine va_get (D := D) (ci := 9) (v := .ref (q 12)) (C := RX9) (T := TX9) (N := 44) hx hb hts (fun _ h9 => List.mem_cons_of_mem _ (List.mem_append_right _ h9)) hown hK hP 0 mAt0 rfl 14 (by decide) (hts _ (List.mem_of_getElem? (l := wsX9_part) (i := 7) rfl)) (fun _ h9 => h9) rfl dX9_part_70 ?_
      refine lv_aload_n hx hb dX9_part_73 rfl (lv_at hl 0 rfl) ?_
      refine va_get (D := D) (ci := 9) (v := .ref (q 14)) (C := RX9) (T := TX9) (N := 44) hx hb hts (fun _ h9 => List.mem_cons_of_mem _ (List.mem_append_right _ h9)) hown hK hP 0 mAt0 rfl 19 (by decide) (hts _ (List.mem_of_getElem? (l := wsX9_part) (i := 8) rfl)) (fun _ h9 => h9) rfl dX9_part_74 ?_
      refine gCallV (D := D) (va_runS (As := [.ref (q 12), .ref (q 14)]) (rest := []) ⟨hx, hb, hml, hown, hts⟩ (c_X9_copy_12_14 l D q cI cO hq   I14 F12 hs13 _ h) (va_cwS 2 hts gX9_part_X9_copy rfl rfl rfl (by decide +kernel) ⟨Nat.le_trans (Nat.le_of_ble_eq_true rfl) hRf, Nat.le_trans (Nat.le_of_ble_eq_true rfl) hRl⟩) (gPreS mEok hE hK hP hS) rfl rfl hl.1 rfl (lv_room (Nat.le_of_ble_eq_true rfl)) dX9_part_77 ⟨Nat.zero_le _, Nat.zero_le _⟩) hS (fun u H locs hP hS h => ?_)
      obtain ⟨I15, F16, hs17⟩ := u
      have hP : va_P D vwCl (mW q cI cO I15 F16 hs17) H := hP
      refine lv_aload_n hx hb dX9_part_80 rfl (lv_at hl 0 rfl) ?_
      refine va_get (D := D) (ci := 9) (v := .ref (q 13)) (C := RX9) (T := TX9) (N := 44) hx hb hts (fun _ h9 => List.mem_cons_of_mem _ (List.mem_append_right _ h9)) hown hK hP 0 mAt0 rfl 15 (by decide) (hts _ (List.mem_of_getElem? (l := wsX9_part) (i := 9) rfl)) (fun _ h9 => h9) rfl dX9_part_81 ?_
      refine lv_aload_n hx hb dX9_part_84 rfl (lv_at hl 0 rfl) ?_
      refine va_get (D := D) (ci := 9) (v := .ref (q 15)) (C := RX9) (T := TX9) (N := 44) hx hb hts (fun _ h9 => List.mem_cons_of_mem _ (List.mem_append_right _ h9)) hown hK hP 0 mAt0 rfl 20 (by decide) (hts _ (List.mem_of_getElem? (l := wsX9_part) (i := 10) rfl)) (fun _ h9 => h9) rfl dX9_part_85 ?_
      refine gCallV (D := D) (va_runS (As := [.ref (q 13), .ref (q 15)]) (rest := []) ⟨hx, hb, hml, hown, hts⟩ (c_X9_copy_13_15 l D q cI cO hq   I15 F16 hs17 _ h) (va_cwS 2 hts gX9_part_X9_copy rfl rfl rfl (by decide +kernel) ⟨Nat.le_trans (Nat.le_of_ble_eq_true rfl) hRf, Nat.le_trans (Nat.le_of_ble_eq_true rfl) hRl⟩) (gPreS mEok hE hK hP hS) rfl rfl hl.1 rfl (lv_room (Nat.le_of_ble_eq_true rfl)) dX9_part_88 ⟨Nat.zero_le _, Nat.zero_le _⟩) hS (fun u H locs hP hS h => ?_)
      obtain ⟨I18, F19, hs20⟩ := u
      have hP : va_P D vwCl (mW q cI cO I18 F19 hs20) H := hP
      refine lv_aload_n hx hb dX9_part_91 rfl (lv_at hl 0 rfl) ?_
      refine lv_iconst (v := (0 : Int32)) hx hb dX9_part_92 (by decide) ?_
      refine gPut (D := D) (ci := 9) (ty := .int) (C := RX9) (T := TX9) (N := 44) hx hb hts (fun _ h9 => List.mem_cons_of_mem _ (List.mem_append_right _ h9)) tyX9 tyX9_ok nmX9 hown hK hP (mD hq) hS 0 mAt0 rfl 32 (by decide) (hts _ (List.mem_of_getElem? (l := wsX9_part) (i := 11) rfl)) (fun _ h9 => h9) rfl (by decide +kernel) rfl rfl (Nat.le_of_ble_eq_true rfl) dX9_part_93 (mSet11 (0 : Int32)) (fun H locs hP hS => ?_)
      obtain ⟨I21, eI21⟩ : ∃ z : Nat → Int32, z = upd I18 11 (0 : Int32) := ⟨_, rfl⟩
      rw [← eI21] at hP
      have h := h I21 eI21
      refine lv_aload_n hx hb dX9_part_96 rfl (lv_at hl 0 rfl) ?_
      refine lv_dup hx hb dX9_part_97 rfl ?_
      refine va_get (D := D) (ci := 9) (v := .int (I21 5)) (C := RX9) (T := TX9) (N := 44) hx hb hts (fun _ h9 => List.mem_cons_of_mem _ (List.mem_append_right _ h9)) hown hK hP 0 mAt0 rfl 18 (by decide) (hts _ (List.mem_of_getElem? (l := wsX9_part) (i := 12) rfl)) (fun _ h9 => h9) rfl dX9_part_98 ?_
      refine lv_iconst (v := (1 : Int32)) hx hb dX9_part_101 (by decide) ?_
      refine lv_iadd hx hb dX9_part_102 ?_
      refine gPut (D := D) (ci := 9) (ty := .int) (C := RX9) (T := TX9) (N := 44) hx hb hts (fun _ h9 => List.mem_cons_of_mem _ (List.mem_append_right _ h9)) tyX9 tyX9_ok nmX9 hown hK hP (mD hq) hS 0 mAt0 rfl 18 (by decide) (hts _ (List.mem_of_getElem? (l := wsX9_part) (i := 12) rfl)) (fun _ h9 => h9) rfl (by decide +kernel) rfl rfl (Nat.le_of_ble_eq_true rfl) dX9_part_103 (mSet5 ((I21 5) + (1 : Int32))) (fun H locs hP hS => ?_)
      obtain ⟨I22, eI22⟩ : ∃ z : Nat → Int32, z = upd I21 5 ((I21 5) + (1 : Int32)) := ⟨_, rfl⟩
      rw [← eI22] at hP
      have h := h I22 eI22
      refine lv_aload_n hx hb dX9_part_106 rfl (lv_at hl 0 rfl) ?_
      refine lv_iconst (v := (0 : Int32)) hx hb dX9_part_107 (by decide) ?_
      refine gPut (D := D) (ci := 9) (ty := .int) (C := RX9) (T := TX9) (N := 44) hx hb hts (fun _ h9 => List.mem_cons_of_mem _ (List.mem_append_right _ h9)) tyX9 tyX9_ok nmX9 hown hK hP (mD hq) hS 0 mAt0 rfl 11 (by decide) (hts _ (List.mem_of_getElem? (l := wsX9_part) (i := 1) rfl)) (fun _ h9 => h9) rfl (by decide +kernel) rfl rfl (Nat.le_of_ble_eq_true rfl) dX9_part_108 (mSet0 (0 : Int32)) (fun H locs hP hS => ?_)
      obtain ⟨I23, eI23⟩ : ∃ z : Nat → Int32, z = upd I22 0 (0 : Int32) := ⟨_, rfl⟩
      rw [← eI23] at hP
      have h := h I23 eI23
      refine lv_aload_n hx hb dX9_part_111 rfl (lv_at hl 0 rfl) ?_
      refine lv_iconst (v := (1 : Int32)) hx hb dX9_part_112 (by decide) ?_
      refine gPut (D := D) (ci := 9) (ty := .boolean) (C := RX9) (T := TX9) (N := 44) hx hb hts (fun _ h9 => List.mem_cons_of_mem _ (List.mem_append_right _ h9)) tyX9 tyX9_ok nmX9 hown hK hP (mD hq) hS 0 mAt0 rfl 21 (by decide) (hts _ (List.mem_of_getElem? (l := wsX9_part) (i := 13) rfl)) (fun _ h9 => h9) rfl (by decide +kernel) (by decide) (by decide) (Nat.le_of_ble_eq_true rfl) dX9_part_113 (mSet6 (1 : Int32)) (fun H locs hP hS => ?_)
      obtain ⟨I24, eI24⟩ : ∃ z : Nat → Int32, z = upd I23 6 (1 : Int32) := ⟨_, rfl⟩
      rw [← eI24] at hP
      have h := h I24 eI24
      refine lv_aload_n hx hb dX9_part_116 rfl (lv_at hl 0 rfl) ?_
      refine va_get (D := D) (ci := 9) (v := .int (I24 3)) (C := RX9) (T := TX9) (N := 44) hx hb hts (fun _ h9 => List.mem_cons_of_mem _ (List.mem_append_right _ h9)) hown hK hP 0 mAt0 rfl 16 (by decide) (hts _ (List.mem_of_getElem? (l := wsX9_part) (i := 6) rfl)) (fun _ h9 => h9) rfl dX9_part_117 ?_
      exact hret (I24 3) (I24, F19, hs20) _ _ _ _ dX9_part_120 hP hS h
    · have h := h.2 c8
      refine lv_bipush (v := (-103 : Int32)) hx hb dX9_part_19 (by decide) ?_
      exact hret (-103 : Int32) (I4, F5, hs6) _ _ _ _ dX9_part_21 hP hS h
def w_X9_isChord (a1 : Int32) (I : Nat → Int32) (F : Nat → Nat → Int32) (hs : Int64) (post : Int32 → Prop) : Prop :=
  w_X9_in ((a1).toInt64) (0 : Int64) ((((I 3) - (1 : Int32))).toInt64) I F hs (fun (r1 : Int32) => ((r1 = 0 ∨ r1 = 1) ∧ post r1))
set_option maxHeartbeats 4000000 in
set_option maxRecDepth 100000 in
theorem c_X9_isChord (l : Launch) (D : va_G) (q : Nat → Nat) (cI cO : ClassId) (hq : mOk q) (a1 : Int32)  (I : Nat → Int32) (F : Nat → Nat → Int32) (hs : Int64) (post : Int32 → Prop) (h : w_X9_isChord a1 I F hs post) : Met l yX9_isChord wsX9_isChord ({ frames := 1, cells := 0, slots := 0, locals := 25 } : Room) (gPre D (mTys cI) (mW q cI cO I F hs) mEnv [.ref (q 0), .int a1]) (va_Qi (fun r (_ : Unit) => post r) (gB D (fun _ : Unit => mW q cI cO I F hs)) (mA q)) 0 0 (mA q) := by
  refine gMetZ (by decide) rfl (Nat.le_of_ble_eq_true rfl) ?_
  intro p e R s m args below meth c Q ls hR hx hb hml hown hts hK hE hP hl hret
  have hRf : 1 ≤ R.frames := by subst hR; exact Nat.le_refl _
  have hRl : 25 ≤ R.locals := by subst hR; exact Nat.le_refl _
  have hown : s.vm.findClass RX9 = some m.cls := hown
  have hl : lv_has ls 2 [(0, .ref (q 0)), (1, .int a1)] := hl
  have hS : va_S (mA q) s.heap s.heap [] := va_S.rf
  have hP : va_P D vwCl (mW q cI cO I F hs) s.heap := hP
  refine lv_iload_n hx hb dX9_isChord_0 rfl (lv_at hl 1 rfl) ?_
  refine lv_i2l (v := (a1).toInt64) hx hb dX9_isChord_1 rfl ?_
  refine lv_lconst (v := (0 : Int64)) hx hb dX9_isChord_2 (by decide) ?_
  refine lv_aload_n hx hb dX9_isChord_3 rfl (lv_at hl 0 rfl) ?_
  refine va_get (D := D) (ci := 9) (v := .int (I 3)) (C := RX9) (T := TX9) (N := 44) hx hb hts (fun _ h9 => List.mem_cons_of_mem _ (List.mem_append_right _ h9)) hown hK hP 0 mAt0 rfl 16 (by decide) (hts _ (List.mem_of_getElem? (l := wsX9_isChord) (i := 1) rfl)) (fun _ h9 => h9) rfl dX9_isChord_4 ?_
  refine lv_iconst (v := (1 : Int32)) hx hb dX9_isChord_7 (by decide) ?_
  refine lv_isub hx hb dX9_isChord_8 ?_
  refine lv_i2l (v := (((I 3) - (1 : Int32))).toInt64) hx hb dX9_isChord_9 rfl ?_
  refine gCallI (D := D) (va_runS (As := [.long ((a1).toInt64), .long (0 : Int64), .long ((((I 3) - (1 : Int32))).toInt64)]) (rest := []) ⟨hx, hb, hml, hown, hts⟩ (c_X9_in l D q cI cO hq ((a1).toInt64) (0 : Int64) ((((I 3) - (1 : Int32))).toInt64)  I F hs _ h) (va_cwS 3 hts gX9_isChord_X9_in rfl rfl rfl (by decide +kernel) ⟨Nat.le_trans (Nat.le_of_ble_eq_true rfl) hRf, Nat.le_trans (Nat.le_of_ble_eq_true rfl) hRl⟩) (gPreS mEok hE hK hP hS) rfl rfl hl.1 rfl (lv_room (Nat.le_of_ble_eq_true rfl)) dX9_isChord_10 ⟨Nat.zero_le _, Nat.zero_le _⟩) hS (fun r1 _ H locs hP hS h => ?_)
  have hP : va_P D vwCl (mW q cI cO I F hs) H := hP
  exact hret r1 () _ _ _ _ dX9_isChord_13 hP hS h.1 h.2
def w_X9_toneIn (a1 : Int32) (a2 : Int32) (I : Nat → Int32) (F : Nat → Nat → Int32) (hs : Int64) (post : Int32 → Prop) : Prop :=
  vp_in (((7 : Int32) * a1) + a2) 15309 ∧ post (F 3 ((((7 : Int32) * a1) + a2)).toNatClampNeg)
set_option maxHeartbeats 4000000 in
set_option maxRecDepth 100000 in
theorem c_X9_toneIn (l : Launch) (D : va_G) (q : Nat → Nat) (cI cO : ClassId) (hq : mOk q) (a1 : Int32) (a2 : Int32)  (I : Nat → Int32) (F : Nat → Nat → Int32) (hs : Int64) (post : Int32 → Prop) (h : w_X9_toneIn a1 a2 I F hs post) : Met l yX9_toneIn wsX9_toneIn ({ frames := 0, cells := 0, slots := 0, locals := 0 } : Room) (gPre D (mTys cI) (mW q cI cO I F hs) mEnv [.ref (q 0), .int a1, .int a2]) (va_Qi (fun r (_ : Unit) => post r) (gB D (fun _ : Unit => mW q cI cO I F hs)) (mA q)) 0 0 (mA q) := by
  refine gMetI (by decide) rfl (Nat.le_of_ble_eq_true rfl) ?_
  intro p e R s m args below meth c Q ls hR hx hb hml hown hts hK hE hP hl hret
  have hRf : 0 ≤ R.frames := by subst hR; exact Nat.le_refl _
  have hRl : 0 ≤ R.locals := by subst hR; exact Nat.le_refl _
  have hown : s.vm.findClass RX9 = some m.cls := hown
  have hl : lv_has ls 3 [(0, .ref (q 0)), (1, .int a1), (2, .int a2)] := hl
  have hS : va_S (mA q) s.heap s.heap [] := va_S.rf
  have hP : va_P D vwCl (mW q cI cO I F hs) s.heap := hP
  refine lv_aload_n hx hb dX9_toneIn_0 rfl (lv_at hl 0 rfl) ?_
  refine va_get (D := D) (ci := 9) (v := .ref (q 3)) (C := RX9) (T := TX9) (N := 44) hx hb hts (fun _ h9 => List.mem_cons_of_mem _ (List.mem_append_right _ h9)) hown hK hP 0 mAt0 rfl 2 (by decide) (hts _ (List.mem_of_getElem? (l := wsX9_toneIn) (i := 1) rfl)) (fun _ h9 => h9) rfl dX9_toneIn_1 ?_
  refine lv_bipush (v := (7 : Int32)) hx hb dX9_toneIn_4 (by decide) ?_
  refine lv_iload_n hx hb dX9_toneIn_6 rfl (lv_at hl 1 rfl) ?_
  refine lv_imul hx hb dX9_toneIn_7 ?_
  refine lv_iload_n hx hb dX9_toneIn_8 rfl (lv_at hl 2 rfl) ?_
  refine lv_iadd hx hb dX9_toneIn_9 ?_
  refine va_iald (D := D) hx hb hK hP 3 0 mAr3 rfl h.1 dX9_toneIn_10 ?_
  have h := h.2
  exact hret (F 3 ((((7 : Int32) * a1) + a2)).toNatClampNeg) () _ _ _ _ dX9_toneIn_11 hP hS h
def w_X9_isFitting_B6 (x1 : Int32) (x2 : Int32) (x3 : Int32) (I : Nat → Int32) (F : Nat → Nat → Int32) (hs : Int64) (k again : Int32 → Int32 → Prop) (x4 : Int32) (x5 : Int32) : Prop :=
  (((7 : Int32) ≤ x5 → k x4 x5) ∧ (¬ (7 : Int32) ≤ x5 → w_X9_toneIn x1 x5 I F hs (fun (r2 : Int32) => ∀ v3 : Int32, v3 = (x4 ||| ((1 : Int32) <<< (r2 &&& 31))) → again v3 (x5 + (1 : Int32)))))
def w_X9_isFitting (a1 : Int32) (a2 : Int32) (a3 : Int32) (I : Nat → Int32) (F : Nat → Nat → Int32) (hs : Int64) (post : Int32 → Prop) : Prop :=
  gL (fun ag v => w_X9_isFitting_B6 a1 a2 a3 I F hs (fun (y4 : Int32) (y5 : Int32) => ((¬ (a3 &&& (y4 ^^^ (-1 : Int32))) = 0 → post (0 : Int32)) ∧ ((a3 &&& (y4 ^^^ (-1 : Int32))) = 0 → ((¬ a2 = (1 : Int32) → post (1 : Int32)) ∧ (a2 = (1 : Int32) → ((¬ y4 = a3 → post (0 : Int32)) ∧ (y4 = a3 → post (1 : Int32)))))))) (fun b0 b1 => ag (b0, b1)) v.1 v.2) ((0 : Int32), (0 : Int32))
set_option maxHeartbeats 4000000 in
set_option maxRecDepth 100000 in
theorem c_X9_isFitting (l : Launch) (D : va_G) (q : Nat → Nat) (cI cO : ClassId) (hq : mOk q) (a1 : Int32) (a2 : Int32) (a3 : Int32)  (I : Nat → Int32) (F : Nat → Nat → Int32) (hs : Int64) (post : Int32 → Prop) (h : w_X9_isFitting a1 a2 a3 I F hs post) : Met l yX9_isFitting wsX9_isFitting ({ frames := 1, cells := 0, slots := 0, locals := 22 } : Room) (gPre D (mTys cI) (mW q cI cO I F hs) mEnv [.ref (q 0), .int a1, .int a2, .int a3]) (va_Qi (fun r (_ : Unit) => post r) (gB D (fun _ : Unit => mW q cI cO I F hs)) (mA q)) 0 0 (mA q) := by
  refine gMetZ (by decide) rfl (Nat.le_of_ble_eq_true rfl) ?_
  intro p e R s m args below meth c Q ls hR hx hb hml hown hts hK hE hP hl hret
  have hRf : 1 ≤ R.frames := by subst hR; exact Nat.le_refl _
  have hRl : 22 ≤ R.locals := by subst hR; exact Nat.le_refl _
  have hown : s.vm.findClass RX9 = some m.cls := hown
  have hl : lv_has ls 6 [(0, .ref (q 0)), (1, .int a1), (2, .int a2), (3, .int a3)] := hl
  have hS : va_S (mA q) s.heap s.heap [] := va_S.rf
  have hP : va_P D vwCl (mW q cI cO I F hs) s.heap := hP
  have L6 : ∀ (n : Nat) (x1 : Int32) (x2 : Int32) (x3 : Int32) (k : Int32 → Int32 → Prop) (x4 : Int32) (x5 : Int32) (H : Heap) (locs : List Loc) (ls : Array Slot), va_P D vwCl (mW q cI cO I F hs) H → va_S (mA q) s.heap H locs → lv_has ls 6 [(0, .ref (q 0)), (1, .int x1), (2, .int x2), (3, .int x3), (4, .int x4), (5, .int x5)] → gLN (fun ag v => w_X9_isFitting_B6 x1 x2 x3 I F hs k (fun b0 b1 => ag (b0, b1)) v.1 v.2) n (x4, x5) → (∀ (x4 : Int32) (x5 : Int32) (H : Heap) (locs : List Loc) (ls : Array Slot), va_P D vwCl (mW q cI cO I F hs) H → va_S (mA q) s.heap H locs → lv_has ls 6 [(2, .int x2), (3, .int x3), (4, .int x4)] → k x4 x5 → W p l e R s m args below meth c H locs 0 0 Q (F0 m 33 ls [])) → W p l e R s m args below meth c H locs 0 0 Q (F0 m 6 ls []) := by
    intro n
    induction n with
    | zero =>
      intro x1 x2 x3 k x4 x5 H locs ls  hP hS hl h K
      exact False.elim h
    | succ n ih =>
      intro x1 x2 x3 k x4 x5 H locs ls  hP hS hl h K
      have h : w_X9_isFitting_B6 x1 x2 x3 I F hs k (fun b0 b1 => gLN (fun ag v => w_X9_isFitting_B6 x1 x2 x3 I F hs k (fun b0 b1 => ag (b0, b1)) v.1 v.2) n (b0, b1)) x4 x5 := h
      refine lv_iload hx hb dX9_isFitting_6 (lv_at hl 5 rfl) ?_
      refine lv_bipush (v := (7 : Int32)) hx hb dX9_isFitting_8 (by decide) ?_
      refine lv_icmp_ge (tgt := 33) hx hb dX9_isFitting_10 (by decide) (fun c1 => ?_) (fun c1 => ?_)
      · have h := h.1 c1
        exact K x4 x5 _ _ _  hP hS (lv_sub hl [2, 3, 4] rfl) h
      · have h := h.2 c1
        refine lv_iload hx hb dX9_isFitting_13 (lv_at hl 4 rfl) ?_
        refine lv_iconst (v := (1 : Int32)) hx hb dX9_isFitting_15 (by decide) ?_
        refine lv_aload_n hx hb dX9_isFitting_16 rfl (lv_at hl 0 rfl) ?_
        refine lv_iload_n hx hb dX9_isFitting_17 rfl (lv_at hl 1 rfl) ?_
        refine lv_iload hx hb dX9_isFitting_18 (lv_at hl 5 rfl) ?_
        refine gCallI (D := D) (va_runV (As := [.int x1, .int x5]) (rest := [.int (1 : Int32), .int x4]) ⟨hx, hb, hml, hown, hts⟩ (c_X9_toneIn l D q cI cO hq x1 x5  I F hs _ h) (cwV 2 hts gX9_isFitting_X9_toneIn rfl rfl rfl (by decide +kernel) ⟨Nat.le_trans (Nat.le_of_ble_eq_true rfl) hRf, Nat.le_trans (Nat.le_of_ble_eq_true rfl) hRl⟩) (gPreV (ci := 9) (q0 := 0) mEok hE hK hP hS rfl mAt0) rfl rfl hl.1 rfl (lv_room (Nat.le_of_ble_eq_true rfl)) dX9_isFitting_20 ⟨Nat.zero_le _, Nat.zero_le _⟩) hS (fun r2 _ H locs hP hS h => ?_)
        have hP : va_P D vwCl (mW q cI cO I F hs) H := hP
        refine lv_ishl hx hb dX9_isFitting_23 ?_
        refine lv_ior hx hb dX9_isFitting_24 ?_
        refine lv_topi (fun v3 ev3 => ?_)
        have h := h v3 ev3
        refine lv_istore (lv' := [(4, .int v3), (0, .ref (q 0)), (1, .int x1), (2, .int x2), (3, .int x3), (5, .int x5)]) hx hb dX9_isFitting_25 hl (by decide) rfl (fun ls hl => ?_)
        refine lv_iinc (v := (x5 + (1 : Int32))) (lv' := [(5, .int (x5 + (1 : Int32))), (4, .int v3), (0, .ref (q 0)), (1, .int x1), (2, .int x2), (3, .int x3)]) hx hb dX9_isFitting_27 hl (k := 5) rfl rfl (by decide) rfl (fun ls hl => ?_)
        refine lv_goto (tgt := 6) hx hb dX9_isFitting_30 (by decide) ?_
        exact ih x1 x2 x3 _ v3 (x5 + (1 : Int32)) _ _ _  hP hS (lv_sub hl [2, 3, 4, 5, 1, 0] rfl) h K
  refine lv_iconst (v := (0 : Int32)) hx hb dX9_isFitting_0 (by decide) ?_
  refine lv_istore (lv' := [(4, .int (0 : Int32)), (0, .ref (q 0)), (1, .int a1), (2, .int a2), (3, .int a3)]) hx hb dX9_isFitting_1 hl (by decide) rfl (fun ls hl => ?_)
  refine lv_iconst (v := (0 : Int32)) hx hb dX9_isFitting_3 (by decide) ?_
  refine lv_istore (lv' := [(5, .int (0 : Int32)), (4, .int (0 : Int32)), (0, .ref (q 0)), (1, .int a1), (2, .int a2), (3, .int a3)]) hx hb dX9_isFitting_4 hl (by decide) rfl (fun ls hl => ?_)
  obtain ⟨n, h⟩ := h
  refine L6 n a1 a2 a3 _ (0 : Int32) (0 : Int32) _ _ _  hP hS (lv_sub hl [2, 3, 4, 5, 1, 0] rfl) h (fun y4 y5 H locs ls  hP hS hl h => ?_)
  refine lv_iload_n hx hb dX9_isFitting_33 rfl (lv_at hl 1 rfl) ?_
  refine lv_iload hx hb dX9_isFitting_34 (lv_at hl 2 rfl) ?_
  refine lv_iconst (v := (-1 : Int32)) hx hb dX9_isFitting_36 (by decide) ?_
  refine lv_ixor hx hb dX9_isFitting_37 ?_
  refine lv_iand hx hb dX9_isFitting_38 ?_
  refine lv_if_ne (tgt := 57) hx hb dX9_isFitting_39 (by decide) (fun c6 => ?_) (fun c6 => ?_)
  · have h := h.1 c6
    refine lv_iconst (v := (0 : Int32)) hx hb dX9_isFitting_57 (by decide) ?_
    exact hret (0 : Int32) () _ _ _ _ dX9_isFitting_58 hP hS (by decide) h
  · have h := h.2 c6
    refine lv_iload_n hx hb dX9_isFitting_42 rfl (lv_at hl 0 rfl) ?_
    refine lv_iconst (v := (1 : Int32)) hx hb dX9_isFitting_43 (by decide) ?_
    refine lv_icmp_ne (tgt := 53) hx hb dX9_isFitting_44 (by decide) (fun c7 => ?_) (fun c7 => ?_)
    · have h := h.1 c7
      refine lv_iconst (v := (1 : Int32)) hx hb dX9_isFitting_53 (by decide) ?_
      refine lv_goto (tgt := 58) hx hb dX9_isFitting_54 (by decide) ?_
      exact hret (1 : Int32) () _ _ _ _ dX9_isFitting_58 hP hS (by decide) h
    · have h := h.2 c7
      refine lv_iload hx hb dX9_isFitting_47 (lv_at hl 2 rfl) ?_
      refine lv_iload_n hx hb dX9_isFitting_49 rfl (lv_at hl 1 rfl) ?_
      refine lv_icmp_ne (tgt := 57) hx hb dX9_isFitting_50 (by decide) (fun c8 => ?_) (fun c8 => ?_)
      · have h := h.1 c8
        refine lv_iconst (v := (0 : Int32)) hx hb dX9_isFitting_57 (by decide) ?_
        exact hret (0 : Int32) () _ _ _ _ dX9_isFitting_58 hP hS (by decide) h
      · have h := h.2 c8
        refine lv_iconst (v := (1 : Int32)) hx hb dX9_isFitting_53 (by decide) ?_
        refine lv_goto (tgt := 58) hx hb dX9_isFitting_54 (by decide) ?_
        exact hret (1 : Int32) () _ _ _ _ dX9_isFitting_58 hP hS (by decide) h
def w_X9_can (a1 : Int32) (a2 : Int32) (a3 : Int32) (I : Nat → Int32) (F : Nat → Nat → Int32) (hs : Int64) (post : Int32 → Prop) : Prop :=
  vp_in a1 63 ∧ ((a2 < (F 8 (a1).toNatClampNeg) → post (0 : Int32)) ∧ (¬ a2 < (F 8 (a1).toNatClampNeg) → vp_in a1 63 ∧ ((¬ ((F 9 (a1).toNatClampNeg) &&& a3) = 0 → post (0 : Int32)) ∧ (((F 9 (a1).toNatClampNeg) &&& a3) = 0 → post (1 : Int32)))))
set_option maxHeartbeats 4000000 in
set_option maxRecDepth 100000 in
theorem c_X9_can (l : Launch) (D : va_G) (q : Nat → Nat) (cI cO : ClassId) (hq : mOk q) (a1 : Int32) (a2 : Int32) (a3 : Int32)  (I : Nat → Int32) (F : Nat → Nat → Int32) (hs : Int64) (post : Int32 → Prop) (h : w_X9_can a1 a2 a3 I F hs post) : Met l yX9_can wsX9_can ({ frames := 0, cells := 0, slots := 0, locals := 0 } : Room) (gPre D (mTys cI) (mW q cI cO I F hs) mEnv [.ref (q 0), .int a1, .int a2, .int a3]) (va_Qi (fun r (_ : Unit) => post r) (gB D (fun _ : Unit => mW q cI cO I F hs)) (mA q)) 0 0 (mA q) := by
  refine gMetZ (by decide) rfl (Nat.le_of_ble_eq_true rfl) ?_
  intro p e R s m args below meth c Q ls hR hx hb hml hown hts hK hE hP hl hret
  have hRf : 0 ≤ R.frames := by subst hR; exact Nat.le_refl _
  have hRl : 0 ≤ R.locals := by subst hR; exact Nat.le_refl _
  have hown : s.vm.findClass RX9 = some m.cls := hown
  have hl : lv_has ls 4 [(0, .ref (q 0)), (1, .int a1), (2, .int a2), (3, .int a3)] := hl
  have hS : va_S (mA q) s.heap s.heap [] := va_S.rf
  have hP : va_P D vwCl (mW q cI cO I F hs) s.heap := hP
  refine lv_aload_n hx hb dX9_can_0 rfl (lv_at hl 0 rfl) ?_
  refine va_get (D := D) (ci := 9) (v := .ref (q 8)) (C := RX9) (T := TX9) (N := 44) hx hb hts (fun _ h9 => List.mem_cons_of_mem _ (List.mem_append_right _ h9)) hown hK hP 0 mAt0 rfl 7 (by decide) (hts _ (List.mem_of_getElem? (l := wsX9_can) (i := 1) rfl)) (fun _ h9 => h9) rfl dX9_can_1 ?_
  refine lv_iload_n hx hb dX9_can_4 rfl (lv_at hl 1 rfl) ?_
  refine va_iald (D := D) hx hb hK hP 8 0 mAr8 rfl h.1 dX9_can_5 ?_
  have h := h.2
  refine lv_iload_n hx hb dX9_can_6 rfl (lv_at hl 2 rfl) ?_
  refine lv_icmp_gt (tgt := 25) hx hb dX9_can_7 (by decide) (fun c1 => ?_) (fun c1 => ?_)
  · have h := h.1 c1
    refine lv_iconst (v := (0 : Int32)) hx hb dX9_can_25 (by decide) ?_
    exact hret (0 : Int32) () _ _ _ _ dX9_can_26 hP hS (by decide) h
  · have h := h.2 c1
    refine lv_aload_n hx hb dX9_can_10 rfl (lv_at hl 0 rfl) ?_
    refine va_get (D := D) (ci := 9) (v := .ref (q 9)) (C := RX9) (T := TX9) (N := 44) hx hb hts (fun _ h9 => List.mem_cons_of_mem _ (List.mem_append_right _ h9)) hown hK hP 0 mAt0 rfl 8 (by decide) (hts _ (List.mem_of_getElem? (l := wsX9_can) (i := 2) rfl)) (fun _ h9 => h9) rfl dX9_can_11 ?_
    refine lv_iload_n hx hb dX9_can_14 rfl (lv_at hl 1 rfl) ?_
    refine va_iald (D := D) hx hb hK hP 9 0 mAr9 rfl h.1 dX9_can_15 ?_
    have h := h.2
    refine lv_iload_n hx hb dX9_can_16 rfl (lv_at hl 3 rfl) ?_
    refine lv_iand hx hb dX9_can_17 ?_
    refine lv_if_ne (tgt := 25) hx hb dX9_can_18 (by decide) (fun c2 => ?_) (fun c2 => ?_)
    · have h := h.1 c2
      refine lv_iconst (v := (0 : Int32)) hx hb dX9_can_25 (by decide) ?_
      exact hret (0 : Int32) () _ _ _ _ dX9_can_26 hP hS (by decide) h
    · have h := h.2 c2
      refine lv_iconst (v := (1 : Int32)) hx hb dX9_can_21 (by decide) ?_
      refine lv_goto (tgt := 26) hx hb dX9_can_22 (by decide) ?_
      exact hret (1 : Int32) () _ _ _ _ dX9_can_26 hP hS (by decide) h
def w_X9_after (a1 : Int32) (a2 : Int32) (I : Nat → Int32) (F : Nat → Nat → Int32) (hs : Int64) (post : Int32 → Prop) : Prop :=
  vp_in (((63 : Int32) * a1) + a2) 137781 ∧ post (F 10 ((((63 : Int32) * a1) + a2)).toNatClampNeg)
set_option maxHeartbeats 4000000 in
set_option maxRecDepth 100000 in
theorem c_X9_after (l : Launch) (D : va_G) (q : Nat → Nat) (cI cO : ClassId) (hq : mOk q) (a1 : Int32) (a2 : Int32)  (I : Nat → Int32) (F : Nat → Nat → Int32) (hs : Int64) (post : Int32 → Prop) (h : w_X9_after a1 a2 I F hs post) : Met l yX9_after wsX9_after ({ frames := 0, cells := 0, slots := 0, locals := 0 } : Room) (gPre D (mTys cI) (mW q cI cO I F hs) mEnv [.ref (q 0), .int a1, .int a2]) (va_Qi (fun r (_ : Unit) => post r) (gB D (fun _ : Unit => mW q cI cO I F hs)) (mA q)) 0 0 (mA q) := by
  refine gMetI (by decide) rfl (Nat.le_of_ble_eq_true rfl) ?_
  intro p e R s m args below meth c Q ls hR hx hb hml hown hts hK hE hP hl hret
  have hRf : 0 ≤ R.frames := by subst hR; exact Nat.le_refl _
  have hRl : 0 ≤ R.locals := by subst hR; exact Nat.le_refl _
  have hown : s.vm.findClass RX9 = some m.cls := hown
  have hl : lv_has ls 3 [(0, .ref (q 0)), (1, .int a1), (2, .int a2)] := hl
  have hS : va_S (mA q) s.heap s.heap [] := va_S.rf
  have hP : va_P D vwCl (mW q cI cO I F hs) s.heap := hP
  refine lv_aload_n hx hb dX9_after_0 rfl (lv_at hl 0 rfl) ?_
  refine va_get (D := D) (ci := 9) (v := .ref (q 10)) (C := RX9) (T := TX9) (N := 44) hx hb hts (fun _ h9 => List.mem_cons_of_mem _ (List.mem_append_right _ h9)) hown hK hP 0 mAt0 rfl 9 (by decide) (hts _ (List.mem_of_getElem? (l := wsX9_after) (i := 1) rfl)) (fun _ h9 => h9) rfl dX9_after_1 ?_
  refine lv_bipush (v := (63 : Int32)) hx hb dX9_after_4 (by decide) ?_
  refine lv_iload_n hx hb dX9_after_6 rfl (lv_at hl 1 rfl) ?_
  refine lv_imul hx hb dX9_after_7 ?_
  refine lv_iload_n hx hb dX9_after_8 rfl (lv_at hl 2 rfl) ?_
  refine lv_iadd hx hb dX9_after_9 ?_
  refine va_iald (D := D) hx hb hK hP 10 0 mAr10 rfl h.1 dX9_after_10 ?_
  have h := h.2
  exact hret (F 10 ((((63 : Int32) * a1) + a2)).toNatClampNeg) () _ _ _ _ dX9_after_11 hP hS h
def w_X9_movedBy (a1 : Int32) (I : Nat → Int32) (F : Nat → Nat → Int32) (hs : Int64) (post : Int32 → Prop) : Prop :=
  vp_in a1 63 ∧ post (F 8 (a1).toNatClampNeg)
set_option maxHeartbeats 4000000 in
set_option maxRecDepth 100000 in
theorem c_X9_movedBy (l : Launch) (D : va_G) (q : Nat → Nat) (cI cO : ClassId) (hq : mOk q) (a1 : Int32)  (I : Nat → Int32) (F : Nat → Nat → Int32) (hs : Int64) (post : Int32 → Prop) (h : w_X9_movedBy a1 I F hs post) : Met l yX9_movedBy wsX9_movedBy ({ frames := 0, cells := 0, slots := 0, locals := 0 } : Room) (gPre D (mTys cI) (mW q cI cO I F hs) mEnv [.ref (q 0), .int a1]) (va_Qi (fun r (_ : Unit) => post r) (gB D (fun _ : Unit => mW q cI cO I F hs)) (mA q)) 0 0 (mA q) := by
  refine gMetI (by decide) rfl (Nat.le_of_ble_eq_true rfl) ?_
  intro p e R s m args below meth c Q ls hR hx hb hml hown hts hK hE hP hl hret
  have hRf : 0 ≤ R.frames := by subst hR; exact Nat.le_refl _
  have hRl : 0 ≤ R.locals := by subst hR; exact Nat.le_refl _
  have hown : s.vm.findClass RX9 = some m.cls := hown
  have hl : lv_has ls 2 [(0, .ref (q 0)), (1, .int a1)] := hl
  have hS : va_S (mA q) s.heap s.heap [] := va_S.rf
  have hP : va_P D vwCl (mW q cI cO I F hs) s.heap := hP
  refine lv_aload_n hx hb dX9_movedBy_0 rfl (lv_at hl 0 rfl) ?_
  refine va_get (D := D) (ci := 9) (v := .ref (q 8)) (C := RX9) (T := TX9) (N := 44) hx hb hts (fun _ h9 => List.mem_cons_of_mem _ (List.mem_append_right _ h9)) hown hK hP 0 mAt0 rfl 7 (by decide) (hts _ (List.mem_of_getElem? (l := wsX9_movedBy) (i := 1) rfl)) (fun _ h9 => h9) rfl dX9_movedBy_1 ?_
  refine lv_iload_n hx hb dX9_movedBy_4 rfl (lv_at hl 1 rfl) ?_
  refine va_iald (D := D) hx hb hK hP 8 0 mAr8 rfl h.1 dX9_movedBy_5 ?_
  have h := h.2
  exact hret (F 8 (a1).toNatClampNeg) () _ _ _ _ dX9_movedBy_6 hP hS h
def w_X9_shiftedTones (a1 : Int32) (a2 : Int32) (I : Nat → Int32) (F : Nat → Nat → Int32) (hs : Int64) (post : Int32 → Prop) : Prop :=
  post (((a1 <<< (a2 &&& 31)) ||| (a1 >>> (((12 : Int32) - a2) &&& 31))) &&& (4095 : Int32))
set_option maxHeartbeats 4000000 in
set_option maxRecDepth 100000 in
theorem c_X9_shiftedTones (l : Launch) (D : va_G) (q : Nat → Nat) (cI cO : ClassId) (hq : mOk q) (a1 : Int32) (a2 : Int32)  (I : Nat → Int32) (F : Nat → Nat → Int32) (hs : Int64) (post : Int32 → Prop) (h : w_X9_shiftedTones a1 a2 I F hs post) : Met l yX9_shiftedTones wsX9_shiftedTones ({ frames := 0, cells := 0, slots := 0, locals := 0 } : Room) (gPre D (mTys cI) (mW q cI cO I F hs) mEnv [.ref (q 0), .int a1, .int a2]) (va_Qi (fun r (_ : Unit) => post r) (gB D (fun _ : Unit => mW q cI cO I F hs)) (mA q)) 0 0 (mA q) := by
  refine gMetI (by decide) rfl (Nat.le_of_ble_eq_true rfl) ?_
  intro p e R s m args below meth c Q ls hR hx hb hml hown hts hK hE hP hl hret
  have hRf : 0 ≤ R.frames := by subst hR; exact Nat.le_refl _
  have hRl : 0 ≤ R.locals := by subst hR; exact Nat.le_refl _
  have hown : s.vm.findClass RX9 = some m.cls := hown
  have hl : lv_has ls 3 [(0, .ref (q 0)), (1, .int a1), (2, .int a2)] := hl
  have hS : va_S (mA q) s.heap s.heap [] := va_S.rf
  have hP : va_P D vwCl (mW q cI cO I F hs) s.heap := hP
  refine lv_iload_n hx hb dX9_shiftedTones_0 rfl (lv_at hl 1 rfl) ?_
  refine lv_iload_n hx hb dX9_shiftedTones_1 rfl (lv_at hl 2 rfl) ?_
  refine lv_ishl hx hb dX9_shiftedTones_2 ?_
  refine lv_iload_n hx hb dX9_shiftedTones_3 rfl (lv_at hl 1 rfl) ?_
  refine lv_bipush (v := (12 : Int32)) hx hb dX9_shiftedTones_4 (by decide) ?_
  refine lv_iload_n hx hb dX9_shiftedTones_6 rfl (lv_at hl 2 rfl) ?_
  refine lv_isub hx hb dX9_shiftedTones_7 ?_
  refine lv_ishr hx hb dX9_shiftedTones_8 ?_
  refine lv_ior hx hb dX9_shiftedTones_9 ?_
  refine lv_sipush (v := (4095 : Int32)) hx hb dX9_shiftedTones_10 (by decide) ?_
  refine lv_iand hx hb dX9_shiftedTones_13 ?_
  exact hret (((a1 <<< (a2 &&& 31)) ||| (a1 >>> (((12 : Int32) - a2) &&& 31))) &&& (4095 : Int32)) () _ _ _ _ dX9_shiftedTones_14 hP hS h
