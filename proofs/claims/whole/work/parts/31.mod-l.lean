def w_X9_countOf (a1 : Int32) (I : Nat → Int32) (F : Nat → Nat → Int32) (hs : Int64) (post : Int32 → Prop) : Prop :=
  ((a1 = (0 : Int32) → post (I 3)) ∧ (a1 = (1 : Int32) → w_X9_lacks I F hs (fun (r2 : Int32) => ((r2 = 0 → w_X9_told (I 4) I F hs (fun (r4 : Int32) => post r4)) ∧ (¬ r2 = 0 → post (-1 : Int32))))) ∧ (a1 = (2 : Int32) → w_X9_tonesAll I F hs (fun (r5 : Int32) => post r5)) ∧ (a1 = (3 : Int32) → post (I 11)) ∧ (a1 = (4 : Int32) → post (I 0)) ∧ (a1 = (5 : Int32) → post (I 5)) ∧ (a1 = (6 : Int32) → post (I 10)) ∧ (¬ a1 = (0 : Int32) → ¬ a1 = (1 : Int32) → ¬ a1 = (2 : Int32) → ¬ a1 = (3 : Int32) → ¬ a1 = (4 : Int32) → ¬ a1 = (5 : Int32) → ¬ a1 = (6 : Int32) → post (-102 : Int32)))
set_option maxHeartbeats 4000000 in
set_option maxRecDepth 100000 in
theorem c_X9_countOf (l : Launch) (D : va_G) (q : Nat → Nat) (cI cO : ClassId) (hq : mOk q) (a1 : Int32)  (I : Nat → Int32) (F : Nat → Nat → Int32) (hs : Int64) (post : Int32 → Prop) (h : w_X9_countOf a1 I F hs post) : Met l yX9_countOf wsX9_countOf ({ frames := 2, cells := 0, slots := 0, locals := 45 } : Room) (gPre D (mTys cI) (mW q cI cO I F hs) mEnv [.ref (q 0), .int a1]) (va_Qi (fun r (_ : Unit) => post r) (gB D (fun _ : Unit => mW q cI cO I F hs)) (mA q)) 0 0 (mA q) := by
  refine gMetI (by decide) rfl (Nat.le_of_ble_eq_true rfl) ?_
  intro p e R s m args below meth c Q ls hR hx hb hml hown hts hK hE hP hl hret
  have hRf : 2 ≤ R.frames := by subst hR; exact Nat.le_refl _
  have hRl : 45 ≤ R.locals := by subst hR; exact Nat.le_refl _
  have hown : s.vm.findClass RX9 = some m.cls := hown
  have hl : lv_has ls 2 [(0, .ref (q 0)), (1, .int a1)] := hl
  have hS : va_S (mA q) s.heap s.heap [] := va_S.rf
  have hP : va_P D vwCl (mW q cI cO I F hs) s.heap := hP
  refine lv_iload_n hx hb dX9_countOf_0 rfl (lv_at hl 1 rfl) ?_
  by_cases c1_0 : a1 = (0 : Int32)
  · have h := h.1 c1_0
    refine lv_tableIn (tgt := 44) (off := 43) hx hb dX9_countOf_1 (by rw [c1_0]; decide) (by rw [c1_0]; decide) (by rw [c1_0]; rfl) (by decide) ?_
    refine lv_aload_n hx hb dX9_countOf_44 rfl (lv_at hl 0 rfl) ?_
    refine va_get (D := D) (ci := 9) (v := .int (I 3)) (C := RX9) (T := TX9) (N := 44) hx hb hts (fun _ h9 => List.mem_cons_of_mem _ (List.mem_append_right _ h9)) hown hK hP 0 mAt0 rfl 16 (by decide) (hts _ (List.mem_of_getElem? (l := wsX9_countOf) (i := 1) rfl)) (fun _ h9 => h9) rfl dX9_countOf_45 ?_
    exact hret (I 3) () _ _ _ _ dX9_countOf_48 hP hS h
  by_cases c1_1 : a1 = (1 : Int32)
  · have h := h.2.1 c1_1
    refine lv_tableIn (tgt := 49) (off := 48) hx hb dX9_countOf_1 (by rw [c1_1]; decide) (by rw [c1_1]; decide) (by rw [c1_1]; rfl) (by decide) ?_
    refine lv_aload_n hx hb dX9_countOf_49 rfl (lv_at hl 0 rfl) ?_
    refine gCallI (D := D) (va_runV (As := []) (rest := []) ⟨hx, hb, hml, hown, hts⟩ (c_X9_lacks l D q cI cO hq   I F hs _ h) (cwV 0 hts gX9_countOf_X9_lacks rfl rfl rfl (by decide +kernel) ⟨Nat.le_trans (Nat.le_of_ble_eq_true rfl) hRf, Nat.le_trans (Nat.le_of_ble_eq_true rfl) hRl⟩) (gPreV (ci := 9) (q0 := 0) mEok hE hK hP hS rfl mAt0) rfl rfl hl.1 rfl (lv_room (Nat.le_of_ble_eq_true rfl)) dX9_countOf_50 ⟨Nat.zero_le _, Nat.zero_le _⟩) hS (fun r2 _ H locs hP hS h => ?_)
    have hP : va_P D vwCl (mW q cI cO I F hs) H := hP
    refine lv_if_eq (tgt := 60) hx hb dX9_countOf_53 (by decide) (fun c3 => ?_) (fun c3 => ?_)
    · have h := h.1 c3
      refine lv_aload_n hx hb dX9_countOf_60 rfl (lv_at hl 0 rfl) ?_
      refine lv_aload_n hx hb dX9_countOf_61 rfl (lv_at hl 0 rfl) ?_
      refine va_get (D := D) (ci := 9) (v := .int (I 4)) (C := RX9) (T := TX9) (N := 44) hx hb hts (fun _ h9 => List.mem_cons_of_mem _ (List.mem_append_right _ h9)) hown hK hP 0 mAt0 rfl 17 (by decide) (hts _ (List.mem_of_getElem? (l := wsX9_countOf) (i := 2) rfl)) (fun _ h9 => h9) rfl dX9_countOf_62 ?_
      refine gCallI (D := D) (va_runV (As := [.int (I 4)]) (rest := []) ⟨hx, hb, hml, hown, hts⟩ (c_X9_told l D q cI cO hq (I 4)  I F hs _ h) (cwV 1 hts gX9_countOf_X9_told rfl rfl rfl (by decide +kernel) ⟨Nat.le_trans (Nat.le_of_ble_eq_true rfl) hRf, Nat.le_trans (Nat.le_of_ble_eq_true rfl) hRl⟩) (gPreV (ci := 9) (q0 := 0) mEok hE hK hP hS rfl mAt0) rfl rfl hl.1 rfl (lv_room (Nat.le_of_ble_eq_true rfl)) dX9_countOf_65 ⟨Nat.zero_le _, Nat.zero_le _⟩) hS (fun r4 _ H locs hP hS h => ?_)
      have hP : va_P D vwCl (mW q cI cO I F hs) H := hP
      exact hret r4 () _ _ _ _ dX9_countOf_68 hP hS h
    · have h := h.2 c3
      refine lv_iconst (v := (-1 : Int32)) hx hb dX9_countOf_56 (by decide) ?_
      refine lv_goto (tgt := 68) hx hb dX9_countOf_57 (by decide) ?_
      exact hret (-1 : Int32) () _ _ _ _ dX9_countOf_68 hP hS h
  by_cases c1_2 : a1 = (2 : Int32)
  · have h := h.2.2.1 c1_2
    refine lv_tableIn (tgt := 69) (off := 68) hx hb dX9_countOf_1 (by rw [c1_2]; decide) (by rw [c1_2]; decide) (by rw [c1_2]; rfl) (by decide) ?_
    refine lv_aload_n hx hb dX9_countOf_69 rfl (lv_at hl 0 rfl) ?_
    refine gCallI (D := D) (va_runV (As := []) (rest := []) ⟨hx, hb, hml, hown, hts⟩ (c_X9_tonesAll l D q cI cO hq   I F hs _ h) (cwV 0 hts gX9_countOf_X9_tonesAll rfl rfl rfl (by decide +kernel) ⟨Nat.le_trans (Nat.le_of_ble_eq_true rfl) hRf, Nat.le_trans (Nat.le_of_ble_eq_true rfl) hRl⟩) (gPreV (ci := 9) (q0 := 0) mEok hE hK hP hS rfl mAt0) rfl rfl hl.1 rfl (lv_room (Nat.le_of_ble_eq_true rfl)) dX9_countOf_70 ⟨Nat.zero_le _, Nat.zero_le _⟩) hS (fun r5 _ H locs hP hS h => ?_)
    have hP : va_P D vwCl (mW q cI cO I F hs) H := hP
    exact hret r5 () _ _ _ _ dX9_countOf_73 hP hS h
  by_cases c1_3 : a1 = (3 : Int32)
  · have h := h.2.2.2.1 c1_3
    refine lv_tableIn (tgt := 74) (off := 73) hx hb dX9_countOf_1 (by rw [c1_3]; decide) (by rw [c1_3]; decide) (by rw [c1_3]; rfl) (by decide) ?_
    refine lv_aload_n hx hb dX9_countOf_74 rfl (lv_at hl 0 rfl) ?_
    refine va_get (D := D) (ci := 9) (v := .int (I 11)) (C := RX9) (T := TX9) (N := 44) hx hb hts (fun _ h9 => List.mem_cons_of_mem _ (List.mem_append_right _ h9)) hown hK hP 0 mAt0 rfl 32 (by decide) (hts _ (List.mem_of_getElem? (l := wsX9_countOf) (i := 3) rfl)) (fun _ h9 => h9) rfl dX9_countOf_75 ?_
    exact hret (I 11) () _ _ _ _ dX9_countOf_78 hP hS h
  by_cases c1_4 : a1 = (4 : Int32)
  · have h := h.2.2.2.2.1 c1_4
    refine lv_tableIn (tgt := 79) (off := 78) hx hb dX9_countOf_1 (by rw [c1_4]; decide) (by rw [c1_4]; decide) (by rw [c1_4]; rfl) (by decide) ?_
    refine lv_aload_n hx hb dX9_countOf_79 rfl (lv_at hl 0 rfl) ?_
    refine va_get (D := D) (ci := 9) (v := .int (I 0)) (C := RX9) (T := TX9) (N := 44) hx hb hts (fun _ h9 => List.mem_cons_of_mem _ (List.mem_append_right _ h9)) hown hK hP 0 mAt0 rfl 11 (by decide) (hts _ (List.mem_of_getElem? (l := wsX9_countOf) (i := 4) rfl)) (fun _ h9 => h9) rfl dX9_countOf_80 ?_
    exact hret (I 0) () _ _ _ _ dX9_countOf_83 hP hS h
  by_cases c1_5 : a1 = (5 : Int32)
  · have h := h.2.2.2.2.2.1 c1_5
    refine lv_tableIn (tgt := 84) (off := 83) hx hb dX9_countOf_1 (by rw [c1_5]; decide) (by rw [c1_5]; decide) (by rw [c1_5]; rfl) (by decide) ?_
    refine lv_aload_n hx hb dX9_countOf_84 rfl (lv_at hl 0 rfl) ?_
    refine va_get (D := D) (ci := 9) (v := .int (I 5)) (C := RX9) (T := TX9) (N := 44) hx hb hts (fun _ h9 => List.mem_cons_of_mem _ (List.mem_append_right _ h9)) hown hK hP 0 mAt0 rfl 18 (by decide) (hts _ (List.mem_of_getElem? (l := wsX9_countOf) (i := 5) rfl)) (fun _ h9 => h9) rfl dX9_countOf_85 ?_
    exact hret (I 5) () _ _ _ _ dX9_countOf_88 hP hS h
  by_cases c1_6 : a1 = (6 : Int32)
  · have h := h.2.2.2.2.2.2.1 c1_6
    refine lv_tableIn (tgt := 89) (off := 88) hx hb dX9_countOf_1 (by rw [c1_6]; decide) (by rw [c1_6]; decide) (by rw [c1_6]; rfl) (by decide) ?_
    refine lv_aload_n hx hb dX9_countOf_89 rfl (lv_at hl 0 rfl) ?_
    refine va_get (D := D) (ci := 9) (v := .int (I 10)) (C := RX9) (T := TX9) (N := 44) hx hb hts (fun _ h9 => List.mem_cons_of_mem _ (List.mem_append_right _ h9)) hown hK hP 0 mAt0 rfl 31 (by decide) (hts _ (List.mem_of_getElem? (l := wsX9_countOf) (i := 6) rfl)) (fun _ h9 => h9) rfl dX9_countOf_90 ?_
    exact hret (I 10) () _ _ _ _ dX9_countOf_93 hP hS h
  have h := h.2.2.2.2.2.2.2 c1_0 c1_1 c1_2 c1_3 c1_4 c1_5 c1_6
  have tc1_0 := lv_neT (a := 0) c1_0 rfl
  have tc1_1 := lv_neT (a := 1) c1_1 rfl
  have tc1_2 := lv_neT (a := 2) c1_2 rfl
  have tc1_3 := lv_neT (a := 3) c1_3 rfl
  have tc1_4 := lv_neT (a := 4) c1_4 rfl
  have tc1_5 := lv_neT (a := 5) c1_5 rfl
  have tc1_6 := lv_neT (a := 6) c1_6 rfl
  refine lv_tableOut (tgt := 94) hx hb dX9_countOf_1 (by omega) (by decide) ?_
  refine lv_bipush (v := (-102 : Int32)) hx hb dX9_countOf_94 (by decide) ?_
  exact hret (-102 : Int32) () _ _ _ _ dX9_countOf_96 hP hS h
def w_X9_count (a1 : Int32) (I : Nat → Int32) (F : Nat → Nat → Int32) (hs : Int64) (post : Int32 → Prop) : Prop :=
  w_X9_countOf a1 I F hs (fun (r1 : Int32) => post r1)
set_option maxHeartbeats 4000000 in
set_option maxRecDepth 100000 in
theorem c_X9_count (l : Launch) (D : va_G) (q : Nat → Nat) (cI cO : ClassId) (hq : mOk q) (a1 : Int32)  (I : Nat → Int32) (F : Nat → Nat → Int32) (hs : Int64) (post : Int32 → Prop) (h : w_X9_count a1 I F hs post) : Met l yX9_count wsX9_count ({ frames := 3, cells := 0, slots := 0, locals := 66 } : Room) (gPre D (mTys cI) (mW q cI cO I F hs) mEnv [.ref (q 0), .int a1]) (va_Qi (fun r (_ : Unit) => post r) (gB D (fun _ : Unit => mW q cI cO I F hs)) (mA q)) 0 0 (mA q) := by
  refine gMetI (by decide) rfl (Nat.le_of_ble_eq_true rfl) ?_
  intro p e R s m args below meth c Q ls hR hx hb hml hown hts hK hE hP hl hret
  have hRf : 3 ≤ R.frames := by subst hR; exact Nat.le_refl _
  have hRl : 66 ≤ R.locals := by subst hR; exact Nat.le_refl _
  have hown : s.vm.findClass RX9 = some m.cls := hown
  have hl : lv_has ls 2 [(0, .ref (q 0)), (1, .int a1)] := hl
  have hS : va_S (mA q) s.heap s.heap [] := va_S.rf
  have hP : va_P D vwCl (mW q cI cO I F hs) s.heap := hP
  refine lv_aload_n hx hb dX9_count_0 rfl (lv_at hl 0 rfl) ?_
  refine lv_iload_n hx hb dX9_count_1 rfl (lv_at hl 1 rfl) ?_
  refine gCallI (D := D) (va_runV (As := [.int a1]) (rest := []) ⟨hx, hb, hml, hown, hts⟩ (c_X9_countOf l D q cI cO hq a1  I F hs _ h) (cwV 1 hts gX9_count_X9_countOf rfl rfl rfl (by decide +kernel) ⟨Nat.le_trans (Nat.le_of_ble_eq_true rfl) hRf, Nat.le_trans (Nat.le_of_ble_eq_true rfl) hRl⟩) (gPreV (ci := 9) (q0 := 0) mEok hE hK hP hS rfl mAt0) rfl rfl hl.1 rfl (lv_room (Nat.le_of_ble_eq_true rfl)) dX9_count_2 ⟨Nat.zero_le _, Nat.zero_le _⟩) hS (fun r1 _ H locs hP hS h => ?_)
  have hP : va_P D vwCl (mW q cI cO I F hs) H := hP
  exact hret r1 () _ _ _ _ dX9_count_5 hP hS h
def w_X9_say (a1 : Int64) (I : Nat → Int32) (F : Nat → Nat → Int32) (hs : Int64) (post : (Nat → Int32) → (Nat → Nat → Int32) → Int64 → Prop) : Prop :=
  ∀ hs1 : Int64, hs1 = (((31 : Int64) * hs) + a1) → post I F hs1
set_option maxHeartbeats 4000000 in
set_option maxRecDepth 100000 in
theorem c_X9_say (l : Launch) (D : va_G) (q : Nat → Nat) (cI cO : ClassId) (hq : mOk q) (a1 : Int64)  (I : Nat → Int32) (F : Nat → Nat → Int32) (hs : Int64) (post : (Nat → Int32) → (Nat → Nat → Int32) → Int64 → Prop) (h : w_X9_say a1 I F hs post) : Met l yX9_say wsX9_say ({ frames := 0, cells := 0, slots := 0, locals := 0 } : Room) (gPre D (mTys cI) (mW q cI cO I F hs) mEnv [.ref (q 0), .long a1]) (va_Qv (fun (u : mS) => post u.1 u.2.1 u.2.2) (gB D (fun u : mS => mW q cI cO u.1 u.2.1 u.2.2)) (mA q)) 0 0 (mA q) := by
  refine gMetV (by decide) rfl (Nat.le_of_ble_eq_true rfl) ?_
  intro p e R s m args below meth c Q ls hR hx hb hml hown hts hK hE hP hl hret
  have hRf : 0 ≤ R.frames := by subst hR; exact Nat.le_refl _
  have hRl : 0 ≤ R.locals := by subst hR; exact Nat.le_refl _
  have hown : s.vm.findClass RX9 = some m.cls := hown
  have hl : lv_has ls 3 [(0, .ref (q 0)), (1, .long a1)] := hl
  have hS : va_S (mA q) s.heap s.heap [] := va_S.rf
  have hP : va_P D vwCl (mW q cI cO I F hs) s.heap := hP
  refine lv_aload_n hx hb dX9_say_0 rfl (lv_at hl 0 rfl) ?_
  refine lv_ldc2 (v := (31 : Int64)) hx hb hown (hts _ (List.mem_of_getElem? (l := wsX9_say) (i := 1) rfl)) dX9_say_1 ?_
  refine lv_aload_n hx hb dX9_say_4 rfl (lv_at hl 0 rfl) ?_
  refine va_get (D := D) (ci := 9) (v := .long hs) (C := RX9) (T := TX9) (N := 44) hx hb hts (fun _ h9 => List.mem_cons_of_mem _ (List.mem_append_right _ h9)) hown hK hP 0 mAt0 rfl 43 (by decide) (hts _ (List.mem_of_getElem? (l := wsX9_say) (i := 2) rfl)) (fun _ h9 => h9) rfl dX9_say_5 ?_
  refine lv_lmul hx hb dX9_say_8 ?_
  refine lv_lload_n hx hb dX9_say_9 rfl (lv_at hl 1 rfl) ?_
  refine lv_ladd hx hb dX9_say_10 ?_
  refine gPut (D := D) (ci := 9) (ty := .long) (C := RX9) (T := TX9) (N := 44) hx hb hts (fun _ h9 => List.mem_cons_of_mem _ (List.mem_append_right _ h9)) tyX9 tyX9_ok nmX9 hown hK hP (mD hq) hS 0 mAt0 rfl 43 (by decide) (hts _ (List.mem_of_getElem? (l := wsX9_say) (i := 2) rfl)) (fun _ h9 => h9) rfl (by decide +kernel) rfl rfl (Nat.le_of_ble_eq_true rfl) dX9_say_11 (mSetH (((31 : Int64) * hs) + a1)) (fun H locs hP hS => ?_)
  obtain ⟨hs1, ehs1⟩ : ∃ z : Int64, z = (((31 : Int64) * hs) + a1) := ⟨_, rfl⟩
  rw [← ehs1] at hP
  have h := h hs1 ehs1
  exact hret (I, F, hs1) _ _ _ _ dX9_say_14 hP hS h
def w_X9_digest_B127  (k again : Int32 → (Nat → Int32) → (Nat → Nat → Int32) → Int64 → Prop) (x1 : Int32) (I : Nat → Int32) (F : Nat → Nat → Int32) (hs : Int64) : Prop :=
  (((7 : Int32) ≤ x1 → k x1 I F hs) ∧ (¬ (7 : Int32) ≤ x1 → w_X9_countOf x1 I F hs (fun (r2 : Int32) => w_X9_say ((r2).toInt64) I F hs (fun (I3 : Nat → Int32) (F4 : Nat → Nat → Int32) (hs5 : Int64) => again (x1 + (1 : Int32)) I3 F4 hs5))))
def w_X9_digest_B100  (k again : Int32 → (Nat → Int32) → (Nat → Nat → Int32) → Int64 → Prop) (x1 : Int32) (I : Nat → Int32) (F : Nat → Nat → Int32) (hs : Int64) : Prop :=
  (((I 0) ≤ x1 → k x1 I F hs) ∧ (¬ (I 0) ≤ x1 → vp_in x1 56 ∧ w_X9_say (((F 11 (x1).toNatClampNeg)).toInt64) I F hs (fun (I7 : Nat → Int32) (F8 : Nat → Nat → Int32) (hs9 : Int64) => again (x1 + (1 : Int32)) I7 F8 hs9)))
def w_X9_digest_J98 (I : Nat → Int32) (F : Nat → Nat → Int32) (hs : Int64) (post : Int64 → (Nat → Int32) → (Nat → Nat → Int32) → Int64 → Prop) : Prop :=
  gL (fun ag v => w_X9_digest_B100  (fun (y10 : Int32) (I11 : Nat → Int32) (F12 : Nat → Nat → Int32) (hs13 : Int64) => gL (fun ag v => w_X9_digest_B127  (fun (y14 : Int32) (I15 : Nat → Int32) (F16 : Nat → Nat → Int32) (hs17 : Int64) => post hs17 I15 F16 hs17) (fun b0 b1 b2 b3 => ag (b0, b1, b2, b3)) v.1 v.2.1 v.2.2.1 v.2.2.2) ((0 : Int32), I11, F12, hs13)) (fun b0 b1 b2 b3 => ag (b0, b1, b2, b3)) v.1 v.2.1 v.2.2.1 v.2.2.2) ((0 : Int32), I, F, hs)
def w_X9_digest_B70  (k again : Int32 → (Nat → Int32) → (Nat → Nat → Int32) → Int64 → Prop) (x1 : Int32) (I : Nat → Int32) (F : Nat → Nat → Int32) (hs : Int64) : Prop :=
  (((3 : Int32) ≤ x1 → k x1 I F hs) ∧ (¬ (3 : Int32) ≤ x1 → (((I 3) ≤ 0 → k x1 I F hs) ∧ (¬ (I 3) ≤ 0 → w_X9_planOf x1 I F hs (fun (r20 : Int32) (I21 : Nat → Int32) (F22 : Nat → Nat → Int32) (hs23 : Int64) => w_X9_say ((r20).toInt64) I21 F22 hs23 (fun (I24 : Nat → Int32) (F25 : Nat → Nat → Int32) (hs26 : Int64) => again (x1 + (1 : Int32)) I24 F25 hs26))))))
def w_X9_digest_B19 (x1 : Int32) (k again : Int32 → (Nat → Int32) → (Nat → Nat → Int32) → Int64 → Prop) (x2 : Int32) (I : Nat → Int32) (F : Nat → Nat → Int32) (hs : Int64) : Prop :=
  (((6 : Int32) ≤ x2 → k x2 I F hs) ∧ (¬ (6 : Int32) ≤ x2 → w_X9_tellChord x1 x2 I F hs (fun (r28 : Int32) (I29 : Nat → Int32) (F30 : Nat → Nat → Int32) (hs31 : Int64) => w_X9_say ((r28).toInt64) I29 F30 hs31 (fun (I32 : Nat → Int32) (F33 : Nat → Nat → Int32) (hs34 : Int64) => again (x2 + (1 : Int32)) I32 F33 hs34))))
def w_X9_digest_B9  (k again : Int32 → (Nat → Int32) → (Nat → Nat → Int32) → Int64 → Prop) (x1 : Int32) (I : Nat → Int32) (F : Nat → Nat → Int32) (hs : Int64) : Prop :=
  (((I 3) ≤ x1 → k x1 I F hs) ∧ (¬ (I 3) ≤ x1 → gL (fun ag v => w_X9_digest_B19 x1 (fun (y36 : Int32) (I37 : Nat → Int32) (F38 : Nat → Nat → Int32) (hs39 : Int64) => w_X9_settingOf x1 I37 F38 hs39 (fun (r40 : Int32) (I41 : Nat → Int32) (F42 : Nat → Nat → Int32) (hs43 : Int64) => w_X9_say ((r40).toInt64) I41 F42 hs43 (fun (I44 : Nat → Int32) (F45 : Nat → Nat → Int32) (hs46 : Int64) => w_X9_reachOf x1 I44 F45 hs46 (fun (r47 : Int32) (I48 : Nat → Int32) (F49 : Nat → Nat → Int32) (hs50 : Int64) => w_X9_say ((r47).toInt64) I48 F49 hs50 (fun (I51 : Nat → Int32) (F52 : Nat → Nat → Int32) (hs53 : Int64) => again (x1 + (1 : Int32)) I51 F52 hs53))))) (fun b0 b1 b2 b3 => ag (b0, b1, b2, b3)) v.1 v.2.1 v.2.2.1 v.2.2.2) ((0 : Int32), I, F, hs)))
def w_X9_digest  (I : Nat → Int32) (F : Nat → Nat → Int32) (hs : Int64) (post : Int64 → (Nat → Int32) → (Nat → Nat → Int32) → Int64 → Prop) : Prop :=
  ∀ hs54 : Int64, hs54 = (1423 : Int64) → gL (fun ag v => w_X9_digest_B9  (fun (y55 : Int32) (I56 : Nat → Int32) (F57 : Nat → Nat → Int32) (hs58 : Int64) => gL (fun ag v => w_X9_digest_B70  (fun (y59 : Int32) (I60 : Nat → Int32) (F61 : Nat → Nat → Int32) (hs62 : Int64) => w_X9_digest_J98 I60 F61 hs62 post) (fun b0 b1 b2 b3 => ag (b0, b1, b2, b3)) v.1 v.2.1 v.2.2.1 v.2.2.2) ((0 : Int32), I56, F57, hs58)) (fun b0 b1 b2 b3 => ag (b0, b1, b2, b3)) v.1 v.2.1 v.2.2.1 v.2.2.2) ((0 : Int32), I, F, hs54)
set_option maxHeartbeats 4000000 in
set_option maxRecDepth 100000 in
theorem c_X9_digest (l : Launch) (D : va_G) (q : Nat → Nat) (cI cO : ClassId) (hq : mOk q)   (I : Nat → Int32) (F : Nat → Nat → Int32) (hs : Int64) (post : Int64 → (Nat → Int32) → (Nat → Nat → Int32) → Int64 → Prop) (h : w_X9_digest  I F hs post) : Met l yX9_digest wsX9_digest ({ frames := 7, cells := 0, slots := 0, locals := 170 } : Room) (gPre D (mTys cI) (mW q cI cO I F hs) mEnv [.ref (q 0)]) (va_Ql (fun r (u : mS) => post r u.1 u.2.1 u.2.2) (gB D (fun u : mS => mW q cI cO u.1 u.2.1 u.2.2)) (mA q)) 0 0 (mA q) := by
  refine gMetL (by decide) rfl (Nat.le_of_ble_eq_true rfl) ?_
  intro p e R s m args below meth c Q ls hR hx hb hml hown hts hK hE hP hl hret
  have hRf : 7 ≤ R.frames := by subst hR; exact Nat.le_refl _
  have hRl : 170 ≤ R.locals := by subst hR; exact Nat.le_refl _
  have hown : s.vm.findClass RX9 = some m.cls := hown
  have hl : lv_has ls 3 [(0, .ref (q 0))] := hl
  have hS : va_S (mA q) s.heap s.heap [] := va_S.rf
  have hP : va_P D vwCl (mW q cI cO I F hs) s.heap := hP
  have L127 : ∀ (n : Nat)  (k : Int32 → (Nat → Int32) → (Nat → Nat → Int32) → Int64 → Prop) (x1 : Int32) (I : Nat → Int32) (F : Nat → Nat → Int32) (hs : Int64) (H : Heap) (locs : List Loc) (ls : Array Slot), va_P D vwCl (mW q cI cO I F hs) H → va_S (mA q) s.heap H locs → lv_has ls 3 [(0, .ref (q 0)), (1, .int x1)] → gLN (fun ag v => w_X9_digest_B127  k (fun b0 b1 b2 b3 => ag (b0, b1, b2, b3)) v.1 v.2.1 v.2.2.1 v.2.2.2) n (x1, I, F, hs) → (∀ (x1 : Int32) (I : Nat → Int32) (F : Nat → Nat → Int32) (hs : Int64) (H : Heap) (locs : List Loc) (ls : Array Slot), va_P D vwCl (mW q cI cO I F hs) H → va_S (mA q) s.heap H locs → lv_has ls 3 [(0, .ref (q 0))] → k x1 I F hs → W p l e R s m args below meth c H locs 0 0 Q (F0 m 149 ls [])) → W p l e R s m args below meth c H locs 0 0 Q (F0 m 127 ls []) := by
    intro n
    induction n with
    | zero =>
      intro  k x1 I F hs H locs ls  hP hS hl h K
      exact False.elim h
    | succ n ih =>
      intro  k x1 I F hs H locs ls  hP hS hl h K
      have h : w_X9_digest_B127  k (fun b0 b1 b2 b3 => gLN (fun ag v => w_X9_digest_B127  k (fun b0 b1 b2 b3 => ag (b0, b1, b2, b3)) v.1 v.2.1 v.2.2.1 v.2.2.2) n (b0, b1, b2, b3)) x1 I F hs := h
      refine lv_iload_n hx hb dX9_digest_127 rfl (lv_at hl 1 rfl) ?_
      refine lv_bipush (v := (7 : Int32)) hx hb dX9_digest_128 (by decide) ?_
      refine lv_icmp_ge (tgt := 149) hx hb dX9_digest_130 (by decide) (fun c1 => ?_) (fun c1 => ?_)
      · have h := h.1 c1
        exact K x1 I F hs _ _ _  hP hS (lv_sub hl [0] rfl) h
      · have h := h.2 c1
        refine lv_aload_n hx hb dX9_digest_133 rfl (lv_at hl 0 rfl) ?_
        refine lv_aload_n hx hb dX9_digest_134 rfl (lv_at hl 0 rfl) ?_
        refine lv_iload_n hx hb dX9_digest_135 rfl (lv_at hl 1 rfl) ?_
        refine gCallI (D := D) (va_runV (As := [.int x1]) (rest := [.ref (q 0)]) ⟨hx, hb, hml, hown, hts⟩ (c_X9_countOf l D q cI cO hq x1  I F hs _ h) (cwV 1 hts gX9_digest_X9_countOf rfl rfl rfl (by decide +kernel) ⟨Nat.le_trans (Nat.le_of_ble_eq_true rfl) hRf, Nat.le_trans (Nat.le_of_ble_eq_true rfl) hRl⟩) (gPreV (ci := 9) (q0 := 0) mEok hE hK hP hS rfl mAt0) rfl rfl hl.1 rfl (lv_room (Nat.le_of_ble_eq_true rfl)) dX9_digest_136 ⟨Nat.zero_le _, Nat.zero_le _⟩) hS (fun r2 _ H locs hP hS h => ?_)
        have hP : va_P D vwCl (mW q cI cO I F hs) H := hP
        refine lv_i2l (v := (r2).toInt64) hx hb dX9_digest_139 rfl ?_
        refine gCallV (D := D) (va_runV (As := [.long ((r2).toInt64)]) (rest := []) ⟨hx, hb, hml, hown, hts⟩ (c_X9_say l D q cI cO hq ((r2).toInt64)  I F hs _ h) (cwV 1 hts gX9_digest_X9_say rfl rfl rfl (by decide +kernel) ⟨Nat.le_trans (Nat.le_of_ble_eq_true rfl) hRf, Nat.le_trans (Nat.le_of_ble_eq_true rfl) hRl⟩) (gPreV (ci := 9) (q0 := 0) mEok hE hK hP hS rfl mAt0) rfl rfl hl.1 rfl (lv_room (Nat.le_of_ble_eq_true rfl)) dX9_digest_140 ⟨Nat.zero_le _, Nat.zero_le _⟩) hS (fun u H locs hP hS h => ?_)
        obtain ⟨I3, F4, hs5⟩ := u
        have hP : va_P D vwCl (mW q cI cO I3 F4 hs5) H := hP
        refine lv_iinc (v := (x1 + (1 : Int32))) (lv' := [(1, .int (x1 + (1 : Int32))), (0, .ref (q 0))]) hx hb dX9_digest_143 hl (k := 1) rfl rfl (by decide) rfl (fun ls hl => ?_)
        refine lv_goto (tgt := 127) hx hb dX9_digest_146 (by decide) ?_
        exact ih  _ (x1 + (1 : Int32)) I3 F4 hs5 _ _ _  hP hS (lv_sub hl [1, 0] rfl) h K
  have L100 : ∀ (n : Nat)  (k : Int32 → (Nat → Int32) → (Nat → Nat → Int32) → Int64 → Prop) (x1 : Int32) (I : Nat → Int32) (F : Nat → Nat → Int32) (hs : Int64) (H : Heap) (locs : List Loc) (ls : Array Slot), va_P D vwCl (mW q cI cO I F hs) H → va_S (mA q) s.heap H locs → lv_has ls 3 [(0, .ref (q 0)), (1, .int x1)] → gLN (fun ag v => w_X9_digest_B100  k (fun b0 b1 b2 b3 => ag (b0, b1, b2, b3)) v.1 v.2.1 v.2.2.1 v.2.2.2) n (x1, I, F, hs) → (∀ (x1 : Int32) (I : Nat → Int32) (F : Nat → Nat → Int32) (hs : Int64) (H : Heap) (locs : List Loc) (ls : Array Slot), va_P D vwCl (mW q cI cO I F hs) H → va_S (mA q) s.heap H locs → lv_has ls 3 [(0, .ref (q 0))] → k x1 I F hs → W p l e R s m args below meth c H locs 0 0 Q (F0 m 125 ls [])) → W p l e R s m args below meth c H locs 0 0 Q (F0 m 100 ls []) := by
    intro n
    induction n with
    | zero =>
      intro  k x1 I F hs H locs ls  hP hS hl h K
      exact False.elim h
    | succ n ih =>
      intro  k x1 I F hs H locs ls  hP hS hl h K
      have h : w_X9_digest_B100  k (fun b0 b1 b2 b3 => gLN (fun ag v => w_X9_digest_B100  k (fun b0 b1 b2 b3 => ag (b0, b1, b2, b3)) v.1 v.2.1 v.2.2.1 v.2.2.2) n (b0, b1, b2, b3)) x1 I F hs := h
      refine lv_iload_n hx hb dX9_digest_100 rfl (lv_at hl 1 rfl) ?_
      refine lv_aload_n hx hb dX9_digest_101 rfl (lv_at hl 0 rfl) ?_
      refine va_get (D := D) (ci := 9) (v := .int (I 0)) (C := RX9) (T := TX9) (N := 44) hx hb hts (fun _ h9 => List.mem_cons_of_mem _ (List.mem_append_right _ h9)) hown hK hP 0 mAt0 rfl 11 (by decide) (hts _ (List.mem_of_getElem? (l := wsX9_digest) (i := 4) rfl)) (fun _ h9 => h9) rfl dX9_digest_102 ?_
      refine lv_icmp_ge (tgt := 125) hx hb dX9_digest_105 (by decide) (fun c6 => ?_) (fun c6 => ?_)
      · have h := h.1 c6
        exact K x1 I F hs _ _ _  hP hS (lv_sub hl [0] rfl) h
      · have h := h.2 c6
        refine lv_aload_n hx hb dX9_digest_108 rfl (lv_at hl 0 rfl) ?_
        refine lv_aload_n hx hb dX9_digest_109 rfl (lv_at hl 0 rfl) ?_
        refine va_get (D := D) (ci := 9) (v := .ref (q 11)) (C := RX9) (T := TX9) (N := 44) hx hb hts (fun _ h9 => List.mem_cons_of_mem _ (List.mem_append_right _ h9)) hown hK hP 0 mAt0 rfl 10 (by decide) (hts _ (List.mem_of_getElem? (l := wsX9_digest) (i := 5) rfl)) (fun _ h9 => h9) rfl dX9_digest_110 ?_
        refine lv_iload_n hx hb dX9_digest_113 rfl (lv_at hl 1 rfl) ?_
        refine va_iald (D := D) hx hb hK hP 11 0 mAr11 rfl h.1 dX9_digest_114 ?_
        have h := h.2
        refine lv_i2l (v := ((F 11 (x1).toNatClampNeg)).toInt64) hx hb dX9_digest_115 rfl ?_
        refine gCallV (D := D) (va_runV (As := [.long (((F 11 (x1).toNatClampNeg)).toInt64)]) (rest := []) ⟨hx, hb, hml, hown, hts⟩ (c_X9_say l D q cI cO hq (((F 11 (x1).toNatClampNeg)).toInt64)  I F hs _ h) (cwV 1 hts gX9_digest_X9_say rfl rfl rfl (by decide +kernel) ⟨Nat.le_trans (Nat.le_of_ble_eq_true rfl) hRf, Nat.le_trans (Nat.le_of_ble_eq_true rfl) hRl⟩) (gPreV (ci := 9) (q0 := 0) mEok hE hK hP hS rfl mAt0) rfl rfl hl.1 rfl (lv_room (Nat.le_of_ble_eq_true rfl)) dX9_digest_116 ⟨Nat.zero_le _, Nat.zero_le _⟩) hS (fun u H locs hP hS h => ?_)
        obtain ⟨I7, F8, hs9⟩ := u
        have hP : va_P D vwCl (mW q cI cO I7 F8 hs9) H := hP
        refine lv_iinc (v := (x1 + (1 : Int32))) (lv' := [(1, .int (x1 + (1 : Int32))), (0, .ref (q 0))]) hx hb dX9_digest_119 hl (k := 1) rfl rfl (by decide) rfl (fun ls hl => ?_)
        refine lv_goto (tgt := 100) hx hb dX9_digest_122 (by decide) ?_
        exact ih  _ (x1 + (1 : Int32)) I7 F8 hs9 _ _ _  hP hS (lv_sub hl [1, 0] rfl) h K
  have J98 : ∀ (I : Nat → Int32) (F : Nat → Nat → Int32) (hs : Int64) (H : Heap) (locs : List Loc) (ls : Array Slot), va_P D vwCl (mW q cI cO I F hs) H → va_S (mA q) s.heap H locs → lv_has ls 3 [(0, .ref (q 0))] → w_X9_digest_J98 I F hs post → W p l e R s m args below meth c H locs 0 0 Q (F0 m 98 ls []) := by
    intro I F hs H locs ls  hP hS hl h
    refine lv_iconst (v := (0 : Int32)) hx hb dX9_digest_98 (by decide) ?_
    refine lv_istore_n (lv' := [(1, .int (0 : Int32)), (0, .ref (q 0))]) hx hb dX9_digest_99 rfl hl (by decide) rfl (fun ls hl => ?_)
    obtain ⟨n, h⟩ := h
    refine L100 n  _ (0 : Int32) I F hs _ _ _  hP hS (lv_sub hl [1, 0] rfl) h (fun y10 I11 F12 hs13 H locs ls  hP hS hl h => ?_)
    refine lv_iconst (v := (0 : Int32)) hx hb dX9_digest_125 (by decide) ?_
    refine lv_istore_n (lv' := [(1, .int (0 : Int32)), (0, .ref (q 0))]) hx hb dX9_digest_126 rfl hl (by decide) rfl (fun ls hl => ?_)
    obtain ⟨n, h⟩ := h
    refine L127 n  _ (0 : Int32) I11 F12 hs13 _ _ _  hP hS (lv_sub hl [1, 0] rfl) h (fun y14 I15 F16 hs17 H locs ls  hP hS hl h => ?_)
    refine lv_aload_n hx hb dX9_digest_149 rfl (lv_at hl 0 rfl) ?_
    refine va_get (D := D) (ci := 9) (v := .long hs17) (C := RX9) (T := TX9) (N := 44) hx hb hts (fun _ h9 => List.mem_cons_of_mem _ (List.mem_append_right _ h9)) hown hK hP 0 mAt0 rfl 43 (by decide) (hts _ (List.mem_of_getElem? (l := wsX9_digest) (i := 2) rfl)) (fun _ h9 => h9) rfl dX9_digest_150 ?_
    exact hret hs17 (I15, F16, hs17) _ _ _ _ dX9_digest_153 hP hS h
  have L70 : ∀ (n : Nat)  (k : Int32 → (Nat → Int32) → (Nat → Nat → Int32) → Int64 → Prop) (x1 : Int32) (I : Nat → Int32) (F : Nat → Nat → Int32) (hs : Int64) (H : Heap) (locs : List Loc) (ls : Array Slot), va_P D vwCl (mW q cI cO I F hs) H → va_S (mA q) s.heap H locs → lv_has ls 3 [(0, .ref (q 0)), (1, .int x1)] → gLN (fun ag v => w_X9_digest_B70  k (fun b0 b1 b2 b3 => ag (b0, b1, b2, b3)) v.1 v.2.1 v.2.2.1 v.2.2.2) n (x1, I, F, hs) → (∀ (x1 : Int32) (I : Nat → Int32) (F : Nat → Nat → Int32) (hs : Int64) (H : Heap) (locs : List Loc) (ls : Array Slot), va_P D vwCl (mW q cI cO I F hs) H → va_S (mA q) s.heap H locs → lv_has ls 3 [(0, .ref (q 0))] → k x1 I F hs → W p l e R s m args below meth c H locs 0 0 Q (F0 m 98 ls [])) → W p l e R s m args below meth c H locs 0 0 Q (F0 m 70 ls []) := by
    intro n
    induction n with
    | zero =>
      intro  k x1 I F hs H locs ls  hP hS hl h K
      exact False.elim h
    | succ n ih =>
      intro  k x1 I F hs H locs ls  hP hS hl h K
      have h : w_X9_digest_B70  k (fun b0 b1 b2 b3 => gLN (fun ag v => w_X9_digest_B70  k (fun b0 b1 b2 b3 => ag (b0, b1, b2, b3)) v.1 v.2.1 v.2.2.1 v.2.2.2) n (b0, b1, b2, b3)) x1 I F hs := h
      refine lv_iload_n hx hb dX9_digest_70 rfl (lv_at hl 1 rfl) ?_
      refine lv_iconst (v := (3 : Int32)) hx hb dX9_digest_71 (by decide) ?_
      refine lv_icmp_ge (tgt := 98) hx hb dX9_digest_72 (by decide) (fun c18 => ?_) (fun c18 => ?_)
      · have h := h.1 c18
        exact K x1 I F hs _ _ _  hP hS (lv_sub hl [0] rfl) h
      · have h := h.2 c18
        refine lv_aload_n hx hb dX9_digest_75 rfl (lv_at hl 0 rfl) ?_
        refine va_get (D := D) (ci := 9) (v := .int (I 3)) (C := RX9) (T := TX9) (N := 44) hx hb hts (fun _ h9 => List.mem_cons_of_mem _ (List.mem_append_right _ h9)) hown hK hP 0 mAt0 rfl 16 (by decide) (hts _ (List.mem_of_getElem? (l := wsX9_digest) (i := 3) rfl)) (fun _ h9 => h9) rfl dX9_digest_76 ?_
        refine lv_if_le (tgt := 98) hx hb dX9_digest_79 (by decide) (fun c19 => ?_) (fun c19 => ?_)
        · have h := h.1 c19
          exact K x1 I F hs _ _ _  hP hS (lv_sub hl [0] rfl) h
        · have h := h.2 c19
          refine lv_aload_n hx hb dX9_digest_82 rfl (lv_at hl 0 rfl) ?_
          refine lv_aload_n hx hb dX9_digest_83 rfl (lv_at hl 0 rfl) ?_
          refine lv_iload_n hx hb dX9_digest_84 rfl (lv_at hl 1 rfl) ?_
          refine gCallI (D := D) (va_runV (As := [.int x1]) (rest := [.ref (q 0)]) ⟨hx, hb, hml, hown, hts⟩ (c_X9_planOf l D q cI cO hq x1  I F hs _ h) (cwV 1 hts gX9_digest_X9_planOf rfl rfl rfl (by decide +kernel) ⟨Nat.le_trans (Nat.le_of_ble_eq_true rfl) hRf, Nat.le_trans (Nat.le_of_ble_eq_true rfl) hRl⟩) (gPreV (ci := 9) (q0 := 0) mEok hE hK hP hS rfl mAt0) rfl rfl hl.1 rfl (lv_room (Nat.le_of_ble_eq_true rfl)) dX9_digest_85 ⟨Nat.zero_le _, Nat.zero_le _⟩) hS (fun r20 u H locs hP hS h => ?_)
          obtain ⟨I21, F22, hs23⟩ := u
          have hP : va_P D vwCl (mW q cI cO I21 F22 hs23) H := hP
          refine lv_i2l (v := (r20).toInt64) hx hb dX9_digest_88 rfl ?_
          refine gCallV (D := D) (va_runV (As := [.long ((r20).toInt64)]) (rest := []) ⟨hx, hb, hml, hown, hts⟩ (c_X9_say l D q cI cO hq ((r20).toInt64)  I21 F22 hs23 _ h) (cwV 1 hts gX9_digest_X9_say rfl rfl rfl (by decide +kernel) ⟨Nat.le_trans (Nat.le_of_ble_eq_true rfl) hRf, Nat.le_trans (Nat.le_of_ble_eq_true rfl) hRl⟩) (gPreV (ci := 9) (q0 := 0) mEok hE hK hP hS rfl mAt0) rfl rfl hl.1 rfl (lv_room (Nat.le_of_ble_eq_true rfl)) dX9_digest_89 ⟨Nat.zero_le _, Nat.zero_le _⟩) hS (fun u H locs hP hS h => ?_)
          obtain ⟨I24, F25, hs26⟩ := u
          have hP : va_P D vwCl (mW q cI cO I24 F25 hs26) H := hP
          refine lv_iinc (v := (x1 + (1 : Int32))) (lv' := [(1, .int (x1 + (1 : Int32))), (0, .ref (q 0))]) hx hb dX9_digest_92 hl (k := 1) rfl rfl (by decide) rfl (fun ls hl => ?_)
          refine lv_goto (tgt := 70) hx hb dX9_digest_95 (by decide) ?_
          exact ih  _ (x1 + (1 : Int32)) I24 F25 hs26 _ _ _  hP hS (lv_sub hl [1, 0] rfl) h K
  have L19 : ∀ (n : Nat) (x1 : Int32) (k : Int32 → (Nat → Int32) → (Nat → Nat → Int32) → Int64 → Prop) (x2 : Int32) (I : Nat → Int32) (F : Nat → Nat → Int32) (hs : Int64) (H : Heap) (locs : List Loc) (ls : Array Slot), va_P D vwCl (mW q cI cO I F hs) H → va_S (mA q) s.heap H locs → lv_has ls 3 [(0, .ref (q 0)), (1, .int x1), (2, .int x2)] → gLN (fun ag v => w_X9_digest_B19 x1 k (fun b0 b1 b2 b3 => ag (b0, b1, b2, b3)) v.1 v.2.1 v.2.2.1 v.2.2.2) n (x2, I, F, hs) → (∀ (x2 : Int32) (I : Nat → Int32) (F : Nat → Nat → Int32) (hs : Int64) (H : Heap) (locs : List Loc) (ls : Array Slot), va_P D vwCl (mW q cI cO I F hs) H → va_S (mA q) s.heap H locs → lv_has ls 3 [(0, .ref (q 0)), (1, .int x1)] → k x2 I F hs → W p l e R s m args below meth c H locs 0 0 Q (F0 m 42 ls [])) → W p l e R s m args below meth c H locs 0 0 Q (F0 m 19 ls []) := by
    intro n
    induction n with
    | zero =>
      intro x1 k x2 I F hs H locs ls  hP hS hl h K
      exact False.elim h
    | succ n ih =>
      intro x1 k x2 I F hs H locs ls  hP hS hl h K
      have h : w_X9_digest_B19 x1 k (fun b0 b1 b2 b3 => gLN (fun ag v => w_X9_digest_B19 x1 k (fun b0 b1 b2 b3 => ag (b0, b1, b2, b3)) v.1 v.2.1 v.2.2.1 v.2.2.2) n (b0, b1, b2, b3)) x2 I F hs := h
      refine lv_iload_n hx hb dX9_digest_19 rfl (lv_at hl 2 rfl) ?_
      refine lv_bipush (v := (6 : Int32)) hx hb dX9_digest_20 (by decide) ?_
      refine lv_icmp_ge (tgt := 42) hx hb dX9_digest_22 (by decide) (fun c27 => ?_) (fun c27 => ?_)
      · have h := h.1 c27
        exact K x2 I F hs _ _ _  hP hS (lv_sub hl [0, 1] rfl) h
      · have h := h.2 c27
        refine lv_aload_n hx hb dX9_digest_25 rfl (lv_at hl 0 rfl) ?_
        refine lv_aload_n hx hb dX9_digest_26 rfl (lv_at hl 0 rfl) ?_
        refine lv_iload_n hx hb dX9_digest_27 rfl (lv_at hl 1 rfl) ?_
        refine lv_iload_n hx hb dX9_digest_28 rfl (lv_at hl 2 rfl) ?_
        refine gCallI (D := D) (va_runV (As := [.int x1, .int x2]) (rest := [.ref (q 0)]) ⟨hx, hb, hml, hown, hts⟩ (c_X9_tellChord l D q cI cO hq x1 x2  I F hs _ h) (cwV 2 hts gX9_digest_X9_tellChord rfl rfl rfl (by decide +kernel) ⟨Nat.le_trans (Nat.le_of_ble_eq_true rfl) hRf, Nat.le_trans (Nat.le_of_ble_eq_true rfl) hRl⟩) (gPreV (ci := 9) (q0 := 0) mEok hE hK hP hS rfl mAt0) rfl rfl hl.1 rfl (lv_room (Nat.le_of_ble_eq_true rfl)) dX9_digest_29 ⟨Nat.zero_le _, Nat.zero_le _⟩) hS (fun r28 u H locs hP hS h => ?_)
        obtain ⟨I29, F30, hs31⟩ := u
        have hP : va_P D vwCl (mW q cI cO I29 F30 hs31) H := hP
        refine lv_i2l (v := (r28).toInt64) hx hb dX9_digest_32 rfl ?_
        refine gCallV (D := D) (va_runV (As := [.long ((r28).toInt64)]) (rest := []) ⟨hx, hb, hml, hown, hts⟩ (c_X9_say l D q cI cO hq ((r28).toInt64)  I29 F30 hs31 _ h) (cwV 1 hts gX9_digest_X9_say rfl rfl rfl (by decide +kernel) ⟨Nat.le_trans (Nat.le_of_ble_eq_true rfl) hRf, Nat.le_trans (Nat.le_of_ble_eq_true rfl) hRl⟩) (gPreV (ci := 9) (q0 := 0) mEok hE hK hP hS rfl mAt0) rfl rfl hl.1 rfl (lv_room (Nat.le_of_ble_eq_true rfl)) dX9_digest_33 ⟨Nat.zero_le _, Nat.zero_le _⟩) hS (fun u H locs hP hS h => ?_)
        obtain ⟨I32, F33, hs34⟩ := u
        have hP : va_P D vwCl (mW q cI cO I32 F33 hs34) H := hP
        refine lv_iinc (v := (x2 + (1 : Int32))) (lv' := [(2, .int (x2 + (1 : Int32))), (0, .ref (q 0)), (1, .int x1)]) hx hb dX9_digest_36 hl (k := 2) rfl rfl (by decide) rfl (fun ls hl => ?_)
        refine lv_goto (tgt := 19) hx hb dX9_digest_39 (by decide) ?_
        exact ih x1 _ (x2 + (1 : Int32)) I32 F33 hs34 _ _ _  hP hS (lv_sub hl [1, 2, 0] rfl) h K
  have L9 : ∀ (n : Nat)  (k : Int32 → (Nat → Int32) → (Nat → Nat → Int32) → Int64 → Prop) (x1 : Int32) (I : Nat → Int32) (F : Nat → Nat → Int32) (hs : Int64) (H : Heap) (locs : List Loc) (ls : Array Slot), va_P D vwCl (mW q cI cO I F hs) H → va_S (mA q) s.heap H locs → lv_has ls 3 [(0, .ref (q 0)), (1, .int x1)] → gLN (fun ag v => w_X9_digest_B9  k (fun b0 b1 b2 b3 => ag (b0, b1, b2, b3)) v.1 v.2.1 v.2.2.1 v.2.2.2) n (x1, I, F, hs) → (∀ (x1 : Int32) (I : Nat → Int32) (F : Nat → Nat → Int32) (hs : Int64) (H : Heap) (locs : List Loc) (ls : Array Slot), va_P D vwCl (mW q cI cO I F hs) H → va_S (mA q) s.heap H locs → lv_has ls 3 [(0, .ref (q 0))] → k x1 I F hs → W p l e R s m args below meth c H locs 0 0 Q (F0 m 68 ls [])) → W p l e R s m args below meth c H locs 0 0 Q (F0 m 9 ls []) := by
    intro n
    induction n with
    | zero =>
      intro  k x1 I F hs H locs ls  hP hS hl h K
      exact False.elim h
    | succ n ih =>
      intro  k x1 I F hs H locs ls  hP hS hl h K
      have h : w_X9_digest_B9  k (fun b0 b1 b2 b3 => gLN (fun ag v => w_X9_digest_B9  k (fun b0 b1 b2 b3 => ag (b0, b1, b2, b3)) v.1 v.2.1 v.2.2.1 v.2.2.2) n (b0, b1, b2, b3)) x1 I F hs := h
      refine lv_iload_n hx hb dX9_digest_9 rfl (lv_at hl 1 rfl) ?_
      refine lv_aload_n hx hb dX9_digest_10 rfl (lv_at hl 0 rfl) ?_
      refine va_get (D := D) (ci := 9) (v := .int (I 3)) (C := RX9) (T := TX9) (N := 44) hx hb hts (fun _ h9 => List.mem_cons_of_mem _ (List.mem_append_right _ h9)) hown hK hP 0 mAt0 rfl 16 (by decide) (hts _ (List.mem_of_getElem? (l := wsX9_digest) (i := 3) rfl)) (fun _ h9 => h9) rfl dX9_digest_11 ?_
      refine lv_icmp_ge (tgt := 68) hx hb dX9_digest_14 (by decide) (fun c35 => ?_) (fun c35 => ?_)
      · have h := h.1 c35
        exact K x1 I F hs _ _ _  hP hS (lv_sub hl [0] rfl) h
      · have h := h.2 c35
        refine lv_iconst (v := (0 : Int32)) hx hb dX9_digest_17 (by decide) ?_
        refine lv_istore_n (lv' := [(2, .int (0 : Int32)), (0, .ref (q 0)), (1, .int x1)]) hx hb dX9_digest_18 rfl hl (by decide) rfl (fun ls hl => ?_)
        obtain ⟨n, h⟩ := h
        refine L19 n x1 _ (0 : Int32) I F hs _ _ _  hP hS (lv_sub hl [1, 2, 0] rfl) h (fun y36 I37 F38 hs39 H locs ls  hP hS hl h => ?_)
        refine lv_aload_n hx hb dX9_digest_42 rfl (lv_at hl 0 rfl) ?_
        refine lv_aload_n hx hb dX9_digest_43 rfl (lv_at hl 0 rfl) ?_
        refine lv_iload_n hx hb dX9_digest_44 rfl (lv_at hl 1 rfl) ?_
        refine gCallI (D := D) (va_runV (As := [.int x1]) (rest := [.ref (q 0)]) ⟨hx, hb, hml, hown, hts⟩ (c_X9_settingOf l D q cI cO hq x1  I37 F38 hs39 _ h) (cwV 1 hts gX9_digest_X9_settingOf rfl rfl rfl (by decide +kernel) ⟨Nat.le_trans (Nat.le_of_ble_eq_true rfl) hRf, Nat.le_trans (Nat.le_of_ble_eq_true rfl) hRl⟩) (gPreV (ci := 9) (q0 := 0) mEok hE hK hP hS rfl mAt0) rfl rfl hl.1 rfl (lv_room (Nat.le_of_ble_eq_true rfl)) dX9_digest_45 ⟨Nat.zero_le _, Nat.zero_le _⟩) hS (fun r40 u H locs hP hS h => ?_)
        obtain ⟨I41, F42, hs43⟩ := u
        have hP : va_P D vwCl (mW q cI cO I41 F42 hs43) H := hP
        refine lv_i2l (v := (r40).toInt64) hx hb dX9_digest_48 rfl ?_
        refine gCallV (D := D) (va_runV (As := [.long ((r40).toInt64)]) (rest := []) ⟨hx, hb, hml, hown, hts⟩ (c_X9_say l D q cI cO hq ((r40).toInt64)  I41 F42 hs43 _ h) (cwV 1 hts gX9_digest_X9_say rfl rfl rfl (by decide +kernel) ⟨Nat.le_trans (Nat.le_of_ble_eq_true rfl) hRf, Nat.le_trans (Nat.le_of_ble_eq_true rfl) hRl⟩) (gPreV (ci := 9) (q0 := 0) mEok hE hK hP hS rfl mAt0) rfl rfl hl.1 rfl (lv_room (Nat.le_of_ble_eq_true rfl)) dX9_digest_49 ⟨Nat.zero_le _, Nat.zero_le _⟩) hS (fun u H locs hP hS h => ?_)
        obtain ⟨I44, F45, hs46⟩ := u
        have hP : va_P D vwCl (mW q cI cO I44 F45 hs46) H := hP
        refine lv_aload_n hx hb dX9_digest_52 rfl (lv_at hl 0 rfl) ?_
        refine lv_aload_n hx hb dX9_digest_53 rfl (lv_at hl 0 rfl) ?_
        refine lv_iload_n hx hb dX9_digest_54 rfl (lv_at hl 1 rfl) ?_
        refine gCallI (D := D) (va_runV (As := [.int x1]) (rest := [.ref (q 0)]) ⟨hx, hb, hml, hown, hts⟩ (c_X9_reachOf l D q cI cO hq x1  I44 F45 hs46 _ h) (cwV 1 hts gX9_digest_X9_reachOf rfl rfl rfl (by decide +kernel) ⟨Nat.le_trans (Nat.le_of_ble_eq_true rfl) hRf, Nat.le_trans (Nat.le_of_ble_eq_true rfl) hRl⟩) (gPreV (ci := 9) (q0 := 0) mEok hE hK hP hS rfl mAt0) rfl rfl hl.1 rfl (lv_room (Nat.le_of_ble_eq_true rfl)) dX9_digest_55 ⟨Nat.zero_le _, Nat.zero_le _⟩) hS (fun r47 u H locs hP hS h => ?_)
        obtain ⟨I48, F49, hs50⟩ := u
        have hP : va_P D vwCl (mW q cI cO I48 F49 hs50) H := hP
        refine lv_i2l (v := (r47).toInt64) hx hb dX9_digest_58 rfl ?_
        refine gCallV (D := D) (va_runV (As := [.long ((r47).toInt64)]) (rest := []) ⟨hx, hb, hml, hown, hts⟩ (c_X9_say l D q cI cO hq ((r47).toInt64)  I48 F49 hs50 _ h) (cwV 1 hts gX9_digest_X9_say rfl rfl rfl (by decide +kernel) ⟨Nat.le_trans (Nat.le_of_ble_eq_true rfl) hRf, Nat.le_trans (Nat.le_of_ble_eq_true rfl) hRl⟩) (gPreV (ci := 9) (q0 := 0) mEok hE hK hP hS rfl mAt0) rfl rfl hl.1 rfl (lv_room (Nat.le_of_ble_eq_true rfl)) dX9_digest_59 ⟨Nat.zero_le _, Nat.zero_le _⟩) hS (fun u H locs hP hS h => ?_)
        obtain ⟨I51, F52, hs53⟩ := u
        have hP : va_P D vwCl (mW q cI cO I51 F52 hs53) H := hP
        refine lv_iinc (v := (x1 + (1 : Int32))) (lv' := [(1, .int (x1 + (1 : Int32))), (0, .ref (q 0))]) hx hb dX9_digest_62 hl (k := 1) rfl rfl (by decide) rfl (fun ls hl => ?_)
        refine lv_goto (tgt := 9) hx hb dX9_digest_65 (by decide) ?_
        exact ih  _ (x1 + (1 : Int32)) I51 F52 hs53 _ _ _  hP hS (lv_sub hl [1, 0] rfl) h K
  refine lv_aload_n hx hb dX9_digest_0 rfl (lv_at hl 0 rfl) ?_
  refine lv_ldc2 (v := (1423 : Int64)) hx hb hown (hts _ (List.mem_of_getElem? (l := wsX9_digest) (i := 1) rfl)) dX9_digest_1 ?_
  refine gPut (D := D) (ci := 9) (ty := .long) (C := RX9) (T := TX9) (N := 44) hx hb hts (fun _ h9 => List.mem_cons_of_mem _ (List.mem_append_right _ h9)) tyX9 tyX9_ok nmX9 hown hK hP (mD hq) hS 0 mAt0 rfl 43 (by decide) (hts _ (List.mem_of_getElem? (l := wsX9_digest) (i := 2) rfl)) (fun _ h9 => h9) rfl (by decide +kernel) rfl rfl (Nat.le_of_ble_eq_true rfl) dX9_digest_4 (mSetH (1423 : Int64)) (fun H locs hP hS => ?_)
  obtain ⟨hs54, ehs54⟩ : ∃ z : Int64, z = (1423 : Int64) := ⟨_, rfl⟩
  rw [← ehs54] at hP
  have h := h hs54 ehs54
  refine lv_iconst (v := (0 : Int32)) hx hb dX9_digest_7 (by decide) ?_
  refine lv_istore_n (lv' := [(1, .int (0 : Int32)), (0, .ref (q 0))]) hx hb dX9_digest_8 rfl hl (by decide) rfl (fun ls hl => ?_)
  obtain ⟨n, h⟩ := h
  refine L9 n  _ (0 : Int32) I F hs54 _ _ _  hP hS (lv_sub hl [1, 0] rfl) h (fun y55 I56 F57 hs58 H locs ls  hP hS hl h => ?_)
  refine lv_iconst (v := (0 : Int32)) hx hb dX9_digest_68 (by decide) ?_
  refine lv_istore_n (lv' := [(1, .int (0 : Int32)), (0, .ref (q 0))]) hx hb dX9_digest_69 rfl hl (by decide) rfl (fun ls hl => ?_)
  obtain ⟨n, h⟩ := h
  refine L70 n  _ (0 : Int32) I56 F57 hs58 _ _ _  hP hS (lv_sub hl [1, 0] rfl) h (fun y59 I60 F61 hs62 H locs ls  hP hS hl h => ?_)
  exact J98 I60 F61 hs62 _ _ _  hP hS (lv_sub hl [0] rfl) h
