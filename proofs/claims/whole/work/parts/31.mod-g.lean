def w_X9_freshen_B60 (x1 : Int32) (k again : Int32 → (Nat → Int32) → (Nat → Nat → Int32) → Int64 → Prop) (x2 : Int32) (I : Nat → Int32) (F : Nat → Nat → Int32) (hs : Int64) : Prop :=
  (((2187 : Int32) ≤ x2 → k x2 I F hs) ∧ (¬ (2187 : Int32) ≤ x2 → ∀ v2 : Int32, v2 = (((2187 : Int32) * x1) + x2) → vp_in x1 8 ∧ vp_in v2 17496 ∧ (((99999 : Int32) ≤ (F 18 (v2).toNatClampNeg) → vp_in x1 8 ∧ ∀ F4 : Nat → Nat → Int32, F4 = upF F 21 (upd (F 21) (x1).toNatClampNeg ((F 21 (x1).toNatClampNeg) + (0 : Int32))) → ((¬ x1 = ((I 3) - (1 : Int32)) → ∀ I6 : Nat → Int32, I6 = upd I 8 ((I 8) + (0 : Int32)) → ∀ I7 : Nat → Int32, I7 = upd I6 8 ((I6 8) - (I6 8) / (1000003 : Int32) * (1000003 : Int32)) → again (x2 + (1 : Int32)) I7 F4 hs) ∧ (x1 = ((I 3) - (1 : Int32)) → vp_in v2 17496 ∧ (((99999 : Int32) ≤ (F4 18 (v2).toNatClampNeg) → ∀ I9 : Nat → Int32, I9 = upd I 8 ((I 8) + (0 : Int32)) → ∀ I10 : Nat → Int32, I10 = upd I9 8 ((I9 8) - (I9 8) / (1000003 : Int32) * (1000003 : Int32)) → again (x2 + (1 : Int32)) I10 F4 hs) ∧ (¬ (99999 : Int32) ≤ (F4 18 (v2).toNatClampNeg) → vp_in v2 17496 ∧ ((¬ (F4 18 (v2).toNatClampNeg) = (I 7) → ∀ I12 : Nat → Int32, I12 = upd I 8 ((I 8) + (0 : Int32)) → ∀ I13 : Nat → Int32, I13 = upd I12 8 ((I12 8) - (I12 8) / (1000003 : Int32) * (1000003 : Int32)) → again (x2 + (1 : Int32)) I13 F4 hs) ∧ ((F4 18 (v2).toNatClampNeg) = (I 7) → vp_in v2 17496 ∧ ∀ I14 : Nat → Int32, I14 = upd I 8 ((I 8) + (F4 19 (v2).toNatClampNeg)) → ∀ I15 : Nat → Int32, I15 = upd I14 8 ((I14 8) - (I14 8) / (1000003 : Int32) * (1000003 : Int32)) → again (x2 + (1 : Int32)) I15 F4 hs))))))) ∧ (¬ (99999 : Int32) ≤ (F 18 (v2).toNatClampNeg) → vp_in x1 8 ∧ ∀ F16 : Nat → Nat → Int32, F16 = upF F 21 (upd (F 21) (x1).toNatClampNeg ((F 21 (x1).toNatClampNeg) + (1 : Int32))) → ((¬ x1 = ((I 3) - (1 : Int32)) → ∀ I18 : Nat → Int32, I18 = upd I 8 ((I 8) + (0 : Int32)) → ∀ I19 : Nat → Int32, I19 = upd I18 8 ((I18 8) - (I18 8) / (1000003 : Int32) * (1000003 : Int32)) → again (x2 + (1 : Int32)) I19 F16 hs) ∧ (x1 = ((I 3) - (1 : Int32)) → vp_in v2 17496 ∧ (((99999 : Int32) ≤ (F16 18 (v2).toNatClampNeg) → ∀ I21 : Nat → Int32, I21 = upd I 8 ((I 8) + (0 : Int32)) → ∀ I22 : Nat → Int32, I22 = upd I21 8 ((I21 8) - (I21 8) / (1000003 : Int32) * (1000003 : Int32)) → again (x2 + (1 : Int32)) I22 F16 hs) ∧ (¬ (99999 : Int32) ≤ (F16 18 (v2).toNatClampNeg) → vp_in v2 17496 ∧ ((¬ (F16 18 (v2).toNatClampNeg) = (I 7) → ∀ I24 : Nat → Int32, I24 = upd I 8 ((I 8) + (0 : Int32)) → ∀ I25 : Nat → Int32, I25 = upd I24 8 ((I24 8) - (I24 8) / (1000003 : Int32) * (1000003 : Int32)) → again (x2 + (1 : Int32)) I25 F16 hs) ∧ ((F16 18 (v2).toNatClampNeg) = (I 7) → vp_in v2 17496 ∧ ∀ I26 : Nat → Int32, I26 = upd I 8 ((I 8) + (F16 19 (v2).toNatClampNeg)) → ∀ I27 : Nat → Int32, I27 = upd I26 8 ((I26 8) - (I26 8) / (1000003 : Int32) * (1000003 : Int32)) → again (x2 + (1 : Int32)) I27 F16 hs))))))))))
def w_X9_freshen_B43  (k again : Int32 → (Nat → Int32) → (Nat → Nat → Int32) → Int64 → Prop) (x1 : Int32) (I : Nat → Int32) (F : Nat → Nat → Int32) (hs : Int64) : Prop :=
  (((I 3) ≤ x1 → k x1 I F hs) ∧ (¬ (I 3) ≤ x1 → vp_in x1 8 ∧ ∀ F29 : Nat → Nat → Int32, F29 = upF F 21 (upd (F 21) (x1).toNatClampNeg (0 : Int32)) → gL (fun ag v => w_X9_freshen_B60 x1 (fun (y30 : Int32) (I31 : Nat → Int32) (F32 : Nat → Nat → Int32) (hs33 : Int64) => ((¬ (I31 9) = (-1 : Int32) → ∀ I35 : Nat → Int32, I35 = upd I31 9 (I31 9) → again (x1 + (1 : Int32)) I35 F32 hs33) ∧ ((I31 9) = (-1 : Int32) → vp_in x1 8 ∧ ((¬ (F32 21 (x1).toNatClampNeg) = 0 → ∀ I37 : Nat → Int32, I37 = upd I31 9 (I31 9) → again (x1 + (1 : Int32)) I37 F32 hs33) ∧ ((F32 21 (x1).toNatClampNeg) = 0 → ∀ I38 : Nat → Int32, I38 = upd I31 9 x1 → again (x1 + (1 : Int32)) I38 F32 hs33))))) (fun b0 b1 b2 b3 => ag (b0, b1, b2, b3)) v.1 v.2.1 v.2.2.1 v.2.2.2) ((0 : Int32), I, F29, hs)))
def w_X9_freshen  (I : Nat → Int32) (F : Nat → Nat → Int32) (hs : Int64) (post : (Nat → Int32) → (Nat → Nat → Int32) → Int64 → Prop) : Prop :=
  ((¬ (I 6) = 0 → w_X9_layRest (0 : Int32) I F hs (fun (I40 : Nat → Int32) (F41 : Nat → Nat → Int32) (hs42 : Int64) => w_X9_bestFrom (I40 4) (0 : Int32) (0 : Int32) I40 F41 hs42 (fun (r43 : Int32) => ∀ I44 : Nat → Int32, I44 = upd I40 7 r43 → w_X9_layCost I44 F41 hs42 (fun (I45 : Nat → Int32) (F46 : Nat → Nat → Int32) (hs47 : Int64) => ∀ I48 : Nat → Int32, I48 = upd I45 8 (0 : Int32) → ∀ I49 : Nat → Int32, I49 = upd I48 9 (-1 : Int32) → gL (fun ag v => w_X9_freshen_B43  (fun (y50 : Int32) (I51 : Nat → Int32) (F52 : Nat → Nat → Int32) (hs53 : Int64) => w_X9_layBest I51 F52 hs53 (fun (I54 : Nat → Int32) (F55 : Nat → Nat → Int32) (hs56 : Int64) => ∀ I57 : Nat → Int32, I57 = upd I54 6 (0 : Int32) → post I57 F55 hs56)) (fun b0 b1 b2 b3 => ag (b0, b1, b2, b3)) v.1 v.2.1 v.2.2.1 v.2.2.2) ((0 : Int32), I49, F46, hs47))))) ∧ ((I 6) = 0 → post I F hs))
set_option maxHeartbeats 4000000 in
set_option maxRecDepth 100000 in
theorem c_X9_freshen (l : Launch) (D : va_G) (q : Nat → Nat) (cI cO : ClassId) (hq : mOk q)   (I : Nat → Int32) (F : Nat → Nat → Int32) (hs : Int64) (post : (Nat → Int32) → (Nat → Nat → Int32) → Int64 → Prop) (h : w_X9_freshen  I F hs post) : Met l yX9_freshen wsX9_freshen ({ frames := 4, cells := 0, slots := 0, locals := 99 } : Room) (gPre D (mTys cI) (mW q cI cO I F hs) mEnv [.ref (q 0)]) (va_Qv (fun (u : mS) => post u.1 u.2.1 u.2.2) (gB D (fun u : mS => mW q cI cO u.1 u.2.1 u.2.2)) (mA q)) 0 0 (mA q) := by
  refine gMetV (by decide) rfl (Nat.le_of_ble_eq_true rfl) ?_
  intro p e R s m args below meth c Q ls hR hx hb hml hown hts hK hE hP hl hret
  have hRf : 4 ≤ R.frames := by subst hR; exact Nat.le_refl _
  have hRl : 99 ≤ R.locals := by subst hR; exact Nat.le_refl _
  have hown : s.vm.findClass RX9 = some m.cls := hown
  have hl : lv_has ls 4 [(0, .ref (q 0))] := hl
  have hS : va_S (mA q) s.heap s.heap [] := va_S.rf
  have hP : va_P D vwCl (mW q cI cO I F hs) s.heap := hP
  have L60 : ∀ (n : Nat) (x1 : Int32) (k : Int32 → (Nat → Int32) → (Nat → Nat → Int32) → Int64 → Prop) (x2 : Int32) (I : Nat → Int32) (F : Nat → Nat → Int32) (hs : Int64) (H : Heap) (locs : List Loc) (ls : Array Slot), va_P D vwCl (mW q cI cO I F hs) H → va_S (mA q) s.heap H locs → lv_has ls 4 [(0, .ref (q 0)), (1, .int x1), (2, .int x2)] → gLN (fun ag v => w_X9_freshen_B60 x1 k (fun b0 b1 b2 b3 => ag (b0, b1, b2, b3)) v.1 v.2.1 v.2.2.1 v.2.2.2) n (x2, I, F, hs) → (∀ (x2 : Int32) (I : Nat → Int32) (F : Nat → Nat → Int32) (hs : Int64) (H : Heap) (locs : List Loc) (ls : Array Slot), va_P D vwCl (mW q cI cO I F hs) H → va_S (mA q) s.heap H locs → lv_has ls 4 [(0, .ref (q 0)), (1, .int x1)] → k x2 I F hs → W p l e R s m args below meth c H locs 0 0 Q (F0 m 170 ls [])) → W p l e R s m args below meth c H locs 0 0 Q (F0 m 60 ls []) := by
    intro n
    induction n with
    | zero =>
      intro x1 k x2 I F hs H locs ls  hP hS hl h K
      exact False.elim h
    | succ n ih =>
      intro x1 k x2 I F hs H locs ls  hP hS hl h K
      have h : w_X9_freshen_B60 x1 k (fun b0 b1 b2 b3 => gLN (fun ag v => w_X9_freshen_B60 x1 k (fun b0 b1 b2 b3 => ag (b0, b1, b2, b3)) v.1 v.2.1 v.2.2.1 v.2.2.2) n (b0, b1, b2, b3)) x2 I F hs := h
      refine lv_iload_n hx hb dX9_freshen_60 rfl (lv_at hl 2 rfl) ?_
      refine lv_sipush (v := (2187 : Int32)) hx hb dX9_freshen_61 (by decide) ?_
      refine lv_icmp_ge (tgt := 170) hx hb dX9_freshen_64 (by decide) (fun c1 => ?_) (fun c1 => ?_)
      · have h := h.1 c1
        exact K x2 I F hs _ _ _  hP hS (lv_sub hl [0, 1] rfl) h
      · have h := h.2 c1
        refine lv_sipush (v := (2187 : Int32)) hx hb dX9_freshen_67 (by decide) ?_
        refine lv_iload_n hx hb dX9_freshen_70 rfl (lv_at hl 1 rfl) ?_
        refine lv_imul hx hb dX9_freshen_71 ?_
        refine lv_iload_n hx hb dX9_freshen_72 rfl (lv_at hl 2 rfl) ?_
        refine lv_iadd hx hb dX9_freshen_73 ?_
        refine lv_topi (fun v2 ev2 => ?_)
        have h := h v2 ev2
        refine lv_istore_n (lv' := [(3, .int v2), (0, .ref (q 0)), (1, .int x1), (2, .int x2)]) hx hb dX9_freshen_74 rfl hl (by decide) rfl (fun ls hl => ?_)
        refine lv_aload_n hx hb dX9_freshen_75 rfl (lv_at hl 1 rfl) ?_
        refine va_get (D := D) (ci := 9) (v := .ref (q 21)) (C := RX9) (T := TX9) (N := 44) hx hb hts (fun _ h9 => List.mem_cons_of_mem _ (List.mem_append_right _ h9)) hown hK hP 0 mAt0 rfl 30 (by decide) (hts _ (List.mem_of_getElem? (l := wsX9_freshen) (i := 7) rfl)) (fun _ h9 => h9) rfl dX9_freshen_76 ?_
        refine lv_iload_n hx hb dX9_freshen_79 rfl (lv_at hl 2 rfl) ?_
        refine lv_dup2_11 hx hb dX9_freshen_80 rfl rfl ?_
        refine va_iald (D := D) hx hb hK hP 21 0 mAr21 rfl h.1 dX9_freshen_81 ?_
        have h := h.2
        refine lv_aload_n hx hb dX9_freshen_82 rfl (lv_at hl 1 rfl) ?_
        refine va_get (D := D) (ci := 9) (v := .ref (q 18)) (C := RX9) (T := TX9) (N := 44) hx hb hts (fun _ h9 => List.mem_cons_of_mem _ (List.mem_append_right _ h9)) hown hK hP 0 mAt0 rfl 24 (by decide) (hts _ (List.mem_of_getElem? (l := wsX9_freshen) (i := 8) rfl)) (fun _ h9 => h9) rfl dX9_freshen_83 ?_
        refine lv_iload_n hx hb dX9_freshen_86 rfl (lv_at hl 0 rfl) ?_
        refine va_iald (D := D) hx hb hK hP 18 0 mAr18 rfl h.1 dX9_freshen_87 ?_
        have h := h.2
        refine lv_ldc (v := (99999 : Int32)) hx hb hown (hts _ (List.mem_of_getElem? (l := wsX9_freshen) (i := 9) rfl)) dX9_freshen_88 ?_
        refine lv_icmp_ge (tgt := 97) hx hb dX9_freshen_90 (by decide) (fun c3 => ?_) (fun c3 => ?_)
        · have h := h.1 c3
          refine lv_iconst (v := (0 : Int32)) hx hb dX9_freshen_97 (by decide) ?_
          refine lv_iadd hx hb dX9_freshen_98 ?_
          refine gAst (D := D) hx hb hK hP (mD hq) hS 21 0 mAr21 rfl h.1 dX9_freshen_99 (mSA21 _) (fun H locs hP hS => ?_)
          obtain ⟨F4, eF4⟩ : ∃ z : Nat → Nat → Int32, z = upF F 21 (upd (F 21) (x1).toNatClampNeg ((F 21 (x1).toNatClampNeg) + (0 : Int32))) := ⟨_, rfl⟩
          rw [← eF4] at hP
          have h := h.2 F4 eF4
          refine lv_aload_n hx hb dX9_freshen_100 rfl (lv_at hl 1 rfl) ?_
          refine lv_dup hx hb dX9_freshen_101 rfl ?_
          refine va_get (D := D) (ci := 9) (v := .int (I 8)) (C := RX9) (T := TX9) (N := 44) hx hb hts (fun _ h9 => List.mem_cons_of_mem _ (List.mem_append_right _ h9)) hown hK hP 0 mAt0 rfl 27 (by decide) (hts _ (List.mem_of_getElem? (l := wsX9_freshen) (i := 4) rfl)) (fun _ h9 => h9) rfl dX9_freshen_102 ?_
          refine lv_iload_n hx hb dX9_freshen_105 rfl (lv_at hl 2 rfl) ?_
          refine lv_aload_n hx hb dX9_freshen_106 rfl (lv_at hl 1 rfl) ?_
          refine va_get (D := D) (ci := 9) (v := .int (I 3)) (C := RX9) (T := TX9) (N := 44) hx hb hts (fun _ h9 => List.mem_cons_of_mem _ (List.mem_append_right _ h9)) hown hK hP 0 mAt0 rfl 16 (by decide) (hts _ (List.mem_of_getElem? (l := wsX9_freshen) (i := 6) rfl)) (fun _ h9 => h9) rfl dX9_freshen_107 ?_
          refine lv_iconst (v := (1 : Int32)) hx hb dX9_freshen_110 (by decide) ?_
          refine lv_isub hx hb dX9_freshen_111 ?_
          refine lv_icmp_ne (tgt := 148) hx hb dX9_freshen_112 (by decide) (fun c5 => ?_) (fun c5 => ?_)
          · have h := h.1 c5
            refine lv_iconst (v := (0 : Int32)) hx hb dX9_freshen_148 (by decide) ?_
            refine lv_iadd hx hb dX9_freshen_149 ?_
            refine gPut (D := D) (ci := 9) (ty := .int) (C := RX9) (T := TX9) (N := 44) hx hb hts (fun _ h9 => List.mem_cons_of_mem _ (List.mem_append_right _ h9)) tyX9 tyX9_ok nmX9 hown hK hP (mD hq) hS 0 mAt0 rfl 27 (by decide) (hts _ (List.mem_of_getElem? (l := wsX9_freshen) (i := 4) rfl)) (fun _ h9 => h9) rfl (by decide +kernel) rfl rfl (Nat.le_of_ble_eq_true rfl) dX9_freshen_150 (mSet8 ((I 8) + (0 : Int32))) (fun H locs hP hS => ?_)
            obtain ⟨I6, eI6⟩ : ∃ z : Nat → Int32, z = upd I 8 ((I 8) + (0 : Int32)) := ⟨_, rfl⟩
            rw [← eI6] at hP
            have h := h I6 eI6
            refine lv_aload_n hx hb dX9_freshen_153 rfl (lv_at hl 1 rfl) ?_
            refine lv_dup hx hb dX9_freshen_154 rfl ?_
            refine va_get (D := D) (ci := 9) (v := .int (I6 8)) (C := RX9) (T := TX9) (N := 44) hx hb hts (fun _ h9 => List.mem_cons_of_mem _ (List.mem_append_right _ h9)) hown hK hP 0 mAt0 rfl 27 (by decide) (hts _ (List.mem_of_getElem? (l := wsX9_freshen) (i := 4) rfl)) (fun _ h9 => h9) rfl dX9_freshen_155 ?_
            refine lv_ldc (v := (1000003 : Int32)) hx hb hown (hts _ (List.mem_of_getElem? (l := wsX9_freshen) (i := 11) rfl)) dX9_freshen_158 ?_
            refine lv_irem hx hb dX9_freshen_160 (by decide) ?_
            refine gPut (D := D) (ci := 9) (ty := .int) (C := RX9) (T := TX9) (N := 44) hx hb hts (fun _ h9 => List.mem_cons_of_mem _ (List.mem_append_right _ h9)) tyX9 tyX9_ok nmX9 hown hK hP (mD hq) hS 0 mAt0 rfl 27 (by decide) (hts _ (List.mem_of_getElem? (l := wsX9_freshen) (i := 4) rfl)) (fun _ h9 => h9) rfl (by decide +kernel) rfl rfl (Nat.le_of_ble_eq_true rfl) dX9_freshen_161 (mSet8 ((I6 8) - (I6 8) / (1000003 : Int32) * (1000003 : Int32))) (fun H locs hP hS => ?_)
            obtain ⟨I7, eI7⟩ : ∃ z : Nat → Int32, z = upd I6 8 ((I6 8) - (I6 8) / (1000003 : Int32) * (1000003 : Int32)) := ⟨_, rfl⟩
            rw [← eI7] at hP
            have h := h I7 eI7
            refine lv_iinc (v := (x2 + (1 : Int32))) (lv' := [(2, .int (x2 + (1 : Int32))), (3, .int v2), (0, .ref (q 0)), (1, .int x1)]) hx hb dX9_freshen_164 hl (k := 3) rfl rfl (by decide) rfl (fun ls hl => ?_)
            refine lv_goto (tgt := 60) hx hb dX9_freshen_167 (by decide) ?_
            exact ih x1 _ (x2 + (1 : Int32)) I7 F4 hs _ _ _  hP hS (lv_sub hl [2, 3, 0] rfl) h K
          · have h := h.2 c5
            refine lv_aload_n hx hb dX9_freshen_115 rfl (lv_at hl 1 rfl) ?_
            refine va_get (D := D) (ci := 9) (v := .ref (q 18)) (C := RX9) (T := TX9) (N := 44) hx hb hts (fun _ h9 => List.mem_cons_of_mem _ (List.mem_append_right _ h9)) hown hK hP 0 mAt0 rfl 24 (by decide) (hts _ (List.mem_of_getElem? (l := wsX9_freshen) (i := 8) rfl)) (fun _ h9 => h9) rfl dX9_freshen_116 ?_
            refine lv_iload_n hx hb dX9_freshen_119 rfl (lv_at hl 0 rfl) ?_
            refine va_iald (D := D) hx hb hK hP 18 0 mAr18 rfl h.1 dX9_freshen_120 ?_
            have h := h.2
            refine lv_ldc (v := (99999 : Int32)) hx hb hown (hts _ (List.mem_of_getElem? (l := wsX9_freshen) (i := 9) rfl)) dX9_freshen_121 ?_
            refine lv_icmp_ge (tgt := 148) hx hb dX9_freshen_123 (by decide) (fun c8 => ?_) (fun c8 => ?_)
            · have h := h.1 c8
              refine lv_iconst (v := (0 : Int32)) hx hb dX9_freshen_148 (by decide) ?_
              refine lv_iadd hx hb dX9_freshen_149 ?_
              refine gPut (D := D) (ci := 9) (ty := .int) (C := RX9) (T := TX9) (N := 44) hx hb hts (fun _ h9 => List.mem_cons_of_mem _ (List.mem_append_right _ h9)) tyX9 tyX9_ok nmX9 hown hK hP (mD hq) hS 0 mAt0 rfl 27 (by decide) (hts _ (List.mem_of_getElem? (l := wsX9_freshen) (i := 4) rfl)) (fun _ h9 => h9) rfl (by decide +kernel) rfl rfl (Nat.le_of_ble_eq_true rfl) dX9_freshen_150 (mSet8 ((I 8) + (0 : Int32))) (fun H locs hP hS => ?_)
              obtain ⟨I9, eI9⟩ : ∃ z : Nat → Int32, z = upd I 8 ((I 8) + (0 : Int32)) := ⟨_, rfl⟩
              rw [← eI9] at hP
              have h := h I9 eI9
              refine lv_aload_n hx hb dX9_freshen_153 rfl (lv_at hl 1 rfl) ?_
              refine lv_dup hx hb dX9_freshen_154 rfl ?_
              refine va_get (D := D) (ci := 9) (v := .int (I9 8)) (C := RX9) (T := TX9) (N := 44) hx hb hts (fun _ h9 => List.mem_cons_of_mem _ (List.mem_append_right _ h9)) hown hK hP 0 mAt0 rfl 27 (by decide) (hts _ (List.mem_of_getElem? (l := wsX9_freshen) (i := 4) rfl)) (fun _ h9 => h9) rfl dX9_freshen_155 ?_
              refine lv_ldc (v := (1000003 : Int32)) hx hb hown (hts _ (List.mem_of_getElem? (l := wsX9_freshen) (i := 11) rfl)) dX9_freshen_158 ?_
              refine lv_irem hx hb dX9_freshen_160 (by decide) ?_
              refine gPut (D := D) (ci := 9) (ty := .int) (C := RX9) (T := TX9) (N := 44) hx hb hts (fun _ h9 => List.mem_cons_of_mem _ (List.mem_append_right _ h9)) tyX9 tyX9_ok nmX9 hown hK hP (mD hq) hS 0 mAt0 rfl 27 (by decide) (hts _ (List.mem_of_getElem? (l := wsX9_freshen) (i := 4) rfl)) (fun _ h9 => h9) rfl (by decide +kernel) rfl rfl (Nat.le_of_ble_eq_true rfl) dX9_freshen_161 (mSet8 ((I9 8) - (I9 8) / (1000003 : Int32) * (1000003 : Int32))) (fun H locs hP hS => ?_)
              obtain ⟨I10, eI10⟩ : ∃ z : Nat → Int32, z = upd I9 8 ((I9 8) - (I9 8) / (1000003 : Int32) * (1000003 : Int32)) := ⟨_, rfl⟩
              rw [← eI10] at hP
              have h := h I10 eI10
              refine lv_iinc (v := (x2 + (1 : Int32))) (lv' := [(2, .int (x2 + (1 : Int32))), (3, .int v2), (0, .ref (q 0)), (1, .int x1)]) hx hb dX9_freshen_164 hl (k := 3) rfl rfl (by decide) rfl (fun ls hl => ?_)
              refine lv_goto (tgt := 60) hx hb dX9_freshen_167 (by decide) ?_
              exact ih x1 _ (x2 + (1 : Int32)) I10 F4 hs _ _ _  hP hS (lv_sub hl [2, 3, 0] rfl) h K
            · have h := h.2 c8
              refine lv_aload_n hx hb dX9_freshen_126 rfl (lv_at hl 1 rfl) ?_
              refine va_get (D := D) (ci := 9) (v := .ref (q 18)) (C := RX9) (T := TX9) (N := 44) hx hb hts (fun _ h9 => List.mem_cons_of_mem _ (List.mem_append_right _ h9)) hown hK hP 0 mAt0 rfl 24 (by decide) (hts _ (List.mem_of_getElem? (l := wsX9_freshen) (i := 8) rfl)) (fun _ h9 => h9) rfl dX9_freshen_127 ?_
              refine lv_iload_n hx hb dX9_freshen_130 rfl (lv_at hl 0 rfl) ?_
              refine va_iald (D := D) hx hb hK hP 18 0 mAr18 rfl h.1 dX9_freshen_131 ?_
              have h := h.2
              refine lv_aload_n hx hb dX9_freshen_132 rfl (lv_at hl 1 rfl) ?_
              refine va_get (D := D) (ci := 9) (v := .int (I 7)) (C := RX9) (T := TX9) (N := 44) hx hb hts (fun _ h9 => List.mem_cons_of_mem _ (List.mem_append_right _ h9)) hown hK hP 0 mAt0 rfl 26 (by decide) (hts _ (List.mem_of_getElem? (l := wsX9_freshen) (i := 3) rfl)) (fun _ h9 => h9) rfl dX9_freshen_133 ?_
              refine lv_icmp_ne (tgt := 148) hx hb dX9_freshen_136 (by decide) (fun c11 => ?_) (fun c11 => ?_)
              · have h := h.1 c11
                refine lv_iconst (v := (0 : Int32)) hx hb dX9_freshen_148 (by decide) ?_
                refine lv_iadd hx hb dX9_freshen_149 ?_
                refine gPut (D := D) (ci := 9) (ty := .int) (C := RX9) (T := TX9) (N := 44) hx hb hts (fun _ h9 => List.mem_cons_of_mem _ (List.mem_append_right _ h9)) tyX9 tyX9_ok nmX9 hown hK hP (mD hq) hS 0 mAt0 rfl 27 (by decide) (hts _ (List.mem_of_getElem? (l := wsX9_freshen) (i := 4) rfl)) (fun _ h9 => h9) rfl (by decide +kernel) rfl rfl (Nat.le_of_ble_eq_true rfl) dX9_freshen_150 (mSet8 ((I 8) + (0 : Int32))) (fun H locs hP hS => ?_)
                obtain ⟨I12, eI12⟩ : ∃ z : Nat → Int32, z = upd I 8 ((I 8) + (0 : Int32)) := ⟨_, rfl⟩
                rw [← eI12] at hP
                have h := h I12 eI12
                refine lv_aload_n hx hb dX9_freshen_153 rfl (lv_at hl 1 rfl) ?_
                refine lv_dup hx hb dX9_freshen_154 rfl ?_
                refine va_get (D := D) (ci := 9) (v := .int (I12 8)) (C := RX9) (T := TX9) (N := 44) hx hb hts (fun _ h9 => List.mem_cons_of_mem _ (List.mem_append_right _ h9)) hown hK hP 0 mAt0 rfl 27 (by decide) (hts _ (List.mem_of_getElem? (l := wsX9_freshen) (i := 4) rfl)) (fun _ h9 => h9) rfl dX9_freshen_155 ?_
                refine lv_ldc (v := (1000003 : Int32)) hx hb hown (hts _ (List.mem_of_getElem? (l := wsX9_freshen) (i := 11) rfl)) dX9_freshen_158 ?_
                refine lv_irem hx hb dX9_freshen_160 (by decide) ?_
                refine gPut (D := D) (ci := 9) (ty := .int) (C := RX9) (T := TX9) (N := 44) hx hb hts (fun _ h9 => List.mem_cons_of_mem _ (List.mem_append_right _ h9)) tyX9 tyX9_ok nmX9 hown hK hP (mD hq) hS 0 mAt0 rfl 27 (by decide) (hts _ (List.mem_of_getElem? (l := wsX9_freshen) (i := 4) rfl)) (fun _ h9 => h9) rfl (by decide +kernel) rfl rfl (Nat.le_of_ble_eq_true rfl) dX9_freshen_161 (mSet8 ((I12 8) - (I12 8) / (1000003 : Int32) * (1000003 : Int32))) (fun H locs hP hS => ?_)
                obtain ⟨I13, eI13⟩ : ∃ z : Nat → Int32, z = upd I12 8 ((I12 8) - (I12 8) / (1000003 : Int32) * (1000003 : Int32)) := ⟨_, rfl⟩
                rw [← eI13] at hP
                have h := h I13 eI13
                refine lv_iinc (v := (x2 + (1 : Int32))) (lv' := [(2, .int (x2 + (1 : Int32))), (3, .int v2), (0, .ref (q 0)), (1, .int x1)]) hx hb dX9_freshen_164 hl (k := 3) rfl rfl (by decide) rfl (fun ls hl => ?_)
                refine lv_goto (tgt := 60) hx hb dX9_freshen_167 (by decide) ?_
                exact ih x1 _ (x2 + (1 : Int32)) I13 F4 hs _ _ _  hP hS (lv_sub hl [2, 3, 0] rfl) h K
              · have h := h.2 c11
                refine lv_aload_n hx hb dX9_freshen_139 rfl (lv_at hl 1 rfl) ?_
                refine va_get (D := D) (ci := 9) (v := .ref (q 19)) (C := RX9) (T := TX9) (N := 44) hx hb hts (fun _ h9 => List.mem_cons_of_mem _ (List.mem_append_right _ h9)) hown hK hP 0 mAt0 rfl 25 (by decide) (hts _ (List.mem_of_getElem? (l := wsX9_freshen) (i := 10) rfl)) (fun _ h9 => h9) rfl dX9_freshen_140 ?_
                refine lv_iload_n hx hb dX9_freshen_143 rfl (lv_at hl 0 rfl) ?_
                refine va_iald (D := D) hx hb hK hP 19 0 mAr19 rfl h.1 dX9_freshen_144 ?_
                have h := h.2
                refine lv_goto (tgt := 149) hx hb dX9_freshen_145 (by decide) ?_
                refine lv_iadd hx hb dX9_freshen_149 ?_
                refine gPut (D := D) (ci := 9) (ty := .int) (C := RX9) (T := TX9) (N := 44) hx hb hts (fun _ h9 => List.mem_cons_of_mem _ (List.mem_append_right _ h9)) tyX9 tyX9_ok nmX9 hown hK hP (mD hq) hS 0 mAt0 rfl 27 (by decide) (hts _ (List.mem_of_getElem? (l := wsX9_freshen) (i := 4) rfl)) (fun _ h9 => h9) rfl (by decide +kernel) rfl rfl (Nat.le_of_ble_eq_true rfl) dX9_freshen_150 (mSet8 ((I 8) + (F4 19 (v2).toNatClampNeg))) (fun H locs hP hS => ?_)
                obtain ⟨I14, eI14⟩ : ∃ z : Nat → Int32, z = upd I 8 ((I 8) + (F4 19 (v2).toNatClampNeg)) := ⟨_, rfl⟩
                rw [← eI14] at hP
                have h := h I14 eI14
                refine lv_aload_n hx hb dX9_freshen_153 rfl (lv_at hl 1 rfl) ?_
                refine lv_dup hx hb dX9_freshen_154 rfl ?_
                refine va_get (D := D) (ci := 9) (v := .int (I14 8)) (C := RX9) (T := TX9) (N := 44) hx hb hts (fun _ h9 => List.mem_cons_of_mem _ (List.mem_append_right _ h9)) hown hK hP 0 mAt0 rfl 27 (by decide) (hts _ (List.mem_of_getElem? (l := wsX9_freshen) (i := 4) rfl)) (fun _ h9 => h9) rfl dX9_freshen_155 ?_
                refine lv_ldc (v := (1000003 : Int32)) hx hb hown (hts _ (List.mem_of_getElem? (l := wsX9_freshen) (i := 11) rfl)) dX9_freshen_158 ?_
                refine lv_irem hx hb dX9_freshen_160 (by decide) ?_
                refine gPut (D := D) (ci := 9) (ty := .int) (C := RX9) (T := TX9) (N := 44) hx hb hts (fun _ h9 => List.mem_cons_of_mem _ (List.mem_append_right _ h9)) tyX9 tyX9_ok nmX9 hown hK hP (mD hq) hS 0 mAt0 rfl 27 (by decide) (hts _ (List.mem_of_getElem? (l := wsX9_freshen) (i := 4) rfl)) (fun _ h9 => h9) rfl (by decide +kernel) rfl rfl (Nat.le_of_ble_eq_true rfl) dX9_freshen_161 (mSet8 ((I14 8) - (I14 8) / (1000003 : Int32) * (1000003 : Int32))) (fun H locs hP hS => ?_)
                obtain ⟨I15, eI15⟩ : ∃ z : Nat → Int32, z = upd I14 8 ((I14 8) - (I14 8) / (1000003 : Int32) * (1000003 : Int32)) := ⟨_, rfl⟩
                rw [← eI15] at hP
                have h := h I15 eI15
                refine lv_iinc (v := (x2 + (1 : Int32))) (lv' := [(2, .int (x2 + (1 : Int32))), (3, .int v2), (0, .ref (q 0)), (1, .int x1)]) hx hb dX9_freshen_164 hl (k := 3) rfl rfl (by decide) rfl (fun ls hl => ?_)
                refine lv_goto (tgt := 60) hx hb dX9_freshen_167 (by decide) ?_
                exact ih x1 _ (x2 + (1 : Int32)) I15 F4 hs _ _ _  hP hS (lv_sub hl [2, 3, 0] rfl) h K
        · have h := h.2 c3
          refine lv_iconst (v := (1 : Int32)) hx hb dX9_freshen_93 (by decide) ?_
          refine lv_goto (tgt := 98) hx hb dX9_freshen_94 (by decide) ?_
          refine lv_iadd hx hb dX9_freshen_98 ?_
          refine gAst (D := D) hx hb hK hP (mD hq) hS 21 0 mAr21 rfl h.1 dX9_freshen_99 (mSA21 _) (fun H locs hP hS => ?_)
          obtain ⟨F16, eF16⟩ : ∃ z : Nat → Nat → Int32, z = upF F 21 (upd (F 21) (x1).toNatClampNeg ((F 21 (x1).toNatClampNeg) + (1 : Int32))) := ⟨_, rfl⟩
          rw [← eF16] at hP
          have h := h.2 F16 eF16
          refine lv_aload_n hx hb dX9_freshen_100 rfl (lv_at hl 1 rfl) ?_
          refine lv_dup hx hb dX9_freshen_101 rfl ?_
          refine va_get (D := D) (ci := 9) (v := .int (I 8)) (C := RX9) (T := TX9) (N := 44) hx hb hts (fun _ h9 => List.mem_cons_of_mem _ (List.mem_append_right _ h9)) hown hK hP 0 mAt0 rfl 27 (by decide) (hts _ (List.mem_of_getElem? (l := wsX9_freshen) (i := 4) rfl)) (fun _ h9 => h9) rfl dX9_freshen_102 ?_
          refine lv_iload_n hx hb dX9_freshen_105 rfl (lv_at hl 2 rfl) ?_
          refine lv_aload_n hx hb dX9_freshen_106 rfl (lv_at hl 1 rfl) ?_
          refine va_get (D := D) (ci := 9) (v := .int (I 3)) (C := RX9) (T := TX9) (N := 44) hx hb hts (fun _ h9 => List.mem_cons_of_mem _ (List.mem_append_right _ h9)) hown hK hP 0 mAt0 rfl 16 (by decide) (hts _ (List.mem_of_getElem? (l := wsX9_freshen) (i := 6) rfl)) (fun _ h9 => h9) rfl dX9_freshen_107 ?_
          refine lv_iconst (v := (1 : Int32)) hx hb dX9_freshen_110 (by decide) ?_
          refine lv_isub hx hb dX9_freshen_111 ?_
          refine lv_icmp_ne (tgt := 148) hx hb dX9_freshen_112 (by decide) (fun c17 => ?_) (fun c17 => ?_)
          · have h := h.1 c17
            refine lv_iconst (v := (0 : Int32)) hx hb dX9_freshen_148 (by decide) ?_
            refine lv_iadd hx hb dX9_freshen_149 ?_
            refine gPut (D := D) (ci := 9) (ty := .int) (C := RX9) (T := TX9) (N := 44) hx hb hts (fun _ h9 => List.mem_cons_of_mem _ (List.mem_append_right _ h9)) tyX9 tyX9_ok nmX9 hown hK hP (mD hq) hS 0 mAt0 rfl 27 (by decide) (hts _ (List.mem_of_getElem? (l := wsX9_freshen) (i := 4) rfl)) (fun _ h9 => h9) rfl (by decide +kernel) rfl rfl (Nat.le_of_ble_eq_true rfl) dX9_freshen_150 (mSet8 ((I 8) + (0 : Int32))) (fun H locs hP hS => ?_)
            obtain ⟨I18, eI18⟩ : ∃ z : Nat → Int32, z = upd I 8 ((I 8) + (0 : Int32)) := ⟨_, rfl⟩
            rw [← eI18] at hP
            have h := h I18 eI18
            refine lv_aload_n hx hb dX9_freshen_153 rfl (lv_at hl 1 rfl) ?_
            refine lv_dup hx hb dX9_freshen_154 rfl ?_
            refine va_get (D := D) (ci := 9) (v := .int (I18 8)) (C := RX9) (T := TX9) (N := 44) hx hb hts (fun _ h9 => List.mem_cons_of_mem _ (List.mem_append_right _ h9)) hown hK hP 0 mAt0 rfl 27 (by decide) (hts _ (List.mem_of_getElem? (l := wsX9_freshen) (i := 4) rfl)) (fun _ h9 => h9) rfl dX9_freshen_155 ?_
            refine lv_ldc (v := (1000003 : Int32)) hx hb hown (hts _ (List.mem_of_getElem? (l := wsX9_freshen) (i := 11) rfl)) dX9_freshen_158 ?_
            refine lv_irem hx hb dX9_freshen_160 (by decide) ?_
            refine gPut (D := D) (ci := 9) (ty := .int) (C := RX9) (T := TX9) (N := 44) hx hb hts (fun _ h9 => List.mem_cons_of_mem _ (List.mem_append_right _ h9)) tyX9 tyX9_ok nmX9 hown hK hP (mD hq) hS 0 mAt0 rfl 27 (by decide) (hts _ (List.mem_of_getElem? (l := wsX9_freshen) (i := 4) rfl)) (fun _ h9 => h9) rfl (by decide +kernel) rfl rfl (Nat.le_of_ble_eq_true rfl) dX9_freshen_161 (mSet8 ((I18 8) - (I18 8) / (1000003 : Int32) * (1000003 : Int32))) (fun H locs hP hS => ?_)
            obtain ⟨I19, eI19⟩ : ∃ z : Nat → Int32, z = upd I18 8 ((I18 8) - (I18 8) / (1000003 : Int32) * (1000003 : Int32)) := ⟨_, rfl⟩
            rw [← eI19] at hP
            have h := h I19 eI19
            refine lv_iinc (v := (x2 + (1 : Int32))) (lv' := [(2, .int (x2 + (1 : Int32))), (3, .int v2), (0, .ref (q 0)), (1, .int x1)]) hx hb dX9_freshen_164 hl (k := 3) rfl rfl (by decide) rfl (fun ls hl => ?_)
            refine lv_goto (tgt := 60) hx hb dX9_freshen_167 (by decide) ?_
            exact ih x1 _ (x2 + (1 : Int32)) I19 F16 hs _ _ _  hP hS (lv_sub hl [2, 3, 0] rfl) h K
          · have h := h.2 c17
            refine lv_aload_n hx hb dX9_freshen_115 rfl (lv_at hl 1 rfl) ?_
            refine va_get (D := D) (ci := 9) (v := .ref (q 18)) (C := RX9) (T := TX9) (N := 44) hx hb hts (fun _ h9 => List.mem_cons_of_mem _ (List.mem_append_right _ h9)) hown hK hP 0 mAt0 rfl 24 (by decide) (hts _ (List.mem_of_getElem? (l := wsX9_freshen) (i := 8) rfl)) (fun _ h9 => h9) rfl dX9_freshen_116 ?_
            refine lv_iload_n hx hb dX9_freshen_119 rfl (lv_at hl 0 rfl) ?_
            refine va_iald (D := D) hx hb hK hP 18 0 mAr18 rfl h.1 dX9_freshen_120 ?_
            have h := h.2
            refine lv_ldc (v := (99999 : Int32)) hx hb hown (hts _ (List.mem_of_getElem? (l := wsX9_freshen) (i := 9) rfl)) dX9_freshen_121 ?_
            refine lv_icmp_ge (tgt := 148) hx hb dX9_freshen_123 (by decide) (fun c20 => ?_) (fun c20 => ?_)
            · have h := h.1 c20
              refine lv_iconst (v := (0 : Int32)) hx hb dX9_freshen_148 (by decide) ?_
              refine lv_iadd hx hb dX9_freshen_149 ?_
              refine gPut (D := D) (ci := 9) (ty := .int) (C := RX9) (T := TX9) (N := 44) hx hb hts (fun _ h9 => List.mem_cons_of_mem _ (List.mem_append_right _ h9)) tyX9 tyX9_ok nmX9 hown hK hP (mD hq) hS 0 mAt0 rfl 27 (by decide) (hts _ (List.mem_of_getElem? (l := wsX9_freshen) (i := 4) rfl)) (fun _ h9 => h9) rfl (by decide +kernel) rfl rfl (Nat.le_of_ble_eq_true rfl) dX9_freshen_150 (mSet8 ((I 8) + (0 : Int32))) (fun H locs hP hS => ?_)
              obtain ⟨I21, eI21⟩ : ∃ z : Nat → Int32, z = upd I 8 ((I 8) + (0 : Int32)) := ⟨_, rfl⟩
              rw [← eI21] at hP
              have h := h I21 eI21
              refine lv_aload_n hx hb dX9_freshen_153 rfl (lv_at hl 1 rfl) ?_
              refine lv_dup hx hb dX9_freshen_154 rfl ?_
              refine va_get (D := D) (ci := 9) (v := .int (I21 8)) (C := RX9) (T := TX9) (N := 44) hx hb hts (fun _ h9 => List.mem_cons_of_mem _ (List.mem_append_right _ h9)) hown hK hP 0 mAt0 rfl 27 (by decide) (hts _ (List.mem_of_getElem? (l := wsX9_freshen) (i := 4) rfl)) (fun _ h9 => h9) rfl dX9_freshen_155 ?_
              refine lv_ldc (v := (1000003 : Int32)) hx hb hown (hts _ (List.mem_of_getElem? (l := wsX9_freshen) (i := 11) rfl)) dX9_freshen_158 ?_
              refine lv_irem hx hb dX9_freshen_160 (by decide) ?_
              refine gPut (D := D) (ci := 9) (ty := .int) (C := RX9) (T := TX9) (N := 44) hx hb hts (fun _ h9 => List.mem_cons_of_mem _ (List.mem_append_right _ h9)) tyX9 tyX9_ok nmX9 hown hK hP (mD hq) hS 0 mAt0 rfl 27 (by decide) (hts _ (List.mem_of_getElem? (l := wsX9_freshen) (i := 4) rfl)) (fun _ h9 => h9) rfl (by decide +kernel) rfl rfl (Nat.le_of_ble_eq_true rfl) dX9_freshen_161 (mSet8 ((I21 8) - (I21 8) / (1000003 : Int32) * (1000003 : Int32))) (fun H locs hP hS => ?_)
              obtain ⟨I22, eI22⟩ : ∃ z : Nat → Int32, z = upd I21 8 ((I21 8) - (I21 8) / (1000003 : Int32) * (1000003 : Int32)) := ⟨_, rfl⟩
              rw [← eI22] at hP
              have h := h I22 eI22
              refine lv_iinc (v := (x2 + (1 : Int32))) (lv' := [(2, .int (x2 + (1 : Int32))), (3, .int v2), (0, .ref (q 0)), (1, .int x1)]) hx hb dX9_freshen_164 hl (k := 3) rfl rfl (by decide) rfl (fun ls hl => ?_)
              refine lv_goto (tgt := 60) hx hb dX9_freshen_167 (by decide) ?_
              exact ih x1 _ (x2 + (1 : Int32)) I22 F16 hs _ _ _  hP hS (lv_sub hl [2, 3, 0] rfl) h K
            · have h := h.2 c20
              refine lv_aload_n hx hb dX9_freshen_126 rfl (lv_at hl 1 rfl) ?_
              refine va_get (D := D) (ci := 9) (v := .ref (q 18)) (C := RX9) (T := TX9) (N := 44) hx hb hts (fun _ h9 => List.mem_cons_of_mem _ (List.mem_append_right _ h9)) hown hK hP 0 mAt0 rfl 24 (by decide) (hts _ (List.mem_of_getElem? (l := wsX9_freshen) (i := 8) rfl)) (fun _ h9 => h9) rfl dX9_freshen_127 ?_
              refine lv_iload_n hx hb dX9_freshen_130 rfl (lv_at hl 0 rfl) ?_
              refine va_iald (D := D) hx hb hK hP 18 0 mAr18 rfl h.1 dX9_freshen_131 ?_
              have h := h.2
              refine lv_aload_n hx hb dX9_freshen_132 rfl (lv_at hl 1 rfl) ?_
              refine va_get (D := D) (ci := 9) (v := .int (I 7)) (C := RX9) (T := TX9) (N := 44) hx hb hts (fun _ h9 => List.mem_cons_of_mem _ (List.mem_append_right _ h9)) hown hK hP 0 mAt0 rfl 26 (by decide) (hts _ (List.mem_of_getElem? (l := wsX9_freshen) (i := 3) rfl)) (fun _ h9 => h9) rfl dX9_freshen_133 ?_
              refine lv_icmp_ne (tgt := 148) hx hb dX9_freshen_136 (by decide) (fun c23 => ?_) (fun c23 => ?_)
              · have h := h.1 c23
                refine lv_iconst (v := (0 : Int32)) hx hb dX9_freshen_148 (by decide) ?_
                refine lv_iadd hx hb dX9_freshen_149 ?_
                refine gPut (D := D) (ci := 9) (ty := .int) (C := RX9) (T := TX9) (N := 44) hx hb hts (fun _ h9 => List.mem_cons_of_mem _ (List.mem_append_right _ h9)) tyX9 tyX9_ok nmX9 hown hK hP (mD hq) hS 0 mAt0 rfl 27 (by decide) (hts _ (List.mem_of_getElem? (l := wsX9_freshen) (i := 4) rfl)) (fun _ h9 => h9) rfl (by decide +kernel) rfl rfl (Nat.le_of_ble_eq_true rfl) dX9_freshen_150 (mSet8 ((I 8) + (0 : Int32))) (fun H locs hP hS => ?_)
                obtain ⟨I24, eI24⟩ : ∃ z : Nat → Int32, z = upd I 8 ((I 8) + (0 : Int32)) := ⟨_, rfl⟩
                rw [← eI24] at hP
                have h := h I24 eI24
                refine lv_aload_n hx hb dX9_freshen_153 rfl (lv_at hl 1 rfl) ?_
                refine lv_dup hx hb dX9_freshen_154 rfl ?_
                refine va_get (D := D) (ci := 9) (v := .int (I24 8)) (C := RX9) (T := TX9) (N := 44) hx hb hts (fun _ h9 => List.mem_cons_of_mem _ (List.mem_append_right _ h9)) hown hK hP 0 mAt0 rfl 27 (by decide) (hts _ (List.mem_of_getElem? (l := wsX9_freshen) (i := 4) rfl)) (fun _ h9 => h9) rfl dX9_freshen_155 ?_
                refine lv_ldc (v := (1000003 : Int32)) hx hb hown (hts _ (List.mem_of_getElem? (l := wsX9_freshen) (i := 11) rfl)) dX9_freshen_158 ?_
                refine lv_irem hx hb dX9_freshen_160 (by decide) ?_
                refine gPut (D := D) (ci := 9) (ty := .int) (C := RX9) (T := TX9) (N := 44) hx hb hts (fun _ h9 => List.mem_cons_of_mem _ (List.mem_append_right _ h9)) tyX9 tyX9_ok nmX9 hown hK hP (mD hq) hS 0 mAt0 rfl 27 (by decide) (hts _ (List.mem_of_getElem? (l := wsX9_freshen) (i := 4) rfl)) (fun _ h9 => h9) rfl (by decide +kernel) rfl rfl (Nat.le_of_ble_eq_true rfl) dX9_freshen_161 (mSet8 ((I24 8) - (I24 8) / (1000003 : Int32) * (1000003 : Int32))) (fun H locs hP hS => ?_)
                obtain ⟨I25, eI25⟩ : ∃ z : Nat → Int32, z = upd I24 8 ((I24 8) - (I24 8) / (1000003 : Int32) * (1000003 : Int32)) := ⟨_, rfl⟩
                rw [← eI25] at hP
                have h := h I25 eI25
                refine lv_iinc (v := (x2 + (1 : Int32))) (lv' := [(2, .int (x2 + (1 : Int32))), (3, .int v2), (0, .ref (q 0)), (1, .int x1)]) hx hb dX9_freshen_164 hl (k := 3) rfl rfl (by decide) rfl (fun ls hl => ?_)
                refine lv_goto (tgt := 60) hx hb dX9_freshen_167 (by decide) ?_
                exact ih x1 _ (x2 + (1 : Int32)) I25 F16 hs _ _ _  hP hS (lv_sub hl [2, 3, 0] rfl) h K
              · have h := h.2 c23
                refine lv_aload_n hx hb dX9_freshen_139 rfl (lv_at hl 1 rfl) ?_
                refine va_get (D := D) (ci := 9) (v := .ref (q 19)) (C := RX9) (T := TX9) (N := 44) hx hb hts (fun _ h9 => List.mem_cons_of_mem _ (List.mem_append_right _ h9)) hown hK hP 0 mAt0 rfl 25 (by decide) (hts _ (List.mem_of_getElem? (l := wsX9_freshen) (i := 10) rfl)) (fun _ h9 => h9) rfl dX9_freshen_140 ?_
                refine lv_iload_n hx hb dX9_freshen_143 rfl (lv_at hl 0 rfl) ?_
                refine va_iald (D := D) hx hb hK hP 19 0 mAr19 rfl h.1 dX9_freshen_144 ?_
                have h := h.2
                refine lv_goto (tgt := 149) hx hb dX9_freshen_145 (by decide) ?_
                refine lv_iadd hx hb dX9_freshen_149 ?_
                refine gPut (D := D) (ci := 9) (ty := .int) (C := RX9) (T := TX9) (N := 44) hx hb hts (fun _ h9 => List.mem_cons_of_mem _ (List.mem_append_right _ h9)) tyX9 tyX9_ok nmX9 hown hK hP (mD hq) hS 0 mAt0 rfl 27 (by decide) (hts _ (List.mem_of_getElem? (l := wsX9_freshen) (i := 4) rfl)) (fun _ h9 => h9) rfl (by decide +kernel) rfl rfl (Nat.le_of_ble_eq_true rfl) dX9_freshen_150 (mSet8 ((I 8) + (F16 19 (v2).toNatClampNeg))) (fun H locs hP hS => ?_)
                obtain ⟨I26, eI26⟩ : ∃ z : Nat → Int32, z = upd I 8 ((I 8) + (F16 19 (v2).toNatClampNeg)) := ⟨_, rfl⟩
                rw [← eI26] at hP
                have h := h I26 eI26
                refine lv_aload_n hx hb dX9_freshen_153 rfl (lv_at hl 1 rfl) ?_
                refine lv_dup hx hb dX9_freshen_154 rfl ?_
                refine va_get (D := D) (ci := 9) (v := .int (I26 8)) (C := RX9) (T := TX9) (N := 44) hx hb hts (fun _ h9 => List.mem_cons_of_mem _ (List.mem_append_right _ h9)) hown hK hP 0 mAt0 rfl 27 (by decide) (hts _ (List.mem_of_getElem? (l := wsX9_freshen) (i := 4) rfl)) (fun _ h9 => h9) rfl dX9_freshen_155 ?_
                refine lv_ldc (v := (1000003 : Int32)) hx hb hown (hts _ (List.mem_of_getElem? (l := wsX9_freshen) (i := 11) rfl)) dX9_freshen_158 ?_
                refine lv_irem hx hb dX9_freshen_160 (by decide) ?_
                refine gPut (D := D) (ci := 9) (ty := .int) (C := RX9) (T := TX9) (N := 44) hx hb hts (fun _ h9 => List.mem_cons_of_mem _ (List.mem_append_right _ h9)) tyX9 tyX9_ok nmX9 hown hK hP (mD hq) hS 0 mAt0 rfl 27 (by decide) (hts _ (List.mem_of_getElem? (l := wsX9_freshen) (i := 4) rfl)) (fun _ h9 => h9) rfl (by decide +kernel) rfl rfl (Nat.le_of_ble_eq_true rfl) dX9_freshen_161 (mSet8 ((I26 8) - (I26 8) / (1000003 : Int32) * (1000003 : Int32))) (fun H locs hP hS => ?_)
                obtain ⟨I27, eI27⟩ : ∃ z : Nat → Int32, z = upd I26 8 ((I26 8) - (I26 8) / (1000003 : Int32) * (1000003 : Int32)) := ⟨_, rfl⟩
                rw [← eI27] at hP
                have h := h I27 eI27
                refine lv_iinc (v := (x2 + (1 : Int32))) (lv' := [(2, .int (x2 + (1 : Int32))), (3, .int v2), (0, .ref (q 0)), (1, .int x1)]) hx hb dX9_freshen_164 hl (k := 3) rfl rfl (by decide) rfl (fun ls hl => ?_)
                refine lv_goto (tgt := 60) hx hb dX9_freshen_167 (by decide) ?_
                exact ih x1 _ (x2 + (1 : Int32)) I27 F16 hs _ _ _  hP hS (lv_sub hl [2, 3, 0] rfl) h K
  have L43 : ∀ (n : Nat)  (k : Int32 → (Nat → Int32) → (Nat → Nat → Int32) → Int64 → Prop) (x1 : Int32) (I : Nat → Int32) (F : Nat → Nat → Int32) (hs : Int64) (H : Heap) (locs : List Loc) (ls : Array Slot), va_P D vwCl (mW q cI cO I F hs) H → va_S (mA q) s.heap H locs → lv_has ls 4 [(0, .ref (q 0)), (1, .int x1)] → gLN (fun ag v => w_X9_freshen_B43  k (fun b0 b1 b2 b3 => ag (b0, b1, b2, b3)) v.1 v.2.1 v.2.2.1 v.2.2.2) n (x1, I, F, hs) → (∀ (x1 : Int32) (I : Nat → Int32) (F : Nat → Nat → Int32) (hs : Int64) (H : Heap) (locs : List Loc) (ls : Array Slot), va_P D vwCl (mW q cI cO I F hs) H → va_S (mA q) s.heap H locs → lv_has ls 4 [(0, .ref (q 0))] → k x1 I F hs → W p l e R s m args below meth c H locs 0 0 Q (F0 m 205 ls [])) → W p l e R s m args below meth c H locs 0 0 Q (F0 m 43 ls []) := by
    intro n
    induction n with
    | zero =>
      intro  k x1 I F hs H locs ls  hP hS hl h K
      exact False.elim h
    | succ n ih =>
      intro  k x1 I F hs H locs ls  hP hS hl h K
      have h : w_X9_freshen_B43  k (fun b0 b1 b2 b3 => gLN (fun ag v => w_X9_freshen_B43  k (fun b0 b1 b2 b3 => ag (b0, b1, b2, b3)) v.1 v.2.1 v.2.2.1 v.2.2.2) n (b0, b1, b2, b3)) x1 I F hs := h
      refine lv_iload_n hx hb dX9_freshen_43 rfl (lv_at hl 1 rfl) ?_
      refine lv_aload_n hx hb dX9_freshen_44 rfl (lv_at hl 0 rfl) ?_
      refine va_get (D := D) (ci := 9) (v := .int (I 3)) (C := RX9) (T := TX9) (N := 44) hx hb hts (fun _ h9 => List.mem_cons_of_mem _ (List.mem_append_right _ h9)) hown hK hP 0 mAt0 rfl 16 (by decide) (hts _ (List.mem_of_getElem? (l := wsX9_freshen) (i := 6) rfl)) (fun _ h9 => h9) rfl dX9_freshen_45 ?_
      refine lv_icmp_ge (tgt := 205) hx hb dX9_freshen_48 (by decide) (fun c28 => ?_) (fun c28 => ?_)
      · have h := h.1 c28
        exact K x1 I F hs _ _ _  hP hS (lv_sub hl [0] rfl) h
      · have h := h.2 c28
        refine lv_aload_n hx hb dX9_freshen_51 rfl (lv_at hl 0 rfl) ?_
        refine va_get (D := D) (ci := 9) (v := .ref (q 21)) (C := RX9) (T := TX9) (N := 44) hx hb hts (fun _ h9 => List.mem_cons_of_mem _ (List.mem_append_right _ h9)) hown hK hP 0 mAt0 rfl 30 (by decide) (hts _ (List.mem_of_getElem? (l := wsX9_freshen) (i := 7) rfl)) (fun _ h9 => h9) rfl dX9_freshen_52 ?_
        refine lv_iload_n hx hb dX9_freshen_55 rfl (lv_at hl 1 rfl) ?_
        refine lv_iconst (v := (0 : Int32)) hx hb dX9_freshen_56 (by decide) ?_
        refine gAst (D := D) hx hb hK hP (mD hq) hS 21 0 mAr21 rfl h.1 dX9_freshen_57 (mSA21 _) (fun H locs hP hS => ?_)
        obtain ⟨F29, eF29⟩ : ∃ z : Nat → Nat → Int32, z = upF F 21 (upd (F 21) (x1).toNatClampNeg (0 : Int32)) := ⟨_, rfl⟩
        rw [← eF29] at hP
        have h := h.2 F29 eF29
        refine lv_iconst (v := (0 : Int32)) hx hb dX9_freshen_58 (by decide) ?_
        refine lv_istore_n (lv' := [(2, .int (0 : Int32)), (0, .ref (q 0)), (1, .int x1)]) hx hb dX9_freshen_59 rfl hl (by decide) rfl (fun ls hl => ?_)
        obtain ⟨n, h⟩ := h
        refine L60 n x1 _ (0 : Int32) I F29 hs _ _ _  hP hS (lv_sub hl [1, 2, 0] rfl) h (fun y30 I31 F32 hs33 H locs ls  hP hS hl h => ?_)
        refine lv_aload_n hx hb dX9_freshen_170 rfl (lv_at hl 0 rfl) ?_
        refine lv_aload_n hx hb dX9_freshen_171 rfl (lv_at hl 0 rfl) ?_
        refine va_get (D := D) (ci := 9) (v := .int (I31 9)) (C := RX9) (T := TX9) (N := 44) hx hb hts (fun _ h9 => List.mem_cons_of_mem _ (List.mem_append_right _ h9)) hown hK hP 0 mAt0 rfl 28 (by decide) (hts _ (List.mem_of_getElem? (l := wsX9_freshen) (i := 5) rfl)) (fun _ h9 => h9) rfl dX9_freshen_172 ?_
        refine lv_iconst (v := (-1 : Int32)) hx hb dX9_freshen_175 (by decide) ?_
        refine lv_icmp_ne (tgt := 192) hx hb dX9_freshen_176 (by decide) (fun c34 => ?_) (fun c34 => ?_)
        · have h := h.1 c34
          refine lv_aload_n hx hb dX9_freshen_192 rfl (lv_at hl 0 rfl) ?_
          refine va_get (D := D) (ci := 9) (v := .int (I31 9)) (C := RX9) (T := TX9) (N := 44) hx hb hts (fun _ h9 => List.mem_cons_of_mem _ (List.mem_append_right _ h9)) hown hK hP 0 mAt0 rfl 28 (by decide) (hts _ (List.mem_of_getElem? (l := wsX9_freshen) (i := 5) rfl)) (fun _ h9 => h9) rfl dX9_freshen_193 ?_
          refine gPut (D := D) (ci := 9) (ty := .int) (C := RX9) (T := TX9) (N := 44) hx hb hts (fun _ h9 => List.mem_cons_of_mem _ (List.mem_append_right _ h9)) tyX9 tyX9_ok nmX9 hown hK hP (mD hq) hS 0 mAt0 rfl 28 (by decide) (hts _ (List.mem_of_getElem? (l := wsX9_freshen) (i := 5) rfl)) (fun _ h9 => h9) rfl (by decide +kernel) rfl rfl (Nat.le_of_ble_eq_true rfl) dX9_freshen_196 (mSet9 (I31 9)) (fun H locs hP hS => ?_)
          obtain ⟨I35, eI35⟩ : ∃ z : Nat → Int32, z = upd I31 9 (I31 9) := ⟨_, rfl⟩
          rw [← eI35] at hP
          have h := h I35 eI35
          refine lv_iinc (v := (x1 + (1 : Int32))) (lv' := [(1, .int (x1 + (1 : Int32))), (0, .ref (q 0))]) hx hb dX9_freshen_199 hl (k := 1) rfl rfl (by decide) rfl (fun ls hl => ?_)
          refine lv_goto (tgt := 43) hx hb dX9_freshen_202 (by decide) ?_
          exact ih  _ (x1 + (1 : Int32)) I35 F32 hs33 _ _ _  hP hS (lv_sub hl [1, 0] rfl) h K
        · have h := h.2 c34
          refine lv_aload_n hx hb dX9_freshen_179 rfl (lv_at hl 0 rfl) ?_
          refine va_get (D := D) (ci := 9) (v := .ref (q 21)) (C := RX9) (T := TX9) (N := 44) hx hb hts (fun _ h9 => List.mem_cons_of_mem _ (List.mem_append_right _ h9)) hown hK hP 0 mAt0 rfl 30 (by decide) (hts _ (List.mem_of_getElem? (l := wsX9_freshen) (i := 7) rfl)) (fun _ h9 => h9) rfl dX9_freshen_180 ?_
          refine lv_iload_n hx hb dX9_freshen_183 rfl (lv_at hl 1 rfl) ?_
          refine va_iald (D := D) hx hb hK hP 21 0 mAr21 rfl h.1 dX9_freshen_184 ?_
          have h := h.2
          refine lv_if_ne (tgt := 192) hx hb dX9_freshen_185 (by decide) (fun c36 => ?_) (fun c36 => ?_)
          · have h := h.1 c36
            refine lv_aload_n hx hb dX9_freshen_192 rfl (lv_at hl 0 rfl) ?_
            refine va_get (D := D) (ci := 9) (v := .int (I31 9)) (C := RX9) (T := TX9) (N := 44) hx hb hts (fun _ h9 => List.mem_cons_of_mem _ (List.mem_append_right _ h9)) hown hK hP 0 mAt0 rfl 28 (by decide) (hts _ (List.mem_of_getElem? (l := wsX9_freshen) (i := 5) rfl)) (fun _ h9 => h9) rfl dX9_freshen_193 ?_
            refine gPut (D := D) (ci := 9) (ty := .int) (C := RX9) (T := TX9) (N := 44) hx hb hts (fun _ h9 => List.mem_cons_of_mem _ (List.mem_append_right _ h9)) tyX9 tyX9_ok nmX9 hown hK hP (mD hq) hS 0 mAt0 rfl 28 (by decide) (hts _ (List.mem_of_getElem? (l := wsX9_freshen) (i := 5) rfl)) (fun _ h9 => h9) rfl (by decide +kernel) rfl rfl (Nat.le_of_ble_eq_true rfl) dX9_freshen_196 (mSet9 (I31 9)) (fun H locs hP hS => ?_)
            obtain ⟨I37, eI37⟩ : ∃ z : Nat → Int32, z = upd I31 9 (I31 9) := ⟨_, rfl⟩
            rw [← eI37] at hP
            have h := h I37 eI37
            refine lv_iinc (v := (x1 + (1 : Int32))) (lv' := [(1, .int (x1 + (1 : Int32))), (0, .ref (q 0))]) hx hb dX9_freshen_199 hl (k := 1) rfl rfl (by decide) rfl (fun ls hl => ?_)
            refine lv_goto (tgt := 43) hx hb dX9_freshen_202 (by decide) ?_
            exact ih  _ (x1 + (1 : Int32)) I37 F32 hs33 _ _ _  hP hS (lv_sub hl [1, 0] rfl) h K
          · have h := h.2 c36
            refine lv_iload_n hx hb dX9_freshen_188 rfl (lv_at hl 1 rfl) ?_
            refine lv_goto (tgt := 196) hx hb dX9_freshen_189 (by decide) ?_
            refine gPut (D := D) (ci := 9) (ty := .int) (C := RX9) (T := TX9) (N := 44) hx hb hts (fun _ h9 => List.mem_cons_of_mem _ (List.mem_append_right _ h9)) tyX9 tyX9_ok nmX9 hown hK hP (mD hq) hS 0 mAt0 rfl 28 (by decide) (hts _ (List.mem_of_getElem? (l := wsX9_freshen) (i := 5) rfl)) (fun _ h9 => h9) rfl (by decide +kernel) rfl rfl (Nat.le_of_ble_eq_true rfl) dX9_freshen_196 (mSet9 x1) (fun H locs hP hS => ?_)
            obtain ⟨I38, eI38⟩ : ∃ z : Nat → Int32, z = upd I31 9 x1 := ⟨_, rfl⟩
            rw [← eI38] at hP
            have h := h I38 eI38
            refine lv_iinc (v := (x1 + (1 : Int32))) (lv' := [(1, .int (x1 + (1 : Int32))), (0, .ref (q 0))]) hx hb dX9_freshen_199 hl (k := 1) rfl rfl (by decide) rfl (fun ls hl => ?_)
            refine lv_goto (tgt := 43) hx hb dX9_freshen_202 (by decide) ?_
            exact ih  _ (x1 + (1 : Int32)) I38 F32 hs33 _ _ _  hP hS (lv_sub hl [1, 0] rfl) h K
  refine lv_aload_n hx hb dX9_freshen_0 rfl (lv_at hl 0 rfl) ?_
  refine va_get (D := D) (ci := 9) (v := .int (I 6)) (C := RX9) (T := TX9) (N := 44) hx hb hts (fun _ h9 => List.mem_cons_of_mem _ (List.mem_append_right _ h9)) hown hK hP 0 mAt0 rfl 21 (by decide) (hts _ (List.mem_of_getElem? (l := wsX9_freshen) (i := 1) rfl)) (fun _ h9 => h9) rfl dX9_freshen_1 ?_
  refine lv_if_ne (tgt := 8) hx hb dX9_freshen_4 (by decide) (fun c39 => ?_) (fun c39 => ?_)
  · have h := h.1 c39
    refine lv_aload_n hx hb dX9_freshen_8 rfl (lv_at hl 0 rfl) ?_
    refine lv_iconst (v := (0 : Int32)) hx hb dX9_freshen_9 (by decide) ?_
    refine gCallV (D := D) (va_runV (As := [.int (0 : Int32)]) (rest := []) ⟨hx, hb, hml, hown, hts⟩ (c_X9_layRest l D q cI cO hq (0 : Int32)  I F hs _ h) (cwV 1 hts gX9_freshen_X9_layRest rfl rfl rfl (by decide +kernel) ⟨Nat.le_trans (Nat.le_of_ble_eq_true rfl) hRf, Nat.le_trans (Nat.le_of_ble_eq_true rfl) hRl⟩) (gPreV (ci := 9) (q0 := 0) mEok hE hK hP hS rfl mAt0) rfl rfl hl.1 rfl (lv_room (Nat.le_of_ble_eq_true rfl)) dX9_freshen_10 ⟨Nat.zero_le _, Nat.zero_le _⟩) hS (fun u H locs hP hS h => ?_)
    obtain ⟨I40, F41, hs42⟩ := u
    have hP : va_P D vwCl (mW q cI cO I40 F41 hs42) H := hP
    refine lv_aload_n hx hb dX9_freshen_13 rfl (lv_at hl 0 rfl) ?_
    refine lv_aload_n hx hb dX9_freshen_14 rfl (lv_at hl 0 rfl) ?_
    refine lv_aload_n hx hb dX9_freshen_15 rfl (lv_at hl 0 rfl) ?_
    refine va_get (D := D) (ci := 9) (v := .int (I40 4)) (C := RX9) (T := TX9) (N := 44) hx hb hts (fun _ h9 => List.mem_cons_of_mem _ (List.mem_append_right _ h9)) hown hK hP 0 mAt0 rfl 17 (by decide) (hts _ (List.mem_of_getElem? (l := wsX9_freshen) (i := 2) rfl)) (fun _ h9 => h9) rfl dX9_freshen_16 ?_
    refine lv_iconst (v := (0 : Int32)) hx hb dX9_freshen_19 (by decide) ?_
    refine lv_iconst (v := (0 : Int32)) hx hb dX9_freshen_20 (by decide) ?_
    refine gCallI (D := D) (va_runV (As := [.int (I40 4), .int (0 : Int32), .int (0 : Int32)]) (rest := [.ref (q 0)]) ⟨hx, hb, hml, hown, hts⟩ (c_X9_bestFrom l D q cI cO hq (I40 4) (0 : Int32) (0 : Int32)  I40 F41 hs42 _ h) (cwV 3 hts gX9_freshen_X9_bestFrom rfl rfl rfl (by decide +kernel) ⟨Nat.le_trans (Nat.le_of_ble_eq_true rfl) hRf, Nat.le_trans (Nat.le_of_ble_eq_true rfl) hRl⟩) (gPreV (ci := 9) (q0 := 0) mEok hE hK hP hS rfl mAt0) rfl rfl hl.1 rfl (lv_room (Nat.le_of_ble_eq_true rfl)) dX9_freshen_21 ⟨Nat.zero_le _, Nat.zero_le _⟩) hS (fun r43 _ H locs hP hS h => ?_)
    have hP : va_P D vwCl (mW q cI cO I40 F41 hs42) H := hP
    refine gPut (D := D) (ci := 9) (ty := .int) (C := RX9) (T := TX9) (N := 44) hx hb hts (fun _ h9 => List.mem_cons_of_mem _ (List.mem_append_right _ h9)) tyX9 tyX9_ok nmX9 hown hK hP (mD hq) hS 0 mAt0 rfl 26 (by decide) (hts _ (List.mem_of_getElem? (l := wsX9_freshen) (i := 3) rfl)) (fun _ h9 => h9) rfl (by decide +kernel) rfl rfl (Nat.le_of_ble_eq_true rfl) dX9_freshen_24 (mSet7 r43) (fun H locs hP hS => ?_)
    obtain ⟨I44, eI44⟩ : ∃ z : Nat → Int32, z = upd I40 7 r43 := ⟨_, rfl⟩
    rw [← eI44] at hP
    have h := h I44 eI44
    refine lv_aload_n hx hb dX9_freshen_27 rfl (lv_at hl 0 rfl) ?_
    refine gCallV (D := D) (va_runV (As := []) (rest := []) ⟨hx, hb, hml, hown, hts⟩ (c_X9_layCost l D q cI cO hq   I44 F41 hs42 _ h) (cwV 0 hts gX9_freshen_X9_layCost rfl rfl rfl (by decide +kernel) ⟨Nat.le_trans (Nat.le_of_ble_eq_true rfl) hRf, Nat.le_trans (Nat.le_of_ble_eq_true rfl) hRl⟩) (gPreV (ci := 9) (q0 := 0) mEok hE hK hP hS rfl mAt0) rfl rfl hl.1 rfl (lv_room (Nat.le_of_ble_eq_true rfl)) dX9_freshen_28 ⟨Nat.zero_le _, Nat.zero_le _⟩) hS (fun u H locs hP hS h => ?_)
    obtain ⟨I45, F46, hs47⟩ := u
    have hP : va_P D vwCl (mW q cI cO I45 F46 hs47) H := hP
    refine lv_aload_n hx hb dX9_freshen_31 rfl (lv_at hl 0 rfl) ?_
    refine lv_iconst (v := (0 : Int32)) hx hb dX9_freshen_32 (by decide) ?_
    refine gPut (D := D) (ci := 9) (ty := .int) (C := RX9) (T := TX9) (N := 44) hx hb hts (fun _ h9 => List.mem_cons_of_mem _ (List.mem_append_right _ h9)) tyX9 tyX9_ok nmX9 hown hK hP (mD hq) hS 0 mAt0 rfl 27 (by decide) (hts _ (List.mem_of_getElem? (l := wsX9_freshen) (i := 4) rfl)) (fun _ h9 => h9) rfl (by decide +kernel) rfl rfl (Nat.le_of_ble_eq_true rfl) dX9_freshen_33 (mSet8 (0 : Int32)) (fun H locs hP hS => ?_)
    obtain ⟨I48, eI48⟩ : ∃ z : Nat → Int32, z = upd I45 8 (0 : Int32) := ⟨_, rfl⟩
    rw [← eI48] at hP
    have h := h I48 eI48
    refine lv_aload_n hx hb dX9_freshen_36 rfl (lv_at hl 0 rfl) ?_
    refine lv_iconst (v := (-1 : Int32)) hx hb dX9_freshen_37 (by decide) ?_
    refine gPut (D := D) (ci := 9) (ty := .int) (C := RX9) (T := TX9) (N := 44) hx hb hts (fun _ h9 => List.mem_cons_of_mem _ (List.mem_append_right _ h9)) tyX9 tyX9_ok nmX9 hown hK hP (mD hq) hS 0 mAt0 rfl 28 (by decide) (hts _ (List.mem_of_getElem? (l := wsX9_freshen) (i := 5) rfl)) (fun _ h9 => h9) rfl (by decide +kernel) rfl rfl (Nat.le_of_ble_eq_true rfl) dX9_freshen_38 (mSet9 (-1 : Int32)) (fun H locs hP hS => ?_)
    obtain ⟨I49, eI49⟩ : ∃ z : Nat → Int32, z = upd I48 9 (-1 : Int32) := ⟨_, rfl⟩
    rw [← eI49] at hP
    have h := h I49 eI49
    refine lv_iconst (v := (0 : Int32)) hx hb dX9_freshen_41 (by decide) ?_
    refine lv_istore_n (lv' := [(1, .int (0 : Int32)), (0, .ref (q 0))]) hx hb dX9_freshen_42 rfl hl (by decide) rfl (fun ls hl => ?_)
    obtain ⟨n, h⟩ := h
    refine L43 n  _ (0 : Int32) I49 F46 hs47 _ _ _  hP hS (lv_sub hl [1, 0] rfl) h (fun y50 I51 F52 hs53 H locs ls  hP hS hl h => ?_)
    refine lv_aload_n hx hb dX9_freshen_205 rfl (lv_at hl 0 rfl) ?_
    refine gCallV (D := D) (va_runV (As := []) (rest := []) ⟨hx, hb, hml, hown, hts⟩ (c_X9_layBest l D q cI cO hq   I51 F52 hs53 _ h) (cwV 0 hts gX9_freshen_X9_layBest rfl rfl rfl (by decide +kernel) ⟨Nat.le_trans (Nat.le_of_ble_eq_true rfl) hRf, Nat.le_trans (Nat.le_of_ble_eq_true rfl) hRl⟩) (gPreV (ci := 9) (q0 := 0) mEok hE hK hP hS rfl mAt0) rfl rfl hl.1 rfl (lv_room (Nat.le_of_ble_eq_true rfl)) dX9_freshen_206 ⟨Nat.zero_le _, Nat.zero_le _⟩) hS (fun u H locs hP hS h => ?_)
    obtain ⟨I54, F55, hs56⟩ := u
    have hP : va_P D vwCl (mW q cI cO I54 F55 hs56) H := hP
    refine lv_aload_n hx hb dX9_freshen_209 rfl (lv_at hl 0 rfl) ?_
    refine lv_iconst (v := (0 : Int32)) hx hb dX9_freshen_210 (by decide) ?_
    refine gPut (D := D) (ci := 9) (ty := .boolean) (C := RX9) (T := TX9) (N := 44) hx hb hts (fun _ h9 => List.mem_cons_of_mem _ (List.mem_append_right _ h9)) tyX9 tyX9_ok nmX9 hown hK hP (mD hq) hS 0 mAt0 rfl 21 (by decide) (hts _ (List.mem_of_getElem? (l := wsX9_freshen) (i := 1) rfl)) (fun _ h9 => h9) rfl (by decide +kernel) (by decide) (by decide) (Nat.le_of_ble_eq_true rfl) dX9_freshen_211 (mSet6 (0 : Int32)) (fun H locs hP hS => ?_)
    obtain ⟨I57, eI57⟩ : ∃ z : Nat → Int32, z = upd I54 6 (0 : Int32) := ⟨_, rfl⟩
    rw [← eI57] at hP
    have h := h I57 eI57
    exact hret (I57, F55, hs56) _ _ _ _ dX9_freshen_214 hP hS h
  · have h := h.2 c39
    exact hret (I, F, hs) _ _ _ _ dX9_freshen_7 hP hS h
def w_X9_told_B4 (x1 : Int32) (I : Nat → Int32) (F : Nat → Nat → Int32) (hs : Int64) (k again : Int32 → Int32 → Prop) (x2 : Int32) (x3 : Int32) : Prop :=
  (((7 : Int32) ≤ x3 → k x2 x3) ∧ (¬ (7 : Int32) ≤ x3 → w_X9_positionOf x1 x3 I F hs (fun (r2 : Int32) => ∀ v3 : Int32, v3 = (((10 : Int32) * x2) + r2) → again v3 (x3 + (1 : Int32)))))
def w_X9_told (a1 : Int32) (I : Nat → Int32) (F : Nat → Nat → Int32) (hs : Int64) (post : Int32 → Prop) : Prop :=
  gL (fun ag v => w_X9_told_B4 a1 I F hs (fun (y4 : Int32) (y5 : Int32) => post y4) (fun b0 b1 => ag (b0, b1)) v.1 v.2) ((0 : Int32), (0 : Int32))
set_option maxHeartbeats 4000000 in
set_option maxRecDepth 100000 in
theorem c_X9_told (l : Launch) (D : va_G) (q : Nat → Nat) (cI cO : ClassId) (hq : mOk q) (a1 : Int32)  (I : Nat → Int32) (F : Nat → Nat → Int32) (hs : Int64) (post : Int32 → Prop) (h : w_X9_told a1 I F hs post) : Met l yX9_told wsX9_told ({ frames := 1, cells := 0, slots := 0, locals := 22 } : Room) (gPre D (mTys cI) (mW q cI cO I F hs) mEnv [.ref (q 0), .int a1]) (va_Qi (fun r (_ : Unit) => post r) (gB D (fun _ : Unit => mW q cI cO I F hs)) (mA q)) 0 0 (mA q) := by
  refine gMetI (by decide) rfl (Nat.le_of_ble_eq_true rfl) ?_
  intro p e R s m args below meth c Q ls hR hx hb hml hown hts hK hE hP hl hret
  have hRf : 1 ≤ R.frames := by subst hR; exact Nat.le_refl _
  have hRl : 22 ≤ R.locals := by subst hR; exact Nat.le_refl _
  have hown : s.vm.findClass RX9 = some m.cls := hown
  have hl : lv_has ls 4 [(0, .ref (q 0)), (1, .int a1)] := hl
  have hS : va_S (mA q) s.heap s.heap [] := va_S.rf
  have hP : va_P D vwCl (mW q cI cO I F hs) s.heap := hP
  have L4 : ∀ (n : Nat) (x1 : Int32) (k : Int32 → Int32 → Prop) (x2 : Int32) (x3 : Int32) (H : Heap) (locs : List Loc) (ls : Array Slot), va_P D vwCl (mW q cI cO I F hs) H → va_S (mA q) s.heap H locs → lv_has ls 4 [(0, .ref (q 0)), (1, .int x1), (2, .int x2), (3, .int x3)] → gLN (fun ag v => w_X9_told_B4 x1 I F hs k (fun b0 b1 => ag (b0, b1)) v.1 v.2) n (x2, x3) → (∀ (x2 : Int32) (x3 : Int32) (H : Heap) (locs : List Loc) (ls : Array Slot), va_P D vwCl (mW q cI cO I F hs) H → va_S (mA q) s.heap H locs → lv_has ls 4 [(2, .int x2)] → k x2 x3 → W p l e R s m args below meth c H locs 0 0 Q (F0 m 28 ls [])) → W p l e R s m args below meth c H locs 0 0 Q (F0 m 4 ls []) := by
    intro n
    induction n with
    | zero =>
      intro x1 k x2 x3 H locs ls  hP hS hl h K
      exact False.elim h
    | succ n ih =>
      intro x1 k x2 x3 H locs ls  hP hS hl h K
      have h : w_X9_told_B4 x1 I F hs k (fun b0 b1 => gLN (fun ag v => w_X9_told_B4 x1 I F hs k (fun b0 b1 => ag (b0, b1)) v.1 v.2) n (b0, b1)) x2 x3 := h
      refine lv_iload_n hx hb dX9_told_4 rfl (lv_at hl 3 rfl) ?_
      refine lv_bipush (v := (7 : Int32)) hx hb dX9_told_5 (by decide) ?_
      refine lv_icmp_ge (tgt := 28) hx hb dX9_told_7 (by decide) (fun c1 => ?_) (fun c1 => ?_)
      · have h := h.1 c1
        exact K x2 x3 _ _ _  hP hS (lv_sub hl [2] rfl) h
      · have h := h.2 c1
        refine lv_bipush (v := (10 : Int32)) hx hb dX9_told_10 (by decide) ?_
        refine lv_iload_n hx hb dX9_told_12 rfl (lv_at hl 2 rfl) ?_
        refine lv_imul hx hb dX9_told_13 ?_
        refine lv_aload_n hx hb dX9_told_14 rfl (lv_at hl 0 rfl) ?_
        refine lv_iload_n hx hb dX9_told_15 rfl (lv_at hl 1 rfl) ?_
        refine lv_iload_n hx hb dX9_told_16 rfl (lv_at hl 3 rfl) ?_
        refine gCallI (D := D) (va_runV (As := [.int x1, .int x3]) (rest := [.int ((10 : Int32) * x2)]) ⟨hx, hb, hml, hown, hts⟩ (c_X9_positionOf l D q cI cO hq x1 x3  I F hs _ h) (cwV 2 hts gX9_told_X9_positionOf rfl rfl rfl (by decide +kernel) ⟨Nat.le_trans (Nat.le_of_ble_eq_true rfl) hRf, Nat.le_trans (Nat.le_of_ble_eq_true rfl) hRl⟩) (gPreV (ci := 9) (q0 := 0) mEok hE hK hP hS rfl mAt0) rfl rfl hl.1 rfl (lv_room (Nat.le_of_ble_eq_true rfl)) dX9_told_17 ⟨Nat.zero_le _, Nat.zero_le _⟩) hS (fun r2 _ H locs hP hS h => ?_)
        have hP : va_P D vwCl (mW q cI cO I F hs) H := hP
        refine lv_iadd hx hb dX9_told_20 ?_
        refine lv_topi (fun v3 ev3 => ?_)
        have h := h v3 ev3
        refine lv_istore_n (lv' := [(2, .int v3), (0, .ref (q 0)), (1, .int x1), (3, .int x3)]) hx hb dX9_told_21 rfl hl (by decide) rfl (fun ls hl => ?_)
        refine lv_iinc (v := (x3 + (1 : Int32))) (lv' := [(3, .int (x3 + (1 : Int32))), (2, .int v3), (0, .ref (q 0)), (1, .int x1)]) hx hb dX9_told_22 hl (k := 3) rfl rfl (by decide) rfl (fun ls hl => ?_)
        refine lv_goto (tgt := 4) hx hb dX9_told_25 (by decide) ?_
        exact ih x1 _ v3 (x3 + (1 : Int32)) _ _ _  hP hS (lv_sub hl [2, 3, 1, 0] rfl) h K
  refine lv_iconst (v := (0 : Int32)) hx hb dX9_told_0 (by decide) ?_
  refine lv_istore_n (lv' := [(2, .int (0 : Int32)), (0, .ref (q 0)), (1, .int a1)]) hx hb dX9_told_1 rfl hl (by decide) rfl (fun ls hl => ?_)
  refine lv_iconst (v := (0 : Int32)) hx hb dX9_told_2 (by decide) ?_
  refine lv_istore_n (lv' := [(3, .int (0 : Int32)), (2, .int (0 : Int32)), (0, .ref (q 0)), (1, .int a1)]) hx hb dX9_told_3 rfl hl (by decide) rfl (fun ls hl => ?_)
  obtain ⟨n, h⟩ := h
  refine L4 n a1 _ (0 : Int32) (0 : Int32) _ _ _  hP hS (lv_sub hl [2, 3, 1, 0] rfl) h (fun y4 y5 H locs ls  hP hS hl h => ?_)
  refine lv_iload_n hx hb dX9_told_28 rfl (lv_at hl 0 rfl) ?_
  exact hret y4 () _ _ _ _ dX9_told_29 hP hS h
def w_X9_fitting_B12 (x1 : Int32) (x2 : Int32) (I : Nat → Int32) (F : Nat → Nat → Int32) (hs : Int64) (k again : Int32 → Int32 → Int32 → Prop) (x3 : Int32) (x4 : Int32) (x5 : Int32) : Prop :=
  (((2187 : Int32) ≤ x5 → k x3 x4 x5) ∧ (¬ (2187 : Int32) ≤ x5 → vp_in x1 8 ∧ vp_in x1 8 ∧ w_X9_isFitting x5 (F 14 (x1).toNatClampNeg) (F 15 (x1).toNatClampNeg) I F hs (fun (r2 : Int32) => ((r2 = 0 → ((r2 = 0 → ∀ v5 : Int32, v5 = (x3 + (0 : Int32)) → again v5 x4 (x5 + (1 : Int32))) ∧ (¬ r2 = 0 → ∀ v6 : Int32, v6 = (x3 + (1 : Int32)) → again v6 x4 (x5 + (1 : Int32))))) ∧ (¬ r2 = 0 → ((¬ x3 = 0 → ((r2 = 0 → ∀ v9 : Int32, v9 = (x3 + (0 : Int32)) → again v9 x4 (x5 + (1 : Int32))) ∧ (¬ r2 = 0 → ∀ v10 : Int32, v10 = (x3 + (1 : Int32)) → again v10 x4 (x5 + (1 : Int32))))) ∧ (x3 = 0 → ((r2 = 0 → ∀ v12 : Int32, v12 = (x3 + (0 : Int32)) → again v12 x5 (x5 + (1 : Int32))) ∧ (¬ r2 = 0 → ∀ v13 : Int32, v13 = (x3 + (1 : Int32)) → again v13 x5 (x5 + (1 : Int32)))))))))))
def w_X9_fitting (a1 : Int32) (a2 : Int32) (I : Nat → Int32) (F : Nat → Nat → Int32) (hs : Int64) (post : Int32 → (Nat → Int32) → (Nat → Nat → Int32) → Int64 → Prop) : Prop :=
  w_X9_freshen I F hs (fun (I14 : Nat → Int32) (F15 : Nat → Nat → Int32) (hs16 : Int64) => gL (fun ag v => w_X9_fitting_B12 a1 a2 I14 F15 hs16 (fun (y17 : Int32) (y18 : Int32) (y19 : Int32) => ((¬ a2 = (2 : Int32) → ((¬ y17 = 0 → w_X9_told y18 I14 F15 hs16 (fun (r22 : Int32) => post r22 I14 F15 hs16)) ∧ (y17 = 0 → post (-1 : Int32) I14 F15 hs16))) ∧ (a2 = (2 : Int32) → post y17 I14 F15 hs16))) (fun b0 b1 b2 => ag (b0, b1, b2)) v.1 v.2.1 v.2.2) ((0 : Int32), (-1 : Int32), (0 : Int32)))
set_option maxHeartbeats 4000000 in
set_option maxRecDepth 100000 in
theorem c_X9_fitting (l : Launch) (D : va_G) (q : Nat → Nat) (cI cO : ClassId) (hq : mOk q) (a1 : Int32) (a2 : Int32)  (I : Nat → Int32) (F : Nat → Nat → Int32) (hs : Int64) (post : Int32 → (Nat → Int32) → (Nat → Nat → Int32) → Int64 → Prop) (h : w_X9_fitting a1 a2 I F hs post) : Met l yX9_fitting wsX9_fitting ({ frames := 5, cells := 0, slots := 0, locals := 122 } : Room) (gPre D (mTys cI) (mW q cI cO I F hs) mEnv [.ref (q 0), .int a1, .int a2]) (va_Qi (fun r (u : mS) => post r u.1 u.2.1 u.2.2) (gB D (fun u : mS => mW q cI cO u.1 u.2.1 u.2.2)) (mA q)) 0 0 (mA q) := by
  refine gMetI (by decide) rfl (Nat.le_of_ble_eq_true rfl) ?_
  intro p e R s m args below meth c Q ls hR hx hb hml hown hts hK hE hP hl hret
  have hRf : 5 ≤ R.frames := by subst hR; exact Nat.le_refl _
  have hRl : 122 ≤ R.locals := by subst hR; exact Nat.le_refl _
  have hown : s.vm.findClass RX9 = some m.cls := hown
  have hl : lv_has ls 7 [(0, .ref (q 0)), (1, .int a1), (2, .int a2)] := hl
  have hS : va_S (mA q) s.heap s.heap [] := va_S.rf
  have hP : va_P D vwCl (mW q cI cO I F hs) s.heap := hP
  have L12 : ∀ (n : Nat) (x1 : Int32) (x2 : Int32) (I : Nat → Int32) (F : Nat → Nat → Int32) (hs : Int64) (k : Int32 → Int32 → Int32 → Prop) (x3 : Int32) (x4 : Int32) (x5 : Int32) (H : Heap) (locs : List Loc) (ls : Array Slot), va_P D vwCl (mW q cI cO I F hs) H → va_S (mA q) s.heap H locs → lv_has ls 7 [(0, .ref (q 0)), (1, .int x1), (2, .int x2), (3, .int x3), (4, .int x4), (5, .int x5)] → gLN (fun ag v => w_X9_fitting_B12 x1 x2 I F hs k (fun b0 b1 b2 => ag (b0, b1, b2)) v.1 v.2.1 v.2.2) n (x3, x4, x5) → (∀ (x3 : Int32) (x4 : Int32) (x5 : Int32) (H : Heap) (locs : List Loc) (ls : Array Slot), va_P D vwCl (mW q cI cO I F hs) H → va_S (mA q) s.heap H locs → lv_has ls 7 [(0, .ref (q 0)), (2, .int x2), (3, .int x3), (4, .int x4)] → k x3 x4 x5 → W p l e R s m args below meth c H locs 0 0 Q (F0 m 77 ls [])) → W p l e R s m args below meth c H locs 0 0 Q (F0 m 12 ls []) := by
    intro n
    induction n with
    | zero =>
      intro x1 x2 I F hs k x3 x4 x5 H locs ls  hP hS hl h K
      exact False.elim h
    | succ n ih =>
      intro x1 x2 I F hs k x3 x4 x5 H locs ls  hP hS hl h K
      have h : w_X9_fitting_B12 x1 x2 I F hs k (fun b0 b1 b2 => gLN (fun ag v => w_X9_fitting_B12 x1 x2 I F hs k (fun b0 b1 b2 => ag (b0, b1, b2)) v.1 v.2.1 v.2.2) n (b0, b1, b2)) x3 x4 x5 := h
      refine lv_iload hx hb dX9_fitting_12 (lv_at hl 5 rfl) ?_
      refine lv_sipush (v := (2187 : Int32)) hx hb dX9_fitting_14 (by decide) ?_
      refine lv_icmp_ge (tgt := 77) hx hb dX9_fitting_17 (by decide) (fun c1 => ?_) (fun c1 => ?_)
      · have h := h.1 c1
        exact K x3 x4 x5 _ _ _  hP hS (lv_sub hl [0, 2, 3, 4] rfl) h
      · have h := h.2 c1
        refine lv_aload_n hx hb dX9_fitting_20 rfl (lv_at hl 0 rfl) ?_
        refine lv_iload hx hb dX9_fitting_21 (lv_at hl 5 rfl) ?_
        refine lv_aload_n hx hb dX9_fitting_23 rfl (lv_at hl 0 rfl) ?_
        refine va_get (D := D) (ci := 9) (v := .ref (q 14)) (C := RX9) (T := TX9) (N := 44) hx hb hts (fun _ h9 => List.mem_cons_of_mem _ (List.mem_append_right _ h9)) hown hK hP 0 mAt0 rfl 19 (by decide) (hts _ (List.mem_of_getElem? (l := wsX9_fitting) (i := 1) rfl)) (fun _ h9 => h9) rfl dX9_fitting_24 ?_
        refine lv_iload_n hx hb dX9_fitting_27 rfl (lv_at hl 1 rfl) ?_
        refine va_iald (D := D) hx hb hK hP 14 0 mAr14 rfl h.1 dX9_fitting_28 ?_
        have h := h.2
        refine lv_aload_n hx hb dX9_fitting_29 rfl (lv_at hl 0 rfl) ?_
        refine va_get (D := D) (ci := 9) (v := .ref (q 15)) (C := RX9) (T := TX9) (N := 44) hx hb hts (fun _ h9 => List.mem_cons_of_mem _ (List.mem_append_right _ h9)) hown hK hP 0 mAt0 rfl 20 (by decide) (hts _ (List.mem_of_getElem? (l := wsX9_fitting) (i := 2) rfl)) (fun _ h9 => h9) rfl dX9_fitting_30 ?_
        refine lv_iload_n hx hb dX9_fitting_33 rfl (lv_at hl 1 rfl) ?_
        refine va_iald (D := D) hx hb hK hP 15 0 mAr15 rfl h.1 dX9_fitting_34 ?_
        have h := h.2
        refine gCallI (D := D) (va_runV (As := [.int x5, .int (F 14 (x1).toNatClampNeg), .int (F 15 (x1).toNatClampNeg)]) (rest := []) ⟨hx, hb, hml, hown, hts⟩ (c_X9_isFitting l D q cI cO hq x5 (F 14 (x1).toNatClampNeg) (F 15 (x1).toNatClampNeg)  I F hs _ h) (cwV 3 hts gX9_fitting_X9_isFitting rfl rfl rfl (by decide +kernel) ⟨Nat.le_trans (Nat.le_of_ble_eq_true rfl) hRf, Nat.le_trans (Nat.le_of_ble_eq_true rfl) hRl⟩) (gPreV (ci := 9) (q0 := 0) mEok hE hK hP hS rfl mAt0) rfl rfl hl.1 rfl (lv_room (Nat.le_of_ble_eq_true rfl)) dX9_fitting_35 ⟨Nat.zero_le _, Nat.zero_le _⟩) hS (fun r2 _ H locs hP hS h => ?_)
        have hP : va_P D vwCl (mW q cI cO I F hs) H := hP
        refine lv_istore (lv' := [(6, .int r2), (0, .ref (q 0)), (1, .int x1), (2, .int x2), (3, .int x3), (4, .int x4), (5, .int x5)]) hx hb dX9_fitting_38 hl (by decide) rfl (fun ls hl => ?_)
        refine lv_iload hx hb dX9_fitting_40 (lv_at hl 0 rfl) ?_
        refine lv_if_eq (tgt := 54) hx hb dX9_fitting_42 (by decide) (fun c3 => ?_) (fun c3 => ?_)
        · have h := h.1 c3
          refine lv_iload hx hb dX9_fitting_54 (lv_at hl 5 rfl) ?_
          refine lv_istore (lv' := [(4, .int x4), (6, .int r2), (0, .ref (q 0)), (1, .int x1), (2, .int x2), (3, .int x3), (5, .int x5)]) hx hb dX9_fitting_56 hl (by decide) rfl (fun ls hl => ?_)
          refine lv_iload_n hx hb dX9_fitting_58 rfl (lv_at hl 5 rfl) ?_
          refine lv_iload hx hb dX9_fitting_59 (lv_at hl 1 rfl) ?_
          refine lv_if_eq (tgt := 68) hx hb dX9_fitting_61 (by decide) (fun c4 => ?_) (fun c4 => ?_)
          · have h := h.1 c4
            refine lv_iconst (v := (0 : Int32)) hx hb dX9_fitting_68 (by decide) ?_
            refine lv_iadd hx hb dX9_fitting_69 ?_
            refine lv_topi (fun v5 ev5 => ?_)
            have h := h v5 ev5
            refine lv_istore_n (lv' := [(3, .int v5), (4, .int x4), (6, .int r2), (0, .ref (q 0)), (1, .int x1), (2, .int x2), (5, .int x5)]) hx hb dX9_fitting_70 rfl hl (by decide) rfl (fun ls hl => ?_)
            refine lv_iinc (v := (x5 + (1 : Int32))) (lv' := [(5, .int (x5 + (1 : Int32))), (3, .int v5), (4, .int x4), (6, .int r2), (0, .ref (q 0)), (1, .int x1), (2, .int x2)]) hx hb dX9_fitting_71 hl (k := 6) rfl rfl (by decide) rfl (fun ls hl => ?_)
            refine lv_goto (tgt := 12) hx hb dX9_fitting_74 (by decide) ?_
            exact ih x1 x2 I F hs _ v5 x4 (x5 + (1 : Int32)) _ _ _  hP hS (lv_sub hl [4, 5, 6, 1, 2, 0] rfl) h K
          · have h := h.2 c4
            refine lv_iconst (v := (1 : Int32)) hx hb dX9_fitting_64 (by decide) ?_
            refine lv_goto (tgt := 69) hx hb dX9_fitting_65 (by decide) ?_
            refine lv_iadd hx hb dX9_fitting_69 ?_
            refine lv_topi (fun v6 ev6 => ?_)
            have h := h v6 ev6
            refine lv_istore_n (lv' := [(3, .int v6), (4, .int x4), (6, .int r2), (0, .ref (q 0)), (1, .int x1), (2, .int x2), (5, .int x5)]) hx hb dX9_fitting_70 rfl hl (by decide) rfl (fun ls hl => ?_)
            refine lv_iinc (v := (x5 + (1 : Int32))) (lv' := [(5, .int (x5 + (1 : Int32))), (3, .int v6), (4, .int x4), (6, .int r2), (0, .ref (q 0)), (1, .int x1), (2, .int x2)]) hx hb dX9_fitting_71 hl (k := 6) rfl rfl (by decide) rfl (fun ls hl => ?_)
            refine lv_goto (tgt := 12) hx hb dX9_fitting_74 (by decide) ?_
            exact ih x1 x2 I F hs _ v6 x4 (x5 + (1 : Int32)) _ _ _  hP hS (lv_sub hl [4, 5, 6, 1, 2, 0] rfl) h K
        · have h := h.2 c3
          refine lv_iload_n hx hb dX9_fitting_45 rfl (lv_at hl 4 rfl) ?_
          refine lv_if_ne (tgt := 54) hx hb dX9_fitting_46 (by decide) (fun c7 => ?_) (fun c7 => ?_)
          · have h := h.1 c7
            refine lv_iload hx hb dX9_fitting_54 (lv_at hl 5 rfl) ?_
            refine lv_istore (lv' := [(4, .int x4), (6, .int r2), (0, .ref (q 0)), (1, .int x1), (2, .int x2), (3, .int x3), (5, .int x5)]) hx hb dX9_fitting_56 hl (by decide) rfl (fun ls hl => ?_)
            refine lv_iload_n hx hb dX9_fitting_58 rfl (lv_at hl 5 rfl) ?_
            refine lv_iload hx hb dX9_fitting_59 (lv_at hl 1 rfl) ?_
            refine lv_if_eq (tgt := 68) hx hb dX9_fitting_61 (by decide) (fun c8 => ?_) (fun c8 => ?_)
            · have h := h.1 c8
              refine lv_iconst (v := (0 : Int32)) hx hb dX9_fitting_68 (by decide) ?_
              refine lv_iadd hx hb dX9_fitting_69 ?_
              refine lv_topi (fun v9 ev9 => ?_)
              have h := h v9 ev9
              refine lv_istore_n (lv' := [(3, .int v9), (4, .int x4), (6, .int r2), (0, .ref (q 0)), (1, .int x1), (2, .int x2), (5, .int x5)]) hx hb dX9_fitting_70 rfl hl (by decide) rfl (fun ls hl => ?_)
              refine lv_iinc (v := (x5 + (1 : Int32))) (lv' := [(5, .int (x5 + (1 : Int32))), (3, .int v9), (4, .int x4), (6, .int r2), (0, .ref (q 0)), (1, .int x1), (2, .int x2)]) hx hb dX9_fitting_71 hl (k := 6) rfl rfl (by decide) rfl (fun ls hl => ?_)
              refine lv_goto (tgt := 12) hx hb dX9_fitting_74 (by decide) ?_
              exact ih x1 x2 I F hs _ v9 x4 (x5 + (1 : Int32)) _ _ _  hP hS (lv_sub hl [4, 5, 6, 1, 2, 0] rfl) h K
            · have h := h.2 c8
              refine lv_iconst (v := (1 : Int32)) hx hb dX9_fitting_64 (by decide) ?_
              refine lv_goto (tgt := 69) hx hb dX9_fitting_65 (by decide) ?_
              refine lv_iadd hx hb dX9_fitting_69 ?_
              refine lv_topi (fun v10 ev10 => ?_)
              have h := h v10 ev10
              refine lv_istore_n (lv' := [(3, .int v10), (4, .int x4), (6, .int r2), (0, .ref (q 0)), (1, .int x1), (2, .int x2), (5, .int x5)]) hx hb dX9_fitting_70 rfl hl (by decide) rfl (fun ls hl => ?_)
              refine lv_iinc (v := (x5 + (1 : Int32))) (lv' := [(5, .int (x5 + (1 : Int32))), (3, .int v10), (4, .int x4), (6, .int r2), (0, .ref (q 0)), (1, .int x1), (2, .int x2)]) hx hb dX9_fitting_71 hl (k := 6) rfl rfl (by decide) rfl (fun ls hl => ?_)
              refine lv_goto (tgt := 12) hx hb dX9_fitting_74 (by decide) ?_
              exact ih x1 x2 I F hs _ v10 x4 (x5 + (1 : Int32)) _ _ _  hP hS (lv_sub hl [4, 5, 6, 1, 2, 0] rfl) h K
          · have h := h.2 c7
            refine lv_iload hx hb dX9_fitting_49 (lv_at hl 6 rfl) ?_
            refine lv_goto (tgt := 56) hx hb dX9_fitting_51 (by decide) ?_
            refine lv_istore (lv' := [(4, .int x5), (6, .int r2), (0, .ref (q 0)), (1, .int x1), (2, .int x2), (3, .int x3), (5, .int x5)]) hx hb dX9_fitting_56 hl (by decide) rfl (fun ls hl => ?_)
            refine lv_iload_n hx hb dX9_fitting_58 rfl (lv_at hl 5 rfl) ?_
            refine lv_iload hx hb dX9_fitting_59 (lv_at hl 1 rfl) ?_
            refine lv_if_eq (tgt := 68) hx hb dX9_fitting_61 (by decide) (fun c11 => ?_) (fun c11 => ?_)
            · have h := h.1 c11
              refine lv_iconst (v := (0 : Int32)) hx hb dX9_fitting_68 (by decide) ?_
              refine lv_iadd hx hb dX9_fitting_69 ?_
              refine lv_topi (fun v12 ev12 => ?_)
              have h := h v12 ev12
              refine lv_istore_n (lv' := [(3, .int v12), (4, .int x5), (6, .int r2), (0, .ref (q 0)), (1, .int x1), (2, .int x2), (5, .int x5)]) hx hb dX9_fitting_70 rfl hl (by decide) rfl (fun ls hl => ?_)
              refine lv_iinc (v := (x5 + (1 : Int32))) (lv' := [(5, .int (x5 + (1 : Int32))), (3, .int v12), (4, .int x5), (6, .int r2), (0, .ref (q 0)), (1, .int x1), (2, .int x2)]) hx hb dX9_fitting_71 hl (k := 6) rfl rfl (by decide) rfl (fun ls hl => ?_)
              refine lv_goto (tgt := 12) hx hb dX9_fitting_74 (by decide) ?_
              exact ih x1 x2 I F hs _ v12 x5 (x5 + (1 : Int32)) _ _ _  hP hS (lv_sub hl [4, 5, 6, 1, 2, 0] rfl) h K
            · have h := h.2 c11
              refine lv_iconst (v := (1 : Int32)) hx hb dX9_fitting_64 (by decide) ?_
              refine lv_goto (tgt := 69) hx hb dX9_fitting_65 (by decide) ?_
              refine lv_iadd hx hb dX9_fitting_69 ?_
              refine lv_topi (fun v13 ev13 => ?_)
              have h := h v13 ev13
              refine lv_istore_n (lv' := [(3, .int v13), (4, .int x5), (6, .int r2), (0, .ref (q 0)), (1, .int x1), (2, .int x2), (5, .int x5)]) hx hb dX9_fitting_70 rfl hl (by decide) rfl (fun ls hl => ?_)
              refine lv_iinc (v := (x5 + (1 : Int32))) (lv' := [(5, .int (x5 + (1 : Int32))), (3, .int v13), (4, .int x5), (6, .int r2), (0, .ref (q 0)), (1, .int x1), (2, .int x2)]) hx hb dX9_fitting_71 hl (k := 6) rfl rfl (by decide) rfl (fun ls hl => ?_)
              refine lv_goto (tgt := 12) hx hb dX9_fitting_74 (by decide) ?_
              exact ih x1 x2 I F hs _ v13 x5 (x5 + (1 : Int32)) _ _ _  hP hS (lv_sub hl [4, 5, 6, 1, 2, 0] rfl) h K
  refine lv_aload_n hx hb dX9_fitting_0 rfl (lv_at hl 0 rfl) ?_
  refine gCallV (D := D) (va_runV (As := []) (rest := []) ⟨hx, hb, hml, hown, hts⟩ (c_X9_freshen l D q cI cO hq   I F hs _ h) (cwV 0 hts gX9_fitting_X9_freshen rfl rfl rfl (by decide +kernel) ⟨Nat.le_trans (Nat.le_of_ble_eq_true rfl) hRf, Nat.le_trans (Nat.le_of_ble_eq_true rfl) hRl⟩) (gPreV (ci := 9) (q0 := 0) mEok hE hK hP hS rfl mAt0) rfl rfl hl.1 rfl (lv_room (Nat.le_of_ble_eq_true rfl)) dX9_fitting_1 ⟨Nat.zero_le _, Nat.zero_le _⟩) hS (fun u H locs hP hS h => ?_)
  obtain ⟨I14, F15, hs16⟩ := u
  have hP : va_P D vwCl (mW q cI cO I14 F15 hs16) H := hP
  refine lv_iconst (v := (0 : Int32)) hx hb dX9_fitting_4 (by decide) ?_
  refine lv_istore_n (lv' := [(3, .int (0 : Int32)), (0, .ref (q 0)), (1, .int a1), (2, .int a2)]) hx hb dX9_fitting_5 rfl hl (by decide) rfl (fun ls hl => ?_)
  refine lv_iconst (v := (-1 : Int32)) hx hb dX9_fitting_6 (by decide) ?_
  refine lv_istore (lv' := [(4, .int (-1 : Int32)), (3, .int (0 : Int32)), (0, .ref (q 0)), (1, .int a1), (2, .int a2)]) hx hb dX9_fitting_7 hl (by decide) rfl (fun ls hl => ?_)
  refine lv_iconst (v := (0 : Int32)) hx hb dX9_fitting_9 (by decide) ?_
  refine lv_istore (lv' := [(5, .int (0 : Int32)), (4, .int (-1 : Int32)), (3, .int (0 : Int32)), (0, .ref (q 0)), (1, .int a1), (2, .int a2)]) hx hb dX9_fitting_10 hl (by decide) rfl (fun ls hl => ?_)
  obtain ⟨n, h⟩ := h
  refine L12 n a1 a2 I14 F15 hs16 _ (0 : Int32) (-1 : Int32) (0 : Int32) _ _ _  hP hS (lv_sub hl [3, 4, 5, 2, 1, 0] rfl) h (fun y17 y18 y19 H locs ls  hP hS hl h => ?_)
  refine lv_iload_n hx hb dX9_fitting_77 rfl (lv_at hl 1 rfl) ?_
  refine lv_iconst (v := (2 : Int32)) hx hb dX9_fitting_78 (by decide) ?_
  refine lv_icmp_ne (tgt := 86) hx hb dX9_fitting_79 (by decide) (fun c20 => ?_) (fun c20 => ?_)
  · have h := h.1 c20
    refine lv_iload_n hx hb dX9_fitting_86 rfl (lv_at hl 2 rfl) ?_
    refine lv_if_ne (tgt := 94) hx hb dX9_fitting_87 (by decide) (fun c21 => ?_) (fun c21 => ?_)
    · have h := h.1 c21
      refine lv_aload_n hx hb dX9_fitting_94 rfl (lv_at hl 0 rfl) ?_
      refine lv_iload hx hb dX9_fitting_95 (lv_at hl 3 rfl) ?_
      refine gCallI (D := D) (va_runV (As := [.int y18]) (rest := []) ⟨hx, hb, hml, hown, hts⟩ (c_X9_told l D q cI cO hq y18  I14 F15 hs16 _ h) (cwV 1 hts gX9_fitting_X9_told rfl rfl rfl (by decide +kernel) ⟨Nat.le_trans (Nat.le_of_ble_eq_true rfl) hRf, Nat.le_trans (Nat.le_of_ble_eq_true rfl) hRl⟩) (gPreV (ci := 9) (q0 := 0) mEok hE hK hP hS rfl mAt0) rfl rfl hl.1 rfl (lv_room (Nat.le_of_ble_eq_true rfl)) dX9_fitting_97 ⟨Nat.zero_le _, Nat.zero_le _⟩) hS (fun r22 _ H locs hP hS h => ?_)
      have hP : va_P D vwCl (mW q cI cO I14 F15 hs16) H := hP
      exact hret r22 (I14, F15, hs16) _ _ _ _ dX9_fitting_100 hP hS h
    · have h := h.2 c21
      refine lv_iconst (v := (-1 : Int32)) hx hb dX9_fitting_90 (by decide) ?_
      refine lv_goto (tgt := 100) hx hb dX9_fitting_91 (by decide) ?_
      exact hret (-1 : Int32) (I14, F15, hs16) _ _ _ _ dX9_fitting_100 hP hS h
  · have h := h.2 c20
    refine lv_iload_n hx hb dX9_fitting_82 rfl (lv_at hl 2 rfl) ?_
    refine lv_goto (tgt := 100) hx hb dX9_fitting_83 (by decide) ?_
    exact hret y17 (I14, F15, hs16) _ _ _ _ dX9_fitting_100 hP hS h
def w_X9_sortsBy (a0 : Int32) (I : Nat → Int32) (F : Nat → Nat → Int32) (hs : Int64) (post : Int32 → Prop) : Prop :=
  ((a0 = (0 : Int32) → post (29 : Int32)) ∧ (a0 = (1 : Int32) → post (11 : Int32)) ∧ (a0 = (2 : Int32) → post (7 : Int32)) ∧ (¬ a0 = (0 : Int32) → ¬ a0 = (1 : Int32) → ¬ a0 = (2 : Int32) → post (15 : Int32)))
set_option maxHeartbeats 4000000 in
set_option maxRecDepth 100000 in
theorem c_X9_sortsBy (l : Launch) (D : va_G) (q : Nat → Nat) (cI cO : ClassId) (hq : mOk q) (a0 : Int32)  (I : Nat → Int32) (F : Nat → Nat → Int32) (hs : Int64) (post : Int32 → Prop) (h : w_X9_sortsBy a0 I F hs post) : Met l yX9_sortsBy wsX9_sortsBy ({ frames := 0, cells := 0, slots := 0, locals := 0 } : Room) (gPre D (mTys cI) (mW q cI cO I F hs) mEnv [.int a0]) (va_Qi (fun r (_ : Unit) => post r) (gB D (fun _ : Unit => mW q cI cO I F hs)) (mA q)) 0 0 (mA q) := by
  refine gMetI (by decide) rfl (Nat.le_of_ble_eq_true rfl) ?_
  intro p e R s m args below meth c Q ls hR hx hb hml hown hts hK hE hP hl hret
  have hRf : 0 ≤ R.frames := by subst hR; exact Nat.le_refl _
  have hRl : 0 ≤ R.locals := by subst hR; exact Nat.le_refl _
  have hown : s.vm.findClass RX9 = some m.cls := hown
  have hl : lv_has ls 1 [(0, .int a0)] := hl
  have hS : va_S (mA q) s.heap s.heap [] := va_S.rf
  have hP : va_P D vwCl (mW q cI cO I F hs) s.heap := hP
  refine lv_iload_n hx hb dX9_sortsBy_0 rfl (lv_at hl 0 rfl) ?_
  by_cases c1_0 : a0 = (0 : Int32)
  · have h := h.1 c1_0
    refine lv_tableIn (tgt := 28) (off := 27) hx hb dX9_sortsBy_1 (by rw [c1_0]; decide) (by rw [c1_0]; decide) (by rw [c1_0]; rfl) (by decide) ?_
    refine lv_bipush (v := (29 : Int32)) hx hb dX9_sortsBy_28 (by decide) ?_
    exact hret (29 : Int32) () _ _ _ _ dX9_sortsBy_30 hP hS h
  by_cases c1_1 : a0 = (1 : Int32)
  · have h := h.2.1 c1_1
    refine lv_tableIn (tgt := 31) (off := 30) hx hb dX9_sortsBy_1 (by rw [c1_1]; decide) (by rw [c1_1]; decide) (by rw [c1_1]; rfl) (by decide) ?_
    refine lv_bipush (v := (11 : Int32)) hx hb dX9_sortsBy_31 (by decide) ?_
    exact hret (11 : Int32) () _ _ _ _ dX9_sortsBy_33 hP hS h
  by_cases c1_2 : a0 = (2 : Int32)
  · have h := h.2.2.1 c1_2
    refine lv_tableIn (tgt := 34) (off := 33) hx hb dX9_sortsBy_1 (by rw [c1_2]; decide) (by rw [c1_2]; decide) (by rw [c1_2]; rfl) (by decide) ?_
    refine lv_bipush (v := (7 : Int32)) hx hb dX9_sortsBy_34 (by decide) ?_
    exact hret (7 : Int32) () _ _ _ _ dX9_sortsBy_36 hP hS h
  have h := h.2.2.2 c1_0 c1_1 c1_2
  have tc1_0 := lv_neT (a := 0) c1_0 rfl
  have tc1_1 := lv_neT (a := 1) c1_1 rfl
  have tc1_2 := lv_neT (a := 2) c1_2 rfl
  refine lv_tableOut (tgt := 37) hx hb dX9_sortsBy_1 (by omega) (by decide) ?_
  refine lv_bipush (v := (15 : Int32)) hx hb dX9_sortsBy_37 (by decide) ?_
  exact hret (15 : Int32) () _ _ _ _ dX9_sortsBy_39 hP hS h
def w_X9_sortsOf_B5 (x1 : Int32) (I : Nat → Int32) (F : Nat → Nat → Int32) (hs : Int64) (k again : Int32 → Int32 → Prop) (x2 : Int32) (x3 : Int32) : Prop :=
  ((((3 : Int32) * (I 11)) ≤ x3 → k x2 x3) ∧ (¬ ((3 : Int32) * (I 11)) ≤ x3 → vp_in x3 18 ∧ ((¬ (F 22 (x3).toNatClampNeg) = x1 → again x2 (x3 + (3 : Int32))) ∧ ((F 22 (x3).toNatClampNeg) = x1 → vp_in (x3 + (1 : Int32)) 18 ∧ w_X9_sortsBy (F 22 ((x3 + (1 : Int32))).toNatClampNeg) I F hs (fun (r3 : Int32) => vp_in (x3 + (2 : Int32)) 18 ∧ ((¬ (F 22 ((x3 + (2 : Int32))).toNatClampNeg) = (1 : Int32) → ∀ v5 : Int32, v5 = (x2 &&& ((31 : Int32) - r3)) → again v5 (x3 + (3 : Int32))) ∧ ((F 22 ((x3 + (2 : Int32))).toNatClampNeg) = (1 : Int32) → ∀ v6 : Int32, v6 = (x2 &&& r3) → again v6 (x3 + (3 : Int32)))))))))
def w_X9_sortsOf (a1 : Int32) (I : Nat → Int32) (F : Nat → Nat → Int32) (hs : Int64) (post : Int32 → Prop) : Prop :=
  gL (fun ag v => w_X9_sortsOf_B5 a1 I F hs (fun (y7 : Int32) (y8 : Int32) => post y7) (fun b0 b1 => ag (b0, b1)) v.1 v.2) ((31 : Int32), (0 : Int32))
set_option maxHeartbeats 4000000 in
set_option maxRecDepth 100000 in
theorem c_X9_sortsOf (l : Launch) (D : va_G) (q : Nat → Nat) (cI cO : ClassId) (hq : mOk q) (a1 : Int32)  (I : Nat → Int32) (F : Nat → Nat → Int32) (hs : Int64) (post : Int32 → Prop) (h : w_X9_sortsOf a1 I F hs post) : Met l yX9_sortsOf wsX9_sortsOf ({ frames := 1, cells := 0, slots := 0, locals := 20 } : Room) (gPre D (mTys cI) (mW q cI cO I F hs) mEnv [.ref (q 0), .int a1]) (va_Qi (fun r (_ : Unit) => post r) (gB D (fun _ : Unit => mW q cI cO I F hs)) (mA q)) 0 0 (mA q) := by
  refine gMetI (by decide) rfl (Nat.le_of_ble_eq_true rfl) ?_
  intro p e R s m args below meth c Q ls hR hx hb hml hown hts hK hE hP hl hret
  have hRf : 1 ≤ R.frames := by subst hR; exact Nat.le_refl _
  have hRl : 20 ≤ R.locals := by subst hR; exact Nat.le_refl _
  have hown : s.vm.findClass RX9 = some m.cls := hown
  have hl : lv_has ls 5 [(0, .ref (q 0)), (1, .int a1)] := hl
  have hS : va_S (mA q) s.heap s.heap [] := va_S.rf
  have hP : va_P D vwCl (mW q cI cO I F hs) s.heap := hP
  have L5 : ∀ (n : Nat) (x1 : Int32) (k : Int32 → Int32 → Prop) (x2 : Int32) (x3 : Int32) (H : Heap) (locs : List Loc) (ls : Array Slot), va_P D vwCl (mW q cI cO I F hs) H → va_S (mA q) s.heap H locs → lv_has ls 5 [(0, .ref (q 0)), (1, .int x1), (2, .int x2), (3, .int x3)] → gLN (fun ag v => w_X9_sortsOf_B5 x1 I F hs k (fun b0 b1 => ag (b0, b1)) v.1 v.2) n (x2, x3) → (∀ (x2 : Int32) (x3 : Int32) (H : Heap) (locs : List Loc) (ls : Array Slot), va_P D vwCl (mW q cI cO I F hs) H → va_S (mA q) s.heap H locs → lv_has ls 5 [(2, .int x2)] → k x2 x3 → W p l e R s m args below meth c H locs 0 0 Q (F0 m 69 ls [])) → W p l e R s m args below meth c H locs 0 0 Q (F0 m 5 ls []) := by
    intro n
    induction n with
    | zero =>
      intro x1 k x2 x3 H locs ls  hP hS hl h K
      exact False.elim h
    | succ n ih =>
      intro x1 k x2 x3 H locs ls  hP hS hl h K
      have h : w_X9_sortsOf_B5 x1 I F hs k (fun b0 b1 => gLN (fun ag v => w_X9_sortsOf_B5 x1 I F hs k (fun b0 b1 => ag (b0, b1)) v.1 v.2) n (b0, b1)) x2 x3 := h
      refine lv_iload_n hx hb dX9_sortsOf_5 rfl (lv_at hl 3 rfl) ?_
      refine lv_iconst (v := (3 : Int32)) hx hb dX9_sortsOf_6 (by decide) ?_
      refine lv_aload_n hx hb dX9_sortsOf_7 rfl (lv_at hl 0 rfl) ?_
      refine va_get (D := D) (ci := 9) (v := .int (I 11)) (C := RX9) (T := TX9) (N := 44) hx hb hts (fun _ h9 => List.mem_cons_of_mem _ (List.mem_append_right _ h9)) hown hK hP 0 mAt0 rfl 32 (by decide) (hts _ (List.mem_of_getElem? (l := wsX9_sortsOf) (i := 1) rfl)) (fun _ h9 => h9) rfl dX9_sortsOf_8 ?_
      refine lv_imul hx hb dX9_sortsOf_11 ?_
      refine lv_icmp_ge (tgt := 69) hx hb dX9_sortsOf_12 (by decide) (fun c1 => ?_) (fun c1 => ?_)
      · have h := h.1 c1
        exact K x2 x3 _ _ _  hP hS (lv_sub hl [2] rfl) h
      · have h := h.2 c1
        refine lv_aload_n hx hb dX9_sortsOf_15 rfl (lv_at hl 0 rfl) ?_
        refine va_get (D := D) (ci := 9) (v := .ref (q 22)) (C := RX9) (T := TX9) (N := 44) hx hb hts (fun _ h9 => List.mem_cons_of_mem _ (List.mem_append_right _ h9)) hown hK hP 0 mAt0 rfl 33 (by decide) (hts _ (List.mem_of_getElem? (l := wsX9_sortsOf) (i := 2) rfl)) (fun _ h9 => h9) rfl dX9_sortsOf_16 ?_
        refine lv_iload_n hx hb dX9_sortsOf_19 rfl (lv_at hl 3 rfl) ?_
        refine va_iald (D := D) hx hb hK hP 22 0 mAr22 rfl h.1 dX9_sortsOf_20 ?_
        have h := h.2
        refine lv_iload_n hx hb dX9_sortsOf_21 rfl (lv_at hl 1 rfl) ?_
        refine lv_icmp_ne (tgt := 63) hx hb dX9_sortsOf_22 (by decide) (fun c2 => ?_) (fun c2 => ?_)
        · have h := h.1 c2
          refine lv_iinc (v := (x3 + (3 : Int32))) (lv' := [(3, .int (x3 + (3 : Int32))), (0, .ref (q 0)), (1, .int x1), (2, .int x2)]) hx hb dX9_sortsOf_63 hl (k := 3) rfl rfl (by decide) rfl (fun ls hl => ?_)
          refine lv_goto (tgt := 5) hx hb dX9_sortsOf_66 (by decide) ?_
          exact ih x1 _ x2 (x3 + (3 : Int32)) _ _ _  hP hS (lv_sub hl [1, 2, 3, 0] rfl) h K
        · have h := h.2 c2
          refine lv_aload_n hx hb dX9_sortsOf_25 rfl (lv_at hl 0 rfl) ?_
          refine va_get (D := D) (ci := 9) (v := .ref (q 22)) (C := RX9) (T := TX9) (N := 44) hx hb hts (fun _ h9 => List.mem_cons_of_mem _ (List.mem_append_right _ h9)) hown hK hP 0 mAt0 rfl 33 (by decide) (hts _ (List.mem_of_getElem? (l := wsX9_sortsOf) (i := 2) rfl)) (fun _ h9 => h9) rfl dX9_sortsOf_26 ?_
          refine lv_iload_n hx hb dX9_sortsOf_29 rfl (lv_at hl 3 rfl) ?_
          refine lv_iconst (v := (1 : Int32)) hx hb dX9_sortsOf_30 (by decide) ?_
          refine lv_iadd hx hb dX9_sortsOf_31 ?_
          refine va_iald (D := D) hx hb hK hP 22 0 mAr22 rfl h.1 dX9_sortsOf_32 ?_
          have h := h.2
          refine gCallI (D := D) (va_runS (As := [.int (F 22 ((x3 + (1 : Int32))).toNatClampNeg)]) (rest := []) ⟨hx, hb, hml, hown, hts⟩ (c_X9_sortsBy l D q cI cO hq (F 22 ((x3 + (1 : Int32))).toNatClampNeg)  I F hs _ h) (va_cwS 1 hts gX9_sortsOf_X9_sortsBy rfl rfl rfl (by decide +kernel) ⟨Nat.le_trans (Nat.le_of_ble_eq_true rfl) hRf, Nat.le_trans (Nat.le_of_ble_eq_true rfl) hRl⟩) (gPreS mEok hE hK hP hS) rfl rfl hl.1 rfl (lv_room (Nat.le_of_ble_eq_true rfl)) dX9_sortsOf_33 ⟨Nat.zero_le _, Nat.zero_le _⟩) hS (fun r3 _ H locs hP hS h => ?_)
          have hP : va_P D vwCl (mW q cI cO I F hs) H := hP
          refine lv_istore (lv' := [(4, .int r3), (0, .ref (q 0)), (1, .int x1), (2, .int x2), (3, .int x3)]) hx hb dX9_sortsOf_36 hl (by decide) rfl (fun ls hl => ?_)
          refine lv_iload_n hx hb dX9_sortsOf_38 rfl (lv_at hl 3 rfl) ?_
          refine lv_aload_n hx hb dX9_sortsOf_39 rfl (lv_at hl 1 rfl) ?_
          refine va_get (D := D) (ci := 9) (v := .ref (q 22)) (C := RX9) (T := TX9) (N := 44) hx hb hts (fun _ h9 => List.mem_cons_of_mem _ (List.mem_append_right _ h9)) hown hK hP 0 mAt0 rfl 33 (by decide) (hts _ (List.mem_of_getElem? (l := wsX9_sortsOf) (i := 2) rfl)) (fun _ h9 => h9) rfl dX9_sortsOf_40 ?_
          refine lv_iload_n hx hb dX9_sortsOf_43 rfl (lv_at hl 4 rfl) ?_
          refine lv_iconst (v := (2 : Int32)) hx hb dX9_sortsOf_44 (by decide) ?_
          refine lv_iadd hx hb dX9_sortsOf_45 ?_
          refine va_iald (D := D) hx hb hK hP 22 0 mAr22 rfl h.1 dX9_sortsOf_46 ?_
          have h := h.2
          refine lv_iconst (v := (1 : Int32)) hx hb dX9_sortsOf_47 (by decide) ?_
          refine lv_icmp_ne (tgt := 56) hx hb dX9_sortsOf_48 (by decide) (fun c4 => ?_) (fun c4 => ?_)
          · have h := h.1 c4
            refine lv_bipush (v := (31 : Int32)) hx hb dX9_sortsOf_56 (by decide) ?_
            refine lv_iload hx hb dX9_sortsOf_58 (lv_at hl 0 rfl) ?_
            refine lv_isub hx hb dX9_sortsOf_60 ?_
            refine lv_iand hx hb dX9_sortsOf_61 ?_
            refine lv_topi (fun v5 ev5 => ?_)
            have h := h v5 ev5
            refine lv_istore_n (lv' := [(2, .int v5), (4, .int r3), (0, .ref (q 0)), (1, .int x1), (3, .int x3)]) hx hb dX9_sortsOf_62 rfl hl (by decide) rfl (fun ls hl => ?_)
            refine lv_iinc (v := (x3 + (3 : Int32))) (lv' := [(3, .int (x3 + (3 : Int32))), (2, .int v5), (4, .int r3), (0, .ref (q 0)), (1, .int x1)]) hx hb dX9_sortsOf_63 hl (k := 4) rfl rfl (by decide) rfl (fun ls hl => ?_)
            refine lv_goto (tgt := 5) hx hb dX9_sortsOf_66 (by decide) ?_
            exact ih x1 _ v5 (x3 + (3 : Int32)) _ _ _  hP hS (lv_sub hl [3, 4, 1, 0] rfl) h K
          · have h := h.2 c4
            refine lv_iload hx hb dX9_sortsOf_51 (lv_at hl 0 rfl) ?_
            refine lv_goto (tgt := 61) hx hb dX9_sortsOf_53 (by decide) ?_
            refine lv_iand hx hb dX9_sortsOf_61 ?_
            refine lv_topi (fun v6 ev6 => ?_)
            have h := h v6 ev6
            refine lv_istore_n (lv' := [(2, .int v6), (4, .int r3), (0, .ref (q 0)), (1, .int x1), (3, .int x3)]) hx hb dX9_sortsOf_62 rfl hl (by decide) rfl (fun ls hl => ?_)
            refine lv_iinc (v := (x3 + (3 : Int32))) (lv' := [(3, .int (x3 + (3 : Int32))), (2, .int v6), (4, .int r3), (0, .ref (q 0)), (1, .int x1)]) hx hb dX9_sortsOf_63 hl (k := 4) rfl rfl (by decide) rfl (fun ls hl => ?_)
            refine lv_goto (tgt := 5) hx hb dX9_sortsOf_66 (by decide) ?_
            exact ih x1 _ v6 (x3 + (3 : Int32)) _ _ _  hP hS (lv_sub hl [3, 4, 1, 0] rfl) h K
  refine lv_bipush (v := (31 : Int32)) hx hb dX9_sortsOf_0 (by decide) ?_
  refine lv_istore_n (lv' := [(2, .int (31 : Int32)), (0, .ref (q 0)), (1, .int a1)]) hx hb dX9_sortsOf_2 rfl hl (by decide) rfl (fun ls hl => ?_)
  refine lv_iconst (v := (0 : Int32)) hx hb dX9_sortsOf_3 (by decide) ?_
  refine lv_istore_n (lv' := [(3, .int (0 : Int32)), (2, .int (31 : Int32)), (0, .ref (q 0)), (1, .int a1)]) hx hb dX9_sortsOf_4 rfl hl (by decide) rfl (fun ls hl => ?_)
  obtain ⟨n, h⟩ := h
  refine L5 n a1 _ (31 : Int32) (0 : Int32) _ _ _  hP hS (lv_sub hl [2, 3, 1, 0] rfl) h (fun y7 y8 H locs ls  hP hS hl h => ?_)
  refine lv_iload_n hx hb dX9_sortsOf_69 rfl (lv_at hl 0 rfl) ?_
  exact hret y7 () _ _ _ _ dX9_sortsOf_70 hP hS h
