/-! the reference's constructor, from its tables on -/
theorem gCallVA {p : Program} {l : Launch} {e : Env} {R : Room} {s : State} {m : MethodId} {args : Array Value} {below : List Frame} {meth : Method} {c : Code} {H : Heap} {locs : List Loc} {cells slots : Nat} {Q : State → Prop} {pc : Nat} {ls : Array Slot} {rest st0 : List Value} {D : va_G} {A1 A : Nat → Prop} {H0 : Heap} {av : Array Value} {S : Type} {post : S → Prop} {Wd : S → va_W} (hr : va_Run p l e R s m args below meth c H locs cells slots 0 0 (F0 m pc ls st0) rest (va_Qv post (gB D Wd) A1 av) A1) (hS : va_S A H0 H locs) (hsub : ∀ q, A1 q → A q)
    (kk : ∀ (u : S) (H1 : Heap) (locs1 : List Loc), va_P D vwCl (Wd u) H1 → va_S A H0 H1 locs1 → post u → W p l e R s m args below meth c H1 locs1 cells slots Q (F0 m (pc + 3) ls rest)) : W p l e R s m args below meth c H locs cells slots Q (F0 m pc ls st0) :=
  va_callv hr hS (fun q _ h => hsub q h) hsub (fun u t H1 locs1 ht _ hw hB _ _ hS1 => kk u H1 locs1 (by rw [← ht]; exact hB) hS1 hw)
theorem mEokA {A : Nat → Prop} : gEok mEnv A := ⟨fun _ _ _ _ _ => trivial, fun _ _ _ _ _ _ => trivial⟩
theorem mAsub {q : Nat → Nat} {A : Nat → Prop} (hAq : ∀ k, k < 26 → A (q k)) : ∀ x, mA q x → A x := fun x ⟨k, h1, h2⟩ => by rw [h2]; exact hAq k h1
theorem mDA {q : Nat → Nat} {A : Nat → Prop} {cI cO : ClassId} {I : Nat → Int32} {F : Nat → Nat → Int32} {h : Int64} (hq : mOk q) (hAq : ∀ k, k < 26 → A (q k)) : va_D A (mW q cI cO I F h) := ⟨(mD hq).1, fun k x hk => mAsub hAq _ ((mD hq).2 k x hk)⟩
def w_X9_tail_B216  (k again : Int32 → (Nat → Int32) → (Nat → Nat → Int32) → Int64 → Prop) (x1 : Int32) (I : Nat → Int32) (F : Nat → Nat → Int32) (hs : Int64) : Prop :=
  (((7 : Int32) ≤ x1 → k x1 I F hs) ∧ (¬ (7 : Int32) ≤ x1 → ((¬ x1 = 0 → vp_in (x1 - (1 : Int32)) 7 ∧ vp_in x1 7 ∧ ∀ F3 : Nat → Nat → Int32, F3 = upF F 1 (upd (F 1) (x1).toNatClampNeg ((F 1 ((x1 - (1 : Int32))).toNatClampNeg) / (3 : Int32))) → ((¬ x1 = 0 → ((¬ x1 = (1 : Int32) → ((¬ x1 = (2 : Int32) → ((¬ x1 = (3 : Int32) → ((¬ x1 = (4 : Int32) → ((¬ x1 = (5 : Int32) → vp_in x1 7 ∧ ∀ F10 : Nat → Nat → Int32, F10 = upF F3 2 (upd (F3 2) (x1).toNatClampNeg (9 : Int32)) → again (x1 + (1 : Int32)) I F10 hs) ∧ (x1 = (5 : Int32) → vp_in x1 7 ∧ ∀ F11 : Nat → Nat → Int32, F11 = upF F3 2 (upd (F3 2) (x1).toNatClampNeg (7 : Int32)) → again (x1 + (1 : Int32)) I F11 hs))) ∧ (x1 = (4 : Int32) → vp_in x1 7 ∧ ∀ F12 : Nat → Nat → Int32, F12 = upF F3 2 (upd (F3 2) (x1).toNatClampNeg (5 : Int32)) → again (x1 + (1 : Int32)) I F12 hs))) ∧ (x1 = (3 : Int32) → vp_in x1 7 ∧ ∀ F13 : Nat → Nat → Int32, F13 = upF F3 2 (upd (F3 2) (x1).toNatClampNeg (4 : Int32)) → again (x1 + (1 : Int32)) I F13 hs))) ∧ (x1 = (2 : Int32) → vp_in x1 7 ∧ ∀ F14 : Nat → Nat → Int32, F14 = upF F3 2 (upd (F3 2) (x1).toNatClampNeg (11 : Int32)) → again (x1 + (1 : Int32)) I F14 hs))) ∧ (x1 = (1 : Int32) → vp_in x1 7 ∧ ∀ F15 : Nat → Nat → Int32, F15 = upF F3 2 (upd (F3 2) (x1).toNatClampNeg (0 : Int32)) → again (x1 + (1 : Int32)) I F15 hs))) ∧ (x1 = 0 → vp_in x1 7 ∧ ∀ F16 : Nat → Nat → Int32, F16 = upF F3 2 (upd (F3 2) (x1).toNatClampNeg (2 : Int32)) → again (x1 + (1 : Int32)) I F16 hs))) ∧ (x1 = 0 → vp_in x1 7 ∧ ∀ F17 : Nat → Nat → Int32, F17 = upF F 1 (upd (F 1) (x1).toNatClampNeg (729 : Int32)) → ((¬ x1 = 0 → ((¬ x1 = (1 : Int32) → ((¬ x1 = (2 : Int32) → ((¬ x1 = (3 : Int32) → ((¬ x1 = (4 : Int32) → ((¬ x1 = (5 : Int32) → vp_in x1 7 ∧ ∀ F24 : Nat → Nat → Int32, F24 = upF F17 2 (upd (F17 2) (x1).toNatClampNeg (9 : Int32)) → again (x1 + (1 : Int32)) I F24 hs) ∧ (x1 = (5 : Int32) → vp_in x1 7 ∧ ∀ F25 : Nat → Nat → Int32, F25 = upF F17 2 (upd (F17 2) (x1).toNatClampNeg (7 : Int32)) → again (x1 + (1 : Int32)) I F25 hs))) ∧ (x1 = (4 : Int32) → vp_in x1 7 ∧ ∀ F26 : Nat → Nat → Int32, F26 = upF F17 2 (upd (F17 2) (x1).toNatClampNeg (5 : Int32)) → again (x1 + (1 : Int32)) I F26 hs))) ∧ (x1 = (3 : Int32) → vp_in x1 7 ∧ ∀ F27 : Nat → Nat → Int32, F27 = upF F17 2 (upd (F17 2) (x1).toNatClampNeg (4 : Int32)) → again (x1 + (1 : Int32)) I F27 hs))) ∧ (x1 = (2 : Int32) → vp_in x1 7 ∧ ∀ F28 : Nat → Nat → Int32, F28 = upF F17 2 (upd (F17 2) (x1).toNatClampNeg (11 : Int32)) → again (x1 + (1 : Int32)) I F28 hs))) ∧ (x1 = (1 : Int32) → vp_in x1 7 ∧ ∀ F29 : Nat → Nat → Int32, F29 = upF F17 2 (upd (F17 2) (x1).toNatClampNeg (0 : Int32)) → again (x1 + (1 : Int32)) I F29 hs))) ∧ (x1 = 0 → vp_in x1 7 ∧ ∀ F30 : Nat → Nat → Int32, F30 = upF F17 2 (upd (F17 2) (x1).toNatClampNeg (2 : Int32)) → again (x1 + (1 : Int32)) I F30 hs))))))
def w_X9_tail  (I : Nat → Int32) (F : Nat → Nat → Int32) (hs : Int64) (post : (Nat → Int32) → (Nat → Nat → Int32) → Int64 → Prop) : Prop :=
  ∀ I31 : Nat → Int32, I31 = upd I 14 (-1 : Int32) → gL (fun ag v => w_X9_tail_B216  (fun (y32 : Int32) (I33 : Nat → Int32) (F34 : Nat → Nat → Int32) (hs35 : Int64) => w_X9_layOptions I33 F34 hs35 (fun (I36 : Nat → Int32) (F37 : Nat → Nat → Int32) (hs38 : Int64) => w_X9_layTables I36 F37 hs38 (fun (I39 : Nat → Int32) (F40 : Nat → Nat → Int32) (hs41 : Int64) => post I39 F40 hs41))) (fun b0 b1 b2 b3 => ag (b0, b1, b2, b3)) v.1 v.2.1 v.2.2.1 v.2.2.2) ((0 : Int32), I31, F, hs)
set_option maxHeartbeats 4000000 in
set_option maxRecDepth 100000 in
theorem t_X9_init {p : Program} {l : Launch} {e : Env} {R : Room} {s : State} {m : MethodId} {args : Array Value} {below : List Frame} {meth : Method} {c : Code} {Q : State → Prop} {cells slots : Nat} {D : va_G} {q : Nat → Nat} {cI cO : ClassId} {A : Nat → Prop} (hq : mOk q) (hAq : ∀ k, k < 26 → A (q k)) (hx : p.tables.exec = Jvm.exec) (hb : c.code = cX9_init) (hml : c.maxLocals = 2) (hown : s.vm.findClass RX9 = some m.cls) (hts : ∀ w ∈ wsX9_init, w.before args s = true) (hK : va_K D vwCl (mTys cI) s) (hRf : 3 ≤ R.frames) (hRl : 68 ≤ R.locals) (hRc : cells ≤ R.cells) (hRs : slots ≤ R.slots) (I : Nat → Int32) (F : Nat → Nat → Int32) (hs : Int64) (post : (Nat → Int32) → (Nat → Nat → Int32) → Int64 → Prop) (h : w_X9_tail I F hs post) {H : Heap} {locs : List Loc} {ls : Array Slot} (hP : va_P D vwCl (mW q cI cO I F hs) H) (hS : va_S A s.heap H locs) (hl : lv_has ls 2 [(0, .ref (q 0))]) (hret : ∀ (I : Nat → Int32) (F : Nat → Nat → Int32) (hs : Int64) (H : Heap) (locs : List Loc) (ls : Array Slot), va_P D vwCl (mW q cI cO I F hs) H → va_S A s.heap H locs → post I F hs → W p l e R s m args below meth c H locs cells slots Q (F0 m 325 ls [])) : W p l e R s m args below meth c H locs cells slots Q (F0 m 209 ls []) := by
  have hE : mEnv s := trivial
  have L216 : ∀ (n : Nat)  (k : Int32 → (Nat → Int32) → (Nat → Nat → Int32) → Int64 → Prop) (x1 : Int32) (I : Nat → Int32) (F : Nat → Nat → Int32) (hs : Int64) (H : Heap) (locs : List Loc) (ls : Array Slot), va_P D vwCl (mW q cI cO I F hs) H → va_S A s.heap H locs → lv_has ls 2 [(0, .ref (q 0)), (1, .int x1)] → gLN (fun ag v => w_X9_tail_B216  k (fun b0 b1 b2 b3 => ag (b0, b1, b2, b3)) v.1 v.2.1 v.2.2.1 v.2.2.2) n (x1, I, F, hs) → (∀ (x1 : Int32) (I : Nat → Int32) (F : Nat → Nat → Int32) (hs : Int64) (H : Heap) (locs : List Loc) (ls : Array Slot), va_P D vwCl (mW q cI cO I F hs) H → va_S A s.heap H locs → lv_has ls 2 [(0, .ref (q 0))] → k x1 I F hs → W p l e R s m args below meth c H locs cells slots Q (F0 m 317 ls [])) → W p l e R s m args below meth c H locs cells slots Q (F0 m 216 ls []) := by
    intro n
    induction n with
    | zero =>
      intro  k x1 I F hs H locs ls  hP hS hl h K
      exact False.elim h
    | succ n ih =>
      intro  k x1 I F hs H locs ls  hP hS hl h K
      have h : w_X9_tail_B216  k (fun b0 b1 b2 b3 => gLN (fun ag v => w_X9_tail_B216  k (fun b0 b1 b2 b3 => ag (b0, b1, b2, b3)) v.1 v.2.1 v.2.2.1 v.2.2.2) n (b0, b1, b2, b3)) x1 I F hs := h
      refine lv_iload_n hx hb dX9_init_216 rfl (lv_at hl 1 rfl) ?_
      refine lv_bipush (v := (7 : Int32)) hx hb dX9_init_217 (by decide) ?_
      refine lv_icmp_ge (tgt := 317) hx hb dX9_init_219 (by decide) (fun c1 => ?_) (fun c1 => ?_)
      · have h := h.1 c1
        exact K x1 I F hs _ _ _  hP hS (lv_sub hl [0] rfl) h
      · have h := h.2 c1
        refine lv_aload_n hx hb dX9_init_222 rfl (lv_at hl 0 rfl) ?_
        refine va_get (D := D) (ci := 9) (v := .ref (q 1)) (C := RX9) (T := TX9) (N := 44) hx hb hts (fun _ h9 => List.mem_cons_of_mem _ (List.mem_append_right _ h9)) hown hK hP 0 mAt0 rfl 0 (by decide) (hts _ (List.mem_of_getElem? (l := wsX9_init) (i := 5) rfl)) (fun _ h9 => h9) rfl dX9_init_223 ?_
        refine lv_iload_n hx hb dX9_init_226 rfl (lv_at hl 1 rfl) ?_
        refine lv_iload_n hx hb dX9_init_227 rfl (lv_at hl 1 rfl) ?_
        refine lv_if_ne (tgt := 237) hx hb dX9_init_228 (by decide) (fun c2 => ?_) (fun c2 => ?_)
        · have h := h.1 c2
          refine lv_aload_n hx hb dX9_init_237 rfl (lv_at hl 0 rfl) ?_
          refine va_get (D := D) (ci := 9) (v := .ref (q 1)) (C := RX9) (T := TX9) (N := 44) hx hb hts (fun _ h9 => List.mem_cons_of_mem _ (List.mem_append_right _ h9)) hown hK hP 0 mAt0 rfl 0 (by decide) (hts _ (List.mem_of_getElem? (l := wsX9_init) (i := 5) rfl)) (fun _ h9 => h9) rfl dX9_init_238 ?_
          refine lv_iload_n hx hb dX9_init_241 rfl (lv_at hl 1 rfl) ?_
          refine lv_iconst (v := (1 : Int32)) hx hb dX9_init_242 (by decide) ?_
          refine lv_isub hx hb dX9_init_243 ?_
          refine va_iald (D := D) hx hb hK hP 1 0 mAr1 rfl h.1 dX9_init_244 ?_
          have h := h.2
          refine lv_iconst (v := (3 : Int32)) hx hb dX9_init_245 (by decide) ?_
          refine lv_idiv hx hb dX9_init_246 (by decide) ?_
          refine gAst (D := D) hx hb hK hP (mDA hq hAq) hS 1 0 mAr1 rfl h.1 dX9_init_247 (mSA1 _) (fun H locs hP hS => ?_)
          obtain ⟨F3, eF3⟩ : ∃ z : Nat → Nat → Int32, z = upF F 1 (upd (F 1) (x1).toNatClampNeg ((F 1 ((x1 - (1 : Int32))).toNatClampNeg) / (3 : Int32))) := ⟨_, rfl⟩
          rw [← eF3] at hP
          have h := h.2 F3 eF3
          refine lv_aload_n hx hb dX9_init_248 rfl (lv_at hl 0 rfl) ?_
          refine va_get (D := D) (ci := 9) (v := .ref (q 2)) (C := RX9) (T := TX9) (N := 44) hx hb hts (fun _ h9 => List.mem_cons_of_mem _ (List.mem_append_right _ h9)) hown hK hP 0 mAt0 rfl 1 (by decide) (hts _ (List.mem_of_getElem? (l := wsX9_init) (i := 6) rfl)) (fun _ h9 => h9) rfl dX9_init_249 ?_
          refine lv_iload_n hx hb dX9_init_252 rfl (lv_at hl 1 rfl) ?_
          refine lv_iload_n hx hb dX9_init_253 rfl (lv_at hl 1 rfl) ?_
          refine lv_if_ne (tgt := 261) hx hb dX9_init_254 (by decide) (fun c4 => ?_) (fun c4 => ?_)
          · have h := h.1 c4
            refine lv_iload_n hx hb dX9_init_261 rfl (lv_at hl 1 rfl) ?_
            refine lv_iconst (v := (1 : Int32)) hx hb dX9_init_262 (by decide) ?_
            refine lv_icmp_ne (tgt := 270) hx hb dX9_init_263 (by decide) (fun c5 => ?_) (fun c5 => ?_)
            · have h := h.1 c5
              refine lv_iload_n hx hb dX9_init_270 rfl (lv_at hl 1 rfl) ?_
              refine lv_iconst (v := (2 : Int32)) hx hb dX9_init_271 (by decide) ?_
              refine lv_icmp_ne (tgt := 280) hx hb dX9_init_272 (by decide) (fun c6 => ?_) (fun c6 => ?_)
              · have h := h.1 c6
                refine lv_iload_n hx hb dX9_init_280 rfl (lv_at hl 1 rfl) ?_
                refine lv_iconst (v := (3 : Int32)) hx hb dX9_init_281 (by decide) ?_
                refine lv_icmp_ne (tgt := 289) hx hb dX9_init_282 (by decide) (fun c7 => ?_) (fun c7 => ?_)
                · have h := h.1 c7
                  refine lv_iload_n hx hb dX9_init_289 rfl (lv_at hl 1 rfl) ?_
                  refine lv_iconst (v := (4 : Int32)) hx hb dX9_init_290 (by decide) ?_
                  refine lv_icmp_ne (tgt := 298) hx hb dX9_init_291 (by decide) (fun c8 => ?_) (fun c8 => ?_)
                  · have h := h.1 c8
                    refine lv_iload_n hx hb dX9_init_298 rfl (lv_at hl 1 rfl) ?_
                    refine lv_iconst (v := (5 : Int32)) hx hb dX9_init_299 (by decide) ?_
                    refine lv_icmp_ne (tgt := 308) hx hb dX9_init_300 (by decide) (fun c9 => ?_) (fun c9 => ?_)
                    · have h := h.1 c9
                      refine lv_bipush (v := (9 : Int32)) hx hb dX9_init_308 (by decide) ?_
                      refine gAst (D := D) hx hb hK hP (mDA hq hAq) hS 2 0 mAr2 rfl h.1 dX9_init_310 (mSA2 _) (fun H locs hP hS => ?_)
                      obtain ⟨F10, eF10⟩ : ∃ z : Nat → Nat → Int32, z = upF F3 2 (upd (F3 2) (x1).toNatClampNeg (9 : Int32)) := ⟨_, rfl⟩
                      rw [← eF10] at hP
                      have h := h.2 F10 eF10
                      refine lv_iinc (v := (x1 + (1 : Int32))) (lv' := [(1, .int (x1 + (1 : Int32))), (0, .ref (q 0))]) hx hb dX9_init_311 hl (k := 1) rfl rfl (by decide) rfl (fun ls hl => ?_)
                      refine lv_goto (tgt := 216) hx hb dX9_init_314 (by decide) ?_
                      exact ih  _ (x1 + (1 : Int32)) I F10 hs _ _ _  hP hS (lv_sub hl [1, 0] rfl) h K
                    · have h := h.2 c9
                      refine lv_bipush (v := (7 : Int32)) hx hb dX9_init_303 (by decide) ?_
                      refine lv_goto (tgt := 310) hx hb dX9_init_305 (by decide) ?_
                      refine gAst (D := D) hx hb hK hP (mDA hq hAq) hS 2 0 mAr2 rfl h.1 dX9_init_310 (mSA2 _) (fun H locs hP hS => ?_)
                      obtain ⟨F11, eF11⟩ : ∃ z : Nat → Nat → Int32, z = upF F3 2 (upd (F3 2) (x1).toNatClampNeg (7 : Int32)) := ⟨_, rfl⟩
                      rw [← eF11] at hP
                      have h := h.2 F11 eF11
                      refine lv_iinc (v := (x1 + (1 : Int32))) (lv' := [(1, .int (x1 + (1 : Int32))), (0, .ref (q 0))]) hx hb dX9_init_311 hl (k := 1) rfl rfl (by decide) rfl (fun ls hl => ?_)
                      refine lv_goto (tgt := 216) hx hb dX9_init_314 (by decide) ?_
                      exact ih  _ (x1 + (1 : Int32)) I F11 hs _ _ _  hP hS (lv_sub hl [1, 0] rfl) h K
                  · have h := h.2 c8
                    refine lv_iconst (v := (5 : Int32)) hx hb dX9_init_294 (by decide) ?_
                    refine lv_goto (tgt := 310) hx hb dX9_init_295 (by decide) ?_
                    refine gAst (D := D) hx hb hK hP (mDA hq hAq) hS 2 0 mAr2 rfl h.1 dX9_init_310 (mSA2 _) (fun H locs hP hS => ?_)
                    obtain ⟨F12, eF12⟩ : ∃ z : Nat → Nat → Int32, z = upF F3 2 (upd (F3 2) (x1).toNatClampNeg (5 : Int32)) := ⟨_, rfl⟩
                    rw [← eF12] at hP
                    have h := h.2 F12 eF12
                    refine lv_iinc (v := (x1 + (1 : Int32))) (lv' := [(1, .int (x1 + (1 : Int32))), (0, .ref (q 0))]) hx hb dX9_init_311 hl (k := 1) rfl rfl (by decide) rfl (fun ls hl => ?_)
                    refine lv_goto (tgt := 216) hx hb dX9_init_314 (by decide) ?_
                    exact ih  _ (x1 + (1 : Int32)) I F12 hs _ _ _  hP hS (lv_sub hl [1, 0] rfl) h K
                · have h := h.2 c7
                  refine lv_iconst (v := (4 : Int32)) hx hb dX9_init_285 (by decide) ?_
                  refine lv_goto (tgt := 310) hx hb dX9_init_286 (by decide) ?_
                  refine gAst (D := D) hx hb hK hP (mDA hq hAq) hS 2 0 mAr2 rfl h.1 dX9_init_310 (mSA2 _) (fun H locs hP hS => ?_)
                  obtain ⟨F13, eF13⟩ : ∃ z : Nat → Nat → Int32, z = upF F3 2 (upd (F3 2) (x1).toNatClampNeg (4 : Int32)) := ⟨_, rfl⟩
                  rw [← eF13] at hP
                  have h := h.2 F13 eF13
                  refine lv_iinc (v := (x1 + (1 : Int32))) (lv' := [(1, .int (x1 + (1 : Int32))), (0, .ref (q 0))]) hx hb dX9_init_311 hl (k := 1) rfl rfl (by decide) rfl (fun ls hl => ?_)
                  refine lv_goto (tgt := 216) hx hb dX9_init_314 (by decide) ?_
                  exact ih  _ (x1 + (1 : Int32)) I F13 hs _ _ _  hP hS (lv_sub hl [1, 0] rfl) h K
              · have h := h.2 c6
                refine lv_bipush (v := (11 : Int32)) hx hb dX9_init_275 (by decide) ?_
                refine lv_goto (tgt := 310) hx hb dX9_init_277 (by decide) ?_
                refine gAst (D := D) hx hb hK hP (mDA hq hAq) hS 2 0 mAr2 rfl h.1 dX9_init_310 (mSA2 _) (fun H locs hP hS => ?_)
                obtain ⟨F14, eF14⟩ : ∃ z : Nat → Nat → Int32, z = upF F3 2 (upd (F3 2) (x1).toNatClampNeg (11 : Int32)) := ⟨_, rfl⟩
                rw [← eF14] at hP
                have h := h.2 F14 eF14
                refine lv_iinc (v := (x1 + (1 : Int32))) (lv' := [(1, .int (x1 + (1 : Int32))), (0, .ref (q 0))]) hx hb dX9_init_311 hl (k := 1) rfl rfl (by decide) rfl (fun ls hl => ?_)
                refine lv_goto (tgt := 216) hx hb dX9_init_314 (by decide) ?_
                exact ih  _ (x1 + (1 : Int32)) I F14 hs _ _ _  hP hS (lv_sub hl [1, 0] rfl) h K
            · have h := h.2 c5
              refine lv_iconst (v := (0 : Int32)) hx hb dX9_init_266 (by decide) ?_
              refine lv_goto (tgt := 310) hx hb dX9_init_267 (by decide) ?_
              refine gAst (D := D) hx hb hK hP (mDA hq hAq) hS 2 0 mAr2 rfl h.1 dX9_init_310 (mSA2 _) (fun H locs hP hS => ?_)
              obtain ⟨F15, eF15⟩ : ∃ z : Nat → Nat → Int32, z = upF F3 2 (upd (F3 2) (x1).toNatClampNeg (0 : Int32)) := ⟨_, rfl⟩
              rw [← eF15] at hP
              have h := h.2 F15 eF15
              refine lv_iinc (v := (x1 + (1 : Int32))) (lv' := [(1, .int (x1 + (1 : Int32))), (0, .ref (q 0))]) hx hb dX9_init_311 hl (k := 1) rfl rfl (by decide) rfl (fun ls hl => ?_)
              refine lv_goto (tgt := 216) hx hb dX9_init_314 (by decide) ?_
              exact ih  _ (x1 + (1 : Int32)) I F15 hs _ _ _  hP hS (lv_sub hl [1, 0] rfl) h K
          · have h := h.2 c4
            refine lv_iconst (v := (2 : Int32)) hx hb dX9_init_257 (by decide) ?_
            refine lv_goto (tgt := 310) hx hb dX9_init_258 (by decide) ?_
            refine gAst (D := D) hx hb hK hP (mDA hq hAq) hS 2 0 mAr2 rfl h.1 dX9_init_310 (mSA2 _) (fun H locs hP hS => ?_)
            obtain ⟨F16, eF16⟩ : ∃ z : Nat → Nat → Int32, z = upF F3 2 (upd (F3 2) (x1).toNatClampNeg (2 : Int32)) := ⟨_, rfl⟩
            rw [← eF16] at hP
            have h := h.2 F16 eF16
            refine lv_iinc (v := (x1 + (1 : Int32))) (lv' := [(1, .int (x1 + (1 : Int32))), (0, .ref (q 0))]) hx hb dX9_init_311 hl (k := 1) rfl rfl (by decide) rfl (fun ls hl => ?_)
            refine lv_goto (tgt := 216) hx hb dX9_init_314 (by decide) ?_
            exact ih  _ (x1 + (1 : Int32)) I F16 hs _ _ _  hP hS (lv_sub hl [1, 0] rfl) h K
        · have h := h.2 c2
          refine lv_sipush (v := (729 : Int32)) hx hb dX9_init_231 (by decide) ?_
          refine lv_goto (tgt := 247) hx hb dX9_init_234 (by decide) ?_
          refine gAst (D := D) hx hb hK hP (mDA hq hAq) hS 1 0 mAr1 rfl h.1 dX9_init_247 (mSA1 _) (fun H locs hP hS => ?_)
          obtain ⟨F17, eF17⟩ : ∃ z : Nat → Nat → Int32, z = upF F 1 (upd (F 1) (x1).toNatClampNeg (729 : Int32)) := ⟨_, rfl⟩
          rw [← eF17] at hP
          have h := h.2 F17 eF17
          refine lv_aload_n hx hb dX9_init_248 rfl (lv_at hl 0 rfl) ?_
          refine va_get (D := D) (ci := 9) (v := .ref (q 2)) (C := RX9) (T := TX9) (N := 44) hx hb hts (fun _ h9 => List.mem_cons_of_mem _ (List.mem_append_right _ h9)) hown hK hP 0 mAt0 rfl 1 (by decide) (hts _ (List.mem_of_getElem? (l := wsX9_init) (i := 6) rfl)) (fun _ h9 => h9) rfl dX9_init_249 ?_
          refine lv_iload_n hx hb dX9_init_252 rfl (lv_at hl 1 rfl) ?_
          refine lv_iload_n hx hb dX9_init_253 rfl (lv_at hl 1 rfl) ?_
          refine lv_if_ne (tgt := 261) hx hb dX9_init_254 (by decide) (fun c18 => ?_) (fun c18 => ?_)
          · have h := h.1 c18
            refine lv_iload_n hx hb dX9_init_261 rfl (lv_at hl 1 rfl) ?_
            refine lv_iconst (v := (1 : Int32)) hx hb dX9_init_262 (by decide) ?_
            refine lv_icmp_ne (tgt := 270) hx hb dX9_init_263 (by decide) (fun c19 => ?_) (fun c19 => ?_)
            · have h := h.1 c19
              refine lv_iload_n hx hb dX9_init_270 rfl (lv_at hl 1 rfl) ?_
              refine lv_iconst (v := (2 : Int32)) hx hb dX9_init_271 (by decide) ?_
              refine lv_icmp_ne (tgt := 280) hx hb dX9_init_272 (by decide) (fun c20 => ?_) (fun c20 => ?_)
              · have h := h.1 c20
                refine lv_iload_n hx hb dX9_init_280 rfl (lv_at hl 1 rfl) ?_
                refine lv_iconst (v := (3 : Int32)) hx hb dX9_init_281 (by decide) ?_
                refine lv_icmp_ne (tgt := 289) hx hb dX9_init_282 (by decide) (fun c21 => ?_) (fun c21 => ?_)
                · have h := h.1 c21
                  refine lv_iload_n hx hb dX9_init_289 rfl (lv_at hl 1 rfl) ?_
                  refine lv_iconst (v := (4 : Int32)) hx hb dX9_init_290 (by decide) ?_
                  refine lv_icmp_ne (tgt := 298) hx hb dX9_init_291 (by decide) (fun c22 => ?_) (fun c22 => ?_)
                  · have h := h.1 c22
                    refine lv_iload_n hx hb dX9_init_298 rfl (lv_at hl 1 rfl) ?_
                    refine lv_iconst (v := (5 : Int32)) hx hb dX9_init_299 (by decide) ?_
                    refine lv_icmp_ne (tgt := 308) hx hb dX9_init_300 (by decide) (fun c23 => ?_) (fun c23 => ?_)
                    · have h := h.1 c23
                      refine lv_bipush (v := (9 : Int32)) hx hb dX9_init_308 (by decide) ?_
                      refine gAst (D := D) hx hb hK hP (mDA hq hAq) hS 2 0 mAr2 rfl h.1 dX9_init_310 (mSA2 _) (fun H locs hP hS => ?_)
                      obtain ⟨F24, eF24⟩ : ∃ z : Nat → Nat → Int32, z = upF F17 2 (upd (F17 2) (x1).toNatClampNeg (9 : Int32)) := ⟨_, rfl⟩
                      rw [← eF24] at hP
                      have h := h.2 F24 eF24
                      refine lv_iinc (v := (x1 + (1 : Int32))) (lv' := [(1, .int (x1 + (1 : Int32))), (0, .ref (q 0))]) hx hb dX9_init_311 hl (k := 1) rfl rfl (by decide) rfl (fun ls hl => ?_)
                      refine lv_goto (tgt := 216) hx hb dX9_init_314 (by decide) ?_
                      exact ih  _ (x1 + (1 : Int32)) I F24 hs _ _ _  hP hS (lv_sub hl [1, 0] rfl) h K
                    · have h := h.2 c23
                      refine lv_bipush (v := (7 : Int32)) hx hb dX9_init_303 (by decide) ?_
                      refine lv_goto (tgt := 310) hx hb dX9_init_305 (by decide) ?_
                      refine gAst (D := D) hx hb hK hP (mDA hq hAq) hS 2 0 mAr2 rfl h.1 dX9_init_310 (mSA2 _) (fun H locs hP hS => ?_)
                      obtain ⟨F25, eF25⟩ : ∃ z : Nat → Nat → Int32, z = upF F17 2 (upd (F17 2) (x1).toNatClampNeg (7 : Int32)) := ⟨_, rfl⟩
                      rw [← eF25] at hP
                      have h := h.2 F25 eF25
                      refine lv_iinc (v := (x1 + (1 : Int32))) (lv' := [(1, .int (x1 + (1 : Int32))), (0, .ref (q 0))]) hx hb dX9_init_311 hl (k := 1) rfl rfl (by decide) rfl (fun ls hl => ?_)
                      refine lv_goto (tgt := 216) hx hb dX9_init_314 (by decide) ?_
                      exact ih  _ (x1 + (1 : Int32)) I F25 hs _ _ _  hP hS (lv_sub hl [1, 0] rfl) h K
                  · have h := h.2 c22
                    refine lv_iconst (v := (5 : Int32)) hx hb dX9_init_294 (by decide) ?_
                    refine lv_goto (tgt := 310) hx hb dX9_init_295 (by decide) ?_
                    refine gAst (D := D) hx hb hK hP (mDA hq hAq) hS 2 0 mAr2 rfl h.1 dX9_init_310 (mSA2 _) (fun H locs hP hS => ?_)
                    obtain ⟨F26, eF26⟩ : ∃ z : Nat → Nat → Int32, z = upF F17 2 (upd (F17 2) (x1).toNatClampNeg (5 : Int32)) := ⟨_, rfl⟩
                    rw [← eF26] at hP
                    have h := h.2 F26 eF26
                    refine lv_iinc (v := (x1 + (1 : Int32))) (lv' := [(1, .int (x1 + (1 : Int32))), (0, .ref (q 0))]) hx hb dX9_init_311 hl (k := 1) rfl rfl (by decide) rfl (fun ls hl => ?_)
                    refine lv_goto (tgt := 216) hx hb dX9_init_314 (by decide) ?_
                    exact ih  _ (x1 + (1 : Int32)) I F26 hs _ _ _  hP hS (lv_sub hl [1, 0] rfl) h K
                · have h := h.2 c21
                  refine lv_iconst (v := (4 : Int32)) hx hb dX9_init_285 (by decide) ?_
                  refine lv_goto (tgt := 310) hx hb dX9_init_286 (by decide) ?_
                  refine gAst (D := D) hx hb hK hP (mDA hq hAq) hS 2 0 mAr2 rfl h.1 dX9_init_310 (mSA2 _) (fun H locs hP hS => ?_)
                  obtain ⟨F27, eF27⟩ : ∃ z : Nat → Nat → Int32, z = upF F17 2 (upd (F17 2) (x1).toNatClampNeg (4 : Int32)) := ⟨_, rfl⟩
                  rw [← eF27] at hP
                  have h := h.2 F27 eF27
                  refine lv_iinc (v := (x1 + (1 : Int32))) (lv' := [(1, .int (x1 + (1 : Int32))), (0, .ref (q 0))]) hx hb dX9_init_311 hl (k := 1) rfl rfl (by decide) rfl (fun ls hl => ?_)
                  refine lv_goto (tgt := 216) hx hb dX9_init_314 (by decide) ?_
                  exact ih  _ (x1 + (1 : Int32)) I F27 hs _ _ _  hP hS (lv_sub hl [1, 0] rfl) h K
              · have h := h.2 c20
                refine lv_bipush (v := (11 : Int32)) hx hb dX9_init_275 (by decide) ?_
                refine lv_goto (tgt := 310) hx hb dX9_init_277 (by decide) ?_
                refine gAst (D := D) hx hb hK hP (mDA hq hAq) hS 2 0 mAr2 rfl h.1 dX9_init_310 (mSA2 _) (fun H locs hP hS => ?_)
                obtain ⟨F28, eF28⟩ : ∃ z : Nat → Nat → Int32, z = upF F17 2 (upd (F17 2) (x1).toNatClampNeg (11 : Int32)) := ⟨_, rfl⟩
                rw [← eF28] at hP
                have h := h.2 F28 eF28
                refine lv_iinc (v := (x1 + (1 : Int32))) (lv' := [(1, .int (x1 + (1 : Int32))), (0, .ref (q 0))]) hx hb dX9_init_311 hl (k := 1) rfl rfl (by decide) rfl (fun ls hl => ?_)
                refine lv_goto (tgt := 216) hx hb dX9_init_314 (by decide) ?_
                exact ih  _ (x1 + (1 : Int32)) I F28 hs _ _ _  hP hS (lv_sub hl [1, 0] rfl) h K
            · have h := h.2 c19
              refine lv_iconst (v := (0 : Int32)) hx hb dX9_init_266 (by decide) ?_
              refine lv_goto (tgt := 310) hx hb dX9_init_267 (by decide) ?_
              refine gAst (D := D) hx hb hK hP (mDA hq hAq) hS 2 0 mAr2 rfl h.1 dX9_init_310 (mSA2 _) (fun H locs hP hS => ?_)
              obtain ⟨F29, eF29⟩ : ∃ z : Nat → Nat → Int32, z = upF F17 2 (upd (F17 2) (x1).toNatClampNeg (0 : Int32)) := ⟨_, rfl⟩
              rw [← eF29] at hP
              have h := h.2 F29 eF29
              refine lv_iinc (v := (x1 + (1 : Int32))) (lv' := [(1, .int (x1 + (1 : Int32))), (0, .ref (q 0))]) hx hb dX9_init_311 hl (k := 1) rfl rfl (by decide) rfl (fun ls hl => ?_)
              refine lv_goto (tgt := 216) hx hb dX9_init_314 (by decide) ?_
              exact ih  _ (x1 + (1 : Int32)) I F29 hs _ _ _  hP hS (lv_sub hl [1, 0] rfl) h K
          · have h := h.2 c18
            refine lv_iconst (v := (2 : Int32)) hx hb dX9_init_257 (by decide) ?_
            refine lv_goto (tgt := 310) hx hb dX9_init_258 (by decide) ?_
            refine gAst (D := D) hx hb hK hP (mDA hq hAq) hS 2 0 mAr2 rfl h.1 dX9_init_310 (mSA2 _) (fun H locs hP hS => ?_)
            obtain ⟨F30, eF30⟩ : ∃ z : Nat → Nat → Int32, z = upF F17 2 (upd (F17 2) (x1).toNatClampNeg (2 : Int32)) := ⟨_, rfl⟩
            rw [← eF30] at hP
            have h := h.2 F30 eF30
            refine lv_iinc (v := (x1 + (1 : Int32))) (lv' := [(1, .int (x1 + (1 : Int32))), (0, .ref (q 0))]) hx hb dX9_init_311 hl (k := 1) rfl rfl (by decide) rfl (fun ls hl => ?_)
            refine lv_goto (tgt := 216) hx hb dX9_init_314 (by decide) ?_
            exact ih  _ (x1 + (1 : Int32)) I F30 hs _ _ _  hP hS (lv_sub hl [1, 0] rfl) h K
  refine lv_aload_n hx hb dX9_init_209 rfl (lv_at hl 0 rfl) ?_
  refine lv_iconst (v := (-1 : Int32)) hx hb dX9_init_210 (by decide) ?_
  refine gPut (D := D) (ci := 9) (ty := .int) (C := RX9) (T := TX9) (N := 44) hx hb hts (fun _ h9 => List.mem_cons_of_mem _ (List.mem_append_right _ h9)) tyX9 tyX9_ok nmX9 hown hK hP (mDA hq hAq) hS 0 mAt0 rfl 36 (by decide) (hts _ (List.mem_of_getElem? (l := wsX9_init) (i := 31) rfl)) (fun _ h9 => h9) rfl (by decide +kernel) rfl rfl (Nat.le_of_ble_eq_true rfl) dX9_init_211 (mSet14 (-1 : Int32)) (fun H locs hP hS => ?_)
  obtain ⟨I31, eI31⟩ : ∃ z : Nat → Int32, z = upd I 14 (-1 : Int32) := ⟨_, rfl⟩
  rw [← eI31] at hP
  have h := h I31 eI31
  refine lv_iconst (v := (0 : Int32)) hx hb dX9_init_214 (by decide) ?_
  refine lv_istore_n (lv' := [(1, .int (0 : Int32)), (0, .ref (q 0))]) hx hb dX9_init_215 rfl hl (by decide) rfl (fun ls hl => ?_)
  obtain ⟨n, h⟩ := h
  refine L216 n  _ (0 : Int32) I31 F hs _ _ _  hP hS (lv_sub hl [1, 0] rfl) h (fun y32 I33 F34 hs35 H locs ls  hP hS hl h => ?_)
  refine lv_aload_n hx hb dX9_init_317 rfl (lv_at hl 0 rfl) ?_
  refine gCallVA (D := D) (A1 := mA q) (va_runV (As := []) (rest := []) ⟨hx, hb, hml, hown, hts⟩ (c_X9_layOptions l D q cI cO hq   I33 F34 hs35 _ h) (cwV 0 hts gX9_init_X9_layOptions rfl rfl rfl (by decide +kernel) ⟨Nat.le_trans (Nat.le_of_ble_eq_true rfl) hRf, Nat.le_trans (Nat.le_of_ble_eq_true rfl) hRl⟩) (gPreV (ci := 9) (q0 := 0) (mEokA (A := A)) hE hK hP hS rfl mAt0) rfl rfl hl.1 rfl (lv_room (Nat.le_of_ble_eq_true rfl)) dX9_init_318 ⟨hRc, hRs⟩) hS (mAsub hAq) (fun u H locs hP hS h => ?_)
  obtain ⟨I36, F37, hs38⟩ := u
  have hP : va_P D vwCl (mW q cI cO I36 F37 hs38) H := hP
  refine lv_aload_n hx hb dX9_init_321 rfl (lv_at hl 0 rfl) ?_
  refine gCallVA (D := D) (A1 := mA q) (va_runV (As := []) (rest := []) ⟨hx, hb, hml, hown, hts⟩ (c_X9_layTables l D q cI cO hq   I36 F37 hs38 _ h) (cwV 0 hts gX9_init_X9_layTables rfl rfl rfl (by decide +kernel) ⟨Nat.le_trans (Nat.le_of_ble_eq_true rfl) hRf, Nat.le_trans (Nat.le_of_ble_eq_true rfl) hRl⟩) (gPreV (ci := 9) (q0 := 0) (mEokA (A := A)) hE hK hP hS rfl mAt0) rfl rfl hl.1 rfl (lv_room (Nat.le_of_ble_eq_true rfl)) dX9_init_322 ⟨hRc, hRs⟩) hS (mAsub hAq) (fun u H locs hP hS h => ?_)
  obtain ⟨I39, F40, hs41⟩ := u
  have hP : va_P D vwCl (mW q cI cO I39 F40 hs41) H := hP
  exact hret I39 F40 hs41 _ _ _ hP hS h
