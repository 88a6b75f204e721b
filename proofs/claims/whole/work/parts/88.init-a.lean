/-! towards the constructors: statics over no cells; rows that make arrays -/
def gTab (A : Nat → Prop) (C n : String) (a N : Nat) (f : Nat → Int32) (U : State) : Prop := va_Z C n "[I" (.ref a) A U U.heap ∧ va_T .int a N (fun i => .int (f i)) A U U.heap
def oaK (cI cO : ClassId) (U : State) : Prop := ∃ k : Class, U.vm.classes[cO]? = some k ∧ k.kind = .array cI (.array .int)
def pEnv (tq : Nat → Nat) (cI cO : ClassId) (A : Nat → Prop) (U : State) : Prop := cNest U ∧ gTab A "HarpPedals$Settings" "NATURAL_TONES" (tq 39) 7 tabN U ∧ gTab A "HarpPedals$Settings" "WEIGHTS" (tq 40) 7 tabW U ∧ gTab A "HarpPedals$Seen" "KINDS_THAT_COULD" (tq 41) 4 tabK U ∧ oaK cI cO U
theorem gTab_same {A : Nat → Prop} {C n : String} {a N : Nat} {f : Nat → Int32} {U U' : State} (h1 : U.vm = U'.vm) (h2 : U.heap = U'.heap) (h : gTab A C n a N f U) : gTab A C n a N f U' := by
  unfold gTab
  rw [← h2]
  exact ⟨va_Z.moved (h1 ▸ Vm.Alike.refl U.vm) h.1, va_T.moved (h1 ▸ Vm.Alike.refl U.vm) h.2⟩
theorem gTab_on {A : Nat → Prop} {C n : String} {a N : Nat} {f : Nat → Int32} {s U : State} (hW : s.WarmedH U.vm) (hk : ∀ x : Nat, x < s.heap.size → ¬ A x → U.heap[x]? = s.heap[x]?) (h : gTab A C n a N f s) : gTab A C n a N f U :=
  ⟨(va_Z.moved hW.alike h.1).kept hk, (va_T.moved hW.alike h.2).kept hk⟩
theorem oaK_moved {cI cO : ClassId} {s U : State} (h : s.vm.Alike U.vm) (hk : oaK cI cO s) : oaK cI cO U := by
  obtain ⟨k, h1, h2⟩ := hk
  obtain ⟨k1, h3, h4⟩ := h.2.2 _ _ h1
  exact ⟨k1, h3, by rw [h4]; exact h2⟩
theorem pEok {tq : Nat → Nat} {cI cO : ClassId} {A : Nat → Prop} : gEok (pEnv tq cI cO A) A :=
  ⟨fun U U' h1 h2 h => ⟨⟨fun x hx => va_Nw.same rfl h1 (h.1.1 x hx), fun x hx => va_Nw.same rfl h1 (h.1.2 x hx)⟩, gTab_same h1 h2 h.2.1, gTab_same h1 h2 h.2.2.1, gTab_same h1 h2 h.2.2.2.1, oaK_moved (h1 ▸ Vm.Alike.refl U.vm) h.2.2.2.2⟩,
   fun s U hW _ hk h => ⟨⟨fun x hx => va_Nw.warmF hW (h.1.1 x hx), fun x hx => va_Nw.warmM hW (h.1.2 x hx)⟩, gTab_on hW hk h.2.1, gTab_on hW hk h.2.2.1, gTab_on hW hk h.2.2.2.1, oaK_moved hW.alike h.2.2.2.2⟩⟩
theorem pEok2 {tq : Nat → Nat} {cI cO : ClassId} {A0 A : Nat → Prop} (hAA : ∀ q, A q → A0 q) : gEok (pEnv tq cI cO A0) A := ⟨pEok.1, fun s U hW hz hk h => pEok.2 s U hW hz (fun q h1 h2 => hk q h1 (fun z => h2 (hAA q z))) h⟩
theorem va_S.mono {A A0 : Nat → Prop} {H0 H : Heap} {locs : List Loc} (h : va_S A H0 H locs) (hA : ∀ q, A q → A0 q) : va_S A0 H0 H locs := ⟨h.1, fun q h1 h2 => h.2.1 q h1 (fun z => h2 (hA q z)), fun x hx => hA _ (h.2.2 x hx)⟩
def iPre (D : va_G) (tys : List (ClassId × FieldType)) (w : va_W) (E : State → Prop) (sz : Nat) (av : List Value) : Array Value → State → Prop := va_Pc av (fun U => U.heap.size = sz ∧ va_P D vwCl w U.heap ∧ va_K D vwCl tys U ∧ va_D (fun _ => True) w ∧ E U)
theorem iPreS {s : State} {H : Heap} {locs : List Loc} {D : va_G} {tys : List (ClassId × FieldType)} {w : va_W} {E : State → Prop} {A A0 : Nat → Prop} {av : List Value} (hE : gEok E A0) (h0 : E s) (hK : va_K D vwCl tys s) (hP : va_P D vwCl w H) (hD : va_D A w) (hS : va_S A s.heap H locs) (hA : ∀ q, A q → A0 q) : PreS s H (iPre D tys w E H.size av) av :=
  ⟨fun a U g mk q => by
    obtain ⟨q0, q1, qP, qK, qD, qE⟩ := q
    exact ⟨q0, q1, qP, va_K.moved (u := U) (U := U.calling g mk a) (Vm.Alike.refl U.vm) qK, qD, hE.1 U _ rfl rfl qE⟩,
   fun U hU hW => ⟨rfl, by rw [hU], by rw [hU]; exact hP, va_K.moved hW.alike hK, hD.weaken (fun _ _ _ _ => trivial), hE.2 s U hW (by rw [hU]; exact hS.1) (fun q h1 h2 => by rw [hU]; exact (hS.mono hA).2.1 q h1 h2) h0⟩⟩
theorem gMetC {S : Type} {l : Launch} {y : MethodName} {ws ws' : List Cond} {rm : Room} {cc : ByteArray} {maxL mc ms sz : Nat} {D : va_G} {tys : List (ClassId × FieldType)} {w : va_W} {E : State → Prop} {av : List Value} {Wd : S → va_W} (hy : plainName y.cls = true) (hi : y.name = "<init>") (hw : ws = Cond.code y cc maxL none :: ws') (hav : (lg_sl av).length ≤ maxL)
    (body : ∀ (p : Program) (e : Env) (R : Room) (s : State) (m : MethodId) (args : Array Value) (below : List Frame) (meth : Method) (c : Code) (Q : State → Prop) (ls : Array Slot) (A : Nat → Prop), R = rm → va_A w sz = A → p.tables.exec = Jvm.exec → c.code = cc → c.maxLocals = maxL → meth.name = "<init>" → s.vm.findClass y.cls = some m.cls → (∀ w ∈ ws, w.before args s = true) → va_K D vwCl tys s → E s → s.heap.size = sz → va_P D vwCl w s.heap → va_D A w → (∀ q : Nat, s.heap.size ≤ q → A q) → lv_has ls maxL (lv_args 0 av) →
      (∀ (u : S) (pc : Nat) (ls : Array Slot) (H : Heap) (locs : List Loc), decode cc pc = .ok (.return_, 1) → va_P D vwCl (Wd u) H → va_D A (Wd u) → va_S A s.heap H locs → W p l e R s m args below meth c H locs mc ms Q (F0 m pc ls [])) → W p l e R s m args below meth c s.heap [] 0 0 Q (F0 m 0 ls [])) : Met l y ws rm (iPre D tys w E sz av) (va_Qv (fun _ : S => True) (fun u t => va_P D vwCl (Wd u) t.heap ∧ va_D (va_A w sz) (Wd u)) (va_A w sz)) mc ms (va_A w sz) := by
  refine Met.ofW (cc := cc) (maxL := maxL) (ret := none) hy hw ?_
  intro p e s m args below meth c s₁ B hml hv
  obtain ⟨rfl, hsz, hP, hK, hD0, hE⟩ := hv
  have hr := B.returns
  have hx := B.exec
  have hb := B.bytes
  have hlocks := B.notSynchronized
  have hin : meth.name = "<init>" := ((name_of_methodNamed B.named B.method).1).trans hi
  have hD : va_D (va_A w sz) w := hD0.self
  have hl := lv_entry av (n := maxL) hav
  rw [lg_entry_eq]
  generalize (lg_sl av ++ List.replicate (maxL - (lg_sl av).length) Slot.unset).toArray = ls at hl ⊢
  exact body p e _ s m _ below meth c _ ls _ rfl rfl hx hb hml hin (findClass_of_methodNamed B.named) (atoms_spec (ws := ws) B.pre) hK hE hsz hP hD (fun q h => Or.inr (by rw [← hsz]; exact h)) hl (fun u pc ls H locs hdg hP hD hS => W.vret hx hb hr (fun t ht hW => ⟨⟨u, rfl, trivial, by rw [ht]; exact hP, hD⟩, hS.F ht⟩) hS.2.2 hdg)
section GN
variable {p : Program} {l : Launch} {e : Env} {R : Room} {s : State} {m : MethodId} {args : Array Value} {below : List Frame} {meth : Method} {c : Code} {H : Heap} {locs : List Loc} {cells slots : Nat} {Q : State → Prop}
variable {cc : ByteArray} {pc : Nat} {ls : Array Slot} {rest : List Value} {D : va_G} {A : Nat → Prop} {tys : List (ClassId × FieldType)} {w : va_W} {H0 : Heap}
theorem gNewa {cI : ClassId} (hexec : p.tables.exec = Jvm.exec) (hb : c.code = cc) (harr : (Cond.arrayClass .int).before args s = true) (hK : va_K D vwCl tys s) (t0 : Nat) (ht : tys[t0]? = some (cI, .int)) (hP : va_P D vwCl w H) (hD : va_D A w) (hS : va_S A H0 H locs) (hA : ∀ q, H0.size ≤ q → A q) {n : Int32} {N' : Nat} (hn : ¬ n < 0) (hN : n.toNatClampNeg = N') (hbytes : N' * 4 ≤ 536870912) (hcells : cells + 1 ≤ R.cells) (hslots : slots + N' ≤ R.slots) (hdg : decode cc pc = .ok (.newarray .int, 2))
    (kk : ∀ (q : Nat) (H1 : Heap), va_P D vwCl (w ++ [(q, .inl (cI, N', .inl (fun _ => 0)))]) H1 → va_D A (w ++ [(q, .inl (cI, N', .inl (fun _ => 0)))]) → va_S A H0 H1 locs → W p l e R s m args below meth c H1 locs (cells + 1) (slots + N') Q (F0 m (pc + 2) ls (.ref q :: rest))) : W p l e R s m args below meth c H locs cells slots Q (F0 m pc ls (.int n :: rest)) := by
  refine va_newa (atype := .int) (ty := .int) (a0 := (N', .inl (fun _ => 0))) hexec hb harr rfl hK hP hD hS hA (fun _ => rfl) hn hN hbytes hcells hslots hdg (fun q cA H1 hK1 hP1 hD1 hS1 => ?_)
  have e1 : s.vm.findClass ("[" ++ (FieldType.int).toString) = some cA := (hK1.2 tys.length (cA, .int) (by rw [List.getElem?_append_right (Nat.le_refl _), Nat.sub_self]; rfl)).2
  have e2 : s.vm.findClass ("[" ++ (FieldType.int).toString) = some cI := (hK.2 t0 _ ht).2
  have e3 : cA = cI := Option.some.inj (e1.symm.trans e2)
  subst e3
  exact kk q H1 hP1 hD1 hS1
end GN
set_option maxHeartbeats 4000000 in
set_option maxRecDepth 100000 in
theorem k_X7_positionAt (l : Launch) (D : va_G) (tq : Nat → Nat) (cI cO : ClassId) (A0 A : Nat → Prop) (hAA : ∀ q, A q → A0 q) (a0 : Int32) (a1 : Int32)  (I : Nat → Int32) (F : Nat → Nat → Int32) (post : Int32 → Prop) (h : w_X7_positionAt a0 a1 I F post) : Met l yX7_positionAt wsX7_positionAt ({ frames := 0, cells := 0, slots := 0, locals := 0 } : Room) (gPre D (cTys cI cO) ([] : va_W) (pEnv tq cI cO A0) [.int a0, .int a1]) (va_Qi (fun r (_ : Unit) => post r) (gB D (fun _ : Unit => ([] : va_W))) A) 0 0 A := by
  refine gMetI (by decide) rfl (Nat.le_of_ble_eq_true rfl) ?_
  intro p e R s m args below meth c Q ls hR hx hb hml hown hts hK hE hP hl hret
  have hRf : 0 ≤ R.frames := by subst hR; exact Nat.le_refl _
  have hRl : 0 ≤ R.locals := by subst hR; exact Nat.le_refl _
  have hown : s.vm.findClass RX7 = some m.cls := hown
  have hl : lv_has ls 2 [(0, .int a0), (1, .int a1)] := hl
  have hS : va_S A s.heap s.heap [] := va_S.rf
  have hP : va_P D vwCl ([] : va_W) s.heap := hP
  refine lv_iload_n hx hb dX7_positionAt_0 rfl (lv_at hl 1 rfl) ?_
  by_cases c1_0 : a1 = (0 : Int32)
  · have h := h.1 c1_0
    refine lv_tableIn (tgt := 40) (off := 39) hx hb dX7_positionAt_1 (by rw [c1_0]; decide) (by rw [c1_0]; decide) (by rw [c1_0]; rfl) (by decide) ?_
    refine lv_iload_n hx hb dX7_positionAt_40 rfl (lv_at hl 0 rfl) ?_
    refine lv_sipush (v := (729 : Int32)) hx hb dX7_positionAt_41 (by decide) ?_
    refine lv_idiv hx hb dX7_positionAt_44 (by decide) ?_
    exact hret (a0 / (729 : Int32)) () _ _ _ _ dX7_positionAt_45 hP hS h
  by_cases c1_1 : a1 = (1 : Int32)
  · have h := h.2.1 c1_1
    refine lv_tableIn (tgt := 46) (off := 45) hx hb dX7_positionAt_1 (by rw [c1_1]; decide) (by rw [c1_1]; decide) (by rw [c1_1]; rfl) (by decide) ?_
    refine lv_iload_n hx hb dX7_positionAt_46 rfl (lv_at hl 0 rfl) ?_
    refine lv_sipush (v := (243 : Int32)) hx hb dX7_positionAt_47 (by decide) ?_
    refine lv_idiv hx hb dX7_positionAt_50 (by decide) ?_
    refine lv_iconst (v := (3 : Int32)) hx hb dX7_positionAt_51 (by decide) ?_
    refine lv_irem hx hb dX7_positionAt_52 (by decide) ?_
    exact hret ((a0 / (243 : Int32)) - (a0 / (243 : Int32)) / (3 : Int32) * (3 : Int32)) () _ _ _ _ dX7_positionAt_53 hP hS h
  by_cases c1_2 : a1 = (2 : Int32)
  · have h := h.2.2.1 c1_2
    refine lv_tableIn (tgt := 54) (off := 53) hx hb dX7_positionAt_1 (by rw [c1_2]; decide) (by rw [c1_2]; decide) (by rw [c1_2]; rfl) (by decide) ?_
    refine lv_iload_n hx hb dX7_positionAt_54 rfl (lv_at hl 0 rfl) ?_
    refine lv_bipush (v := (81 : Int32)) hx hb dX7_positionAt_55 (by decide) ?_
    refine lv_idiv hx hb dX7_positionAt_57 (by decide) ?_
    refine lv_iconst (v := (3 : Int32)) hx hb dX7_positionAt_58 (by decide) ?_
    refine lv_irem hx hb dX7_positionAt_59 (by decide) ?_
    exact hret ((a0 / (81 : Int32)) - (a0 / (81 : Int32)) / (3 : Int32) * (3 : Int32)) () _ _ _ _ dX7_positionAt_60 hP hS h
  by_cases c1_3 : a1 = (3 : Int32)
  · have h := h.2.2.2.1 c1_3
    refine lv_tableIn (tgt := 61) (off := 60) hx hb dX7_positionAt_1 (by rw [c1_3]; decide) (by rw [c1_3]; decide) (by rw [c1_3]; rfl) (by decide) ?_
    refine lv_iload_n hx hb dX7_positionAt_61 rfl (lv_at hl 0 rfl) ?_
    refine lv_bipush (v := (27 : Int32)) hx hb dX7_positionAt_62 (by decide) ?_
    refine lv_idiv hx hb dX7_positionAt_64 (by decide) ?_
    refine lv_iconst (v := (3 : Int32)) hx hb dX7_positionAt_65 (by decide) ?_
    refine lv_irem hx hb dX7_positionAt_66 (by decide) ?_
    exact hret ((a0 / (27 : Int32)) - (a0 / (27 : Int32)) / (3 : Int32) * (3 : Int32)) () _ _ _ _ dX7_positionAt_67 hP hS h
  by_cases c1_4 : a1 = (4 : Int32)
  · have h := h.2.2.2.2.1 c1_4
    refine lv_tableIn (tgt := 68) (off := 67) hx hb dX7_positionAt_1 (by rw [c1_4]; decide) (by rw [c1_4]; decide) (by rw [c1_4]; rfl) (by decide) ?_
    refine lv_iload_n hx hb dX7_positionAt_68 rfl (lv_at hl 0 rfl) ?_
    refine lv_bipush (v := (9 : Int32)) hx hb dX7_positionAt_69 (by decide) ?_
    refine lv_idiv hx hb dX7_positionAt_71 (by decide) ?_
    refine lv_iconst (v := (3 : Int32)) hx hb dX7_positionAt_72 (by decide) ?_
    refine lv_irem hx hb dX7_positionAt_73 (by decide) ?_
    exact hret ((a0 / (9 : Int32)) - (a0 / (9 : Int32)) / (3 : Int32) * (3 : Int32)) () _ _ _ _ dX7_positionAt_74 hP hS h
  by_cases c1_5 : a1 = (5 : Int32)
  · have h := h.2.2.2.2.2.1 c1_5
    refine lv_tableIn (tgt := 75) (off := 74) hx hb dX7_positionAt_1 (by rw [c1_5]; decide) (by rw [c1_5]; decide) (by rw [c1_5]; rfl) (by decide) ?_
    refine lv_iload_n hx hb dX7_positionAt_75 rfl (lv_at hl 0 rfl) ?_
    refine lv_iconst (v := (3 : Int32)) hx hb dX7_positionAt_76 (by decide) ?_
    refine lv_idiv hx hb dX7_positionAt_77 (by decide) ?_
    refine lv_iconst (v := (3 : Int32)) hx hb dX7_positionAt_78 (by decide) ?_
    refine lv_irem hx hb dX7_positionAt_79 (by decide) ?_
    exact hret ((a0 / (3 : Int32)) - (a0 / (3 : Int32)) / (3 : Int32) * (3 : Int32)) () _ _ _ _ dX7_positionAt_80 hP hS h
  have h := h.2.2.2.2.2.2 c1_0 c1_1 c1_2 c1_3 c1_4 c1_5
  have tc1_0 := lv_neT (a := 0) c1_0 rfl
  have tc1_1 := lv_neT (a := 1) c1_1 rfl
  have tc1_2 := lv_neT (a := 2) c1_2 rfl
  have tc1_3 := lv_neT (a := 3) c1_3 rfl
  have tc1_4 := lv_neT (a := 4) c1_4 rfl
  have tc1_5 := lv_neT (a := 5) c1_5 rfl
  refine lv_tableOut (tgt := 81) hx hb dX7_positionAt_1 (by omega) (by decide) ?_
  refine lv_iload_n hx hb dX7_positionAt_81 rfl (lv_at hl 0 rfl) ?_
  refine lv_iconst (v := (3 : Int32)) hx hb dX7_positionAt_82 (by decide) ?_
  refine lv_irem hx hb dX7_positionAt_83 (by decide) ?_
  exact hret (a0 - a0 / (3 : Int32) * (3 : Int32)) () _ _ _ _ dX7_positionAt_84 hP hS h
set_option maxHeartbeats 4000000 in
set_option maxRecDepth 100000 in
theorem k_X7_toneAt (l : Launch) (D : va_G) (tq : Nat → Nat) (cI cO : ClassId) (A0 A : Nat → Prop) (hAA : ∀ q, A q → A0 q) (a0 : Int32) (a1 : Int32)  (I : Nat → Int32) (F : Nat → Nat → Int32) (post : Int32 → Prop) (h : w_X7_toneAt a0 a1 I F post) : Met l yX7_toneAt wsX7_toneAt ({ frames := 0, cells := 0, slots := 0, locals := 0 } : Room) (gPre D (cTys cI cO) ([] : va_W) (pEnv tq cI cO A0) [.int a0, .int a1]) (va_Qi (fun r (_ : Unit) => post r) (gB D (fun _ : Unit => ([] : va_W))) A) 0 0 A := by
  refine gMetI (by decide) rfl (Nat.le_of_ble_eq_true rfl) ?_
  intro p e R s m args below meth c Q ls hR hx hb hml hown hts hK hE hP hl hret
  have hRf : 0 ≤ R.frames := by subst hR; exact Nat.le_refl _
  have hRl : 0 ≤ R.locals := by subst hR; exact Nat.le_refl _
  have hown : s.vm.findClass RX7 = some m.cls := hown
  have hl : lv_has ls 2 [(0, .int a0), (1, .int a1)] := hl
  have hS : va_S A s.heap s.heap [] := va_S.rf
  have hP : va_P D vwCl ([] : va_W) s.heap := hP
  refine va_gets (C := "HarpPedals$Settings") (v := .ref (tq 39)) hx hb hE.2.1.1 (hS.mono hAA) hown (hts _ (List.mem_of_getElem? (l := wsX7_toneAt) (i := 1) rfl)) (fun _ h9 => h9) dX7_toneAt_0 ?_
  refine lv_iload_n hx hb dX7_toneAt_3 rfl (lv_at hl 0 rfl) ?_
  refine va_ti (v := .int (tabN (a0).toNatClampNeg)) hx hb hE.2.1.2 (hS.mono hAA) h.1 rfl dX7_toneAt_4 ?_
  have h := h.2
  refine lv_iload_n hx hb dX7_toneAt_5 rfl (lv_at hl 1 rfl) ?_
  refine lv_iadd hx hb dX7_toneAt_6 ?_
  refine lv_bipush (v := (12 : Int32)) hx hb dX7_toneAt_7 (by decide) ?_
  refine lv_iadd hx hb dX7_toneAt_9 ?_
  refine lv_iconst (v := (1 : Int32)) hx hb dX7_toneAt_10 (by decide) ?_
  refine lv_isub hx hb dX7_toneAt_11 ?_
  refine lv_bipush (v := (12 : Int32)) hx hb dX7_toneAt_12 (by decide) ?_
  refine lv_irem hx hb dX7_toneAt_14 (by decide) ?_
  exact hret (((((tabN (a0).toNatClampNeg) + a1) + (12 : Int32)) - (1 : Int32)) - ((((tabN (a0).toNatClampNeg) + a1) + (12 : Int32)) - (1 : Int32)) / (12 : Int32) * (12 : Int32)) () _ _ _ _ dX7_toneAt_15 hP hS h
def w_X7_tonesOfPedals_B4 (x0 : Int32) (I : Nat → Int32) (F : Nat → Nat → Int32) (k again : Int32 → Int32 → Prop) (x1 : Int32) (x2 : Int32) : Prop :=
  (((7 : Int32) ≤ x2 → k x1 x2) ∧ (¬ (7 : Int32) ≤ x2 → w_X7_positionAt x0 x2 I F (fun (r2 : Int32) => w_X7_toneAt x2 r2 I F (fun (r3 : Int32) => ∀ v4 : Int32, v4 = (x1 ||| ((1 : Int32) <<< (r3 &&& 31))) → again v4 (x2 + (1 : Int32))))))
def w_X7_tonesOfPedals (a0 : Int32) (I : Nat → Int32) (F : Nat → Nat → Int32) (post : Int32 → Prop) : Prop :=
  gL (fun ag v => w_X7_tonesOfPedals_B4 a0 I F (fun (y5 : Int32) (y6 : Int32) => post y5) (fun b0 b1 => ag (b0, b1)) v.1 v.2) ((0 : Int32), (0 : Int32))
set_option maxHeartbeats 4000000 in
set_option maxRecDepth 100000 in
theorem k_X7_tonesOfPedals (l : Launch) (D : va_G) (tq : Nat → Nat) (cI cO : ClassId) (A0 A : Nat → Prop) (hAA : ∀ q, A q → A0 q) (a0 : Int32)  (I : Nat → Int32) (F : Nat → Nat → Int32) (post : Int32 → Prop) (h : w_X7_tonesOfPedals a0 I F post) : Met l yX7_tonesOfPedals wsX7_tonesOfPedals ({ frames := 1, cells := 0, slots := 0, locals := 21 } : Room) (gPre D (cTys cI cO) ([] : va_W) (pEnv tq cI cO A0) [.int a0]) (va_Qi (fun r (_ : Unit) => post r) (gB D (fun _ : Unit => ([] : va_W))) A) 0 0 A := by
  refine gMetI (by decide) rfl (Nat.le_of_ble_eq_true rfl) ?_
  intro p e R s m args below meth c Q ls hR hx hb hml hown hts hK hE hP hl hret
  have hRf : 1 ≤ R.frames := by subst hR; exact Nat.le_refl _
  have hRl : 21 ≤ R.locals := by subst hR; exact Nat.le_refl _
  have hown : s.vm.findClass RX7 = some m.cls := hown
  have hl : lv_has ls 3 [(0, .int a0)] := hl
  have hS : va_S A s.heap s.heap [] := va_S.rf
  have hP : va_P D vwCl ([] : va_W) s.heap := hP
  have L4 : ∀ (n : Nat) (x0 : Int32) (k : Int32 → Int32 → Prop) (x1 : Int32) (x2 : Int32) (H : Heap) (locs : List Loc) (ls : Array Slot), va_P D vwCl ([] : va_W) H → va_S A s.heap H locs → lv_has ls 3 [(0, .int x0), (1, .int x1), (2, .int x2)] → gLN (fun ag v => w_X7_tonesOfPedals_B4 x0 I F k (fun b0 b1 => ag (b0, b1)) v.1 v.2) n (x1, x2) → (∀ (x1 : Int32) (x2 : Int32) (H : Heap) (locs : List Loc) (ls : Array Slot), va_P D vwCl ([] : va_W) H → va_S A s.heap H locs → lv_has ls 3 [(1, .int x1)] → k x1 x2 → W p l e R s m args below meth c H locs 0 0 Q (F0 m 30 ls [])) → W p l e R s m args below meth c H locs 0 0 Q (F0 m 4 ls []) := by
    intro n
    induction n with
    | zero =>
      intro x0 k x1 x2 H locs ls  hP hS hl h K
      exact False.elim h
    | succ n ih =>
      intro x0 k x1 x2 H locs ls  hP hS hl h K
      have h : w_X7_tonesOfPedals_B4 x0 I F k (fun b0 b1 => gLN (fun ag v => w_X7_tonesOfPedals_B4 x0 I F k (fun b0 b1 => ag (b0, b1)) v.1 v.2) n (b0, b1)) x1 x2 := h
      refine lv_iload_n hx hb dX7_tonesOfPedals_4 rfl (lv_at hl 2 rfl) ?_
      refine lv_bipush (v := (7 : Int32)) hx hb dX7_tonesOfPedals_5 (by decide) ?_
      refine lv_icmp_ge (tgt := 30) hx hb dX7_tonesOfPedals_7 (by decide) (fun c1 => ?_) (fun c1 => ?_)
      · have h := h.1 c1
        exact K x1 x2 _ _ _  hP hS (lv_sub hl [1] rfl) h
      · have h := h.2 c1
        refine lv_iload_n hx hb dX7_tonesOfPedals_10 rfl (lv_at hl 1 rfl) ?_
        refine lv_iconst (v := (1 : Int32)) hx hb dX7_tonesOfPedals_11 (by decide) ?_
        refine lv_iload_n hx hb dX7_tonesOfPedals_12 rfl (lv_at hl 2 rfl) ?_
        refine lv_iload_n hx hb dX7_tonesOfPedals_13 rfl (lv_at hl 0 rfl) ?_
        refine lv_iload_n hx hb dX7_tonesOfPedals_14 rfl (lv_at hl 2 rfl) ?_
        refine gCallI (D := D) (va_runS (As := [.int x0, .int x2]) (rest := [.int x2, .int (1 : Int32), .int x1]) ⟨hx, hb, hml, hown, hts⟩ (k_X7_positionAt l D tq cI cO A0 A hAA x0 x2  I F _ h) (va_cwS 2 hts gX7_tonesOfPedals_X7_positionAt rfl rfl rfl (by decide +kernel) ⟨Nat.le_trans (Nat.le_of_ble_eq_true rfl) hRf, Nat.le_trans (Nat.le_of_ble_eq_true rfl) hRl⟩) (gPreS (pEok2 hAA) hE hK hP hS) rfl rfl hl.1 rfl (lv_room (Nat.le_of_ble_eq_true rfl)) dX7_tonesOfPedals_15 ⟨Nat.zero_le _, Nat.zero_le _⟩) hS (fun r2 _ H locs hP hS h => ?_)
        have hP : va_P D vwCl ([] : va_W) H := hP
        refine gCallI (D := D) (va_runS (As := [.int x2, .int r2]) (rest := [.int (1 : Int32), .int x1]) ⟨hx, hb, hml, hown, hts⟩ (k_X7_toneAt l D tq cI cO A0 A hAA x2 r2  I F _ h) (va_cwS 2 hts gX7_tonesOfPedals_X7_toneAt rfl rfl rfl (by decide +kernel) ⟨Nat.le_trans (Nat.le_of_ble_eq_true rfl) hRf, Nat.le_trans (Nat.le_of_ble_eq_true rfl) hRl⟩) (gPreS (pEok2 hAA) hE hK hP hS) rfl rfl hl.1 rfl (lv_room (Nat.le_of_ble_eq_true rfl)) dX7_tonesOfPedals_18 ⟨Nat.zero_le _, Nat.zero_le _⟩) hS (fun r3 _ H locs hP hS h => ?_)
        have hP : va_P D vwCl ([] : va_W) H := hP
        refine lv_ishl hx hb dX7_tonesOfPedals_21 ?_
        refine lv_ior hx hb dX7_tonesOfPedals_22 ?_
        refine lv_topi (fun v4 ev4 => ?_)
        have h := h v4 ev4
        refine lv_istore_n (lv' := [(1, .int v4), (0, .int x0), (2, .int x2)]) hx hb dX7_tonesOfPedals_23 rfl hl (by decide) rfl (fun ls hl => ?_)
        refine lv_iinc (v := (x2 + (1 : Int32))) (lv' := [(2, .int (x2 + (1 : Int32))), (1, .int v4), (0, .int x0)]) hx hb dX7_tonesOfPedals_24 hl (k := 2) rfl rfl (by decide) rfl (fun ls hl => ?_)
        refine lv_goto (tgt := 4) hx hb dX7_tonesOfPedals_27 (by decide) ?_
        exact ih x0 _ v4 (x2 + (1 : Int32)) _ _ _  hP hS (lv_sub hl [2, 1, 0] rfl) h K
  refine lv_iconst (v := (0 : Int32)) hx hb dX7_tonesOfPedals_0 (by decide) ?_
  refine lv_istore_n (lv' := [(1, .int (0 : Int32)), (0, .int a0)]) hx hb dX7_tonesOfPedals_1 rfl hl (by decide) rfl (fun ls hl => ?_)
  refine lv_iconst (v := (0 : Int32)) hx hb dX7_tonesOfPedals_2 (by decide) ?_
  refine lv_istore_n (lv' := [(2, .int (0 : Int32)), (1, .int (0 : Int32)), (0, .int a0)]) hx hb dX7_tonesOfPedals_3 rfl hl (by decide) rfl (fun ls hl => ?_)
  obtain ⟨n, h⟩ := h
  refine L4 n a0 _ (0 : Int32) (0 : Int32) _ _ _  hP hS (lv_sub hl [2, 1, 0] rfl) h (fun y5 y6 H locs ls  hP hS hl h => ?_)
  refine lv_iload_n hx hb dX7_tonesOfPedals_30 rfl (lv_at hl 0 rfl) ?_
  exact hret y5 () _ _ _ _ dX7_tonesOfPedals_31 hP hS h
theorem s_tonesOf {s : Nat} {I : Nat → Int32} {F : Nat → Nat → Int32} {post : Int32 → Prop} (hs : s < 2187) (h : post (hasR s 7)) : w_X7_tonesOfPedals (nI s) I F post := by
  unfold w_X7_tonesOfPedals
  refine gL_inv (fun j v => v.2 = nI j ∧ v.1 = hasR s j) 7 ?_ ?_ ⟨rfl, rfl⟩
  · rintro j hj ⟨x1, x2⟩ ⟨g2, g1⟩ again hag
    dsimp only at g1 g2 ⊢
    subst g1 g2
    unfold w_X7_tonesOfPedals_B4
    exact ⟨fun q => absurd ((nI_leI (a := 7) (by omega) (by omega)).mp q) (by omega), fun _ => s_pos hs hj (s_tone hj (pos_lt s j) (fun v4 e4 => hag _ ⟨nI_1 j, e4⟩))⟩
  · rintro ⟨x1, x2⟩ ⟨g2, g1⟩ again
    dsimp only at g1 g2 ⊢
    subst g1 g2
    unfold w_X7_tonesOfPedals_B4
    exact ⟨fun _ => h, fun q => absurd (by decide) q⟩
