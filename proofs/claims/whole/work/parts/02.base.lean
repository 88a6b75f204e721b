/-! the base: coded worlds (numbers by a place, rows by a place), one call rule for all contracts over such a world -/
def upF (F : Nat → Nat → Int32) (k : Nat) (g : Nat → Int32) : Nat → Nat → Int32 := fun j => if j = k then g else F j
theorem upF_s (F : Nat → Nat → Int32) (k : Nat) (g : Nat → Int32) : upF F k g k = g := if_pos rfl
theorem upF_n (F : Nat → Nat → Int32) {k j : Nat} (g : Nat → Int32) (h : j ≠ k) : upF F k g j = F j := if_neg h
/-- a loop: some number of turns is enough -/
def gLN {V : Type} (body : (V → Prop) → V → Prop) : Nat → V → Prop
  | 0, _ => False
  | n + 1, v => body (gLN body n) v
def gL {V : Type} (body : (V → Prop) → V → Prop) (v : V) : Prop := ∃ n, gLN body n v
/-- a loop by the row of its states: from the one at a to the one at e, where it ends -/
theorem gL_for {V : Type} {body : (V → Prop) → V → Prop} (σ : Nat → V) (e : Nat) (hs : ∀ j, j < e → ∀ again : V → Prop, again (σ (j + 1)) → body again (σ j)) (he : ∀ again : V → Prop, body again (σ e)) : gL body (σ 0) := by
  have h : ∀ d j, j + d = e → gLN body (d + 1) (σ j) := by
    intro d
    induction d with
    | zero => intro j hj; rw [show j = e by omega]; exact he _
    | succ d ih => intro j hj; exact hs j (by omega) _ (ih (j + 1) (by omega))
  exact ⟨e + 1, h e 0 (by omega)⟩
/-- a loop by a measure -/
theorem gL_ms {V : Type} {body : (V → Prop) → V → Prop} (Inv : V → Prop) (μ : V → Nat) (hs : ∀ v, Inv v → ∀ again : V → Prop, (∀ v', Inv v' → μ v' < μ v → again v') → body again v) {v : V} (h : Inv v) : gL body v := by
  have hh : ∀ n v, μ v < n → Inv v → gLN body n v := by
    intro n
    induction n with
    | zero => intro v h; omega
    | succ n ih => intro v h1 h2; exact hs v h2 _ (fun v' a b => ih v' (by omega) a)
  exact ⟨μ v + 1, hh _ _ (Nat.lt_succ_self _) h⟩
def gPre (D : va_G) (tys : List (ClassId × FieldType)) (w : va_W) (E : State → Prop) (av : List Value) : Array Value → State → Prop := va_Pc av (fun U => va_P D vwCl w U.heap ∧ va_K D vwCl tys U ∧ E U)
def gB {S : Type} (D : va_G) (Wd : S → va_W) (u : S) (t : State) : Prop := va_P D vwCl (Wd u) t.heap
def gEok (E : State → Prop) (A : Nat → Prop) : Prop := (∀ U U' : State, U.vm = U'.vm → U.heap = U'.heap → E U → E U') ∧ ∀ s U : State, s.WarmedH U.vm → s.heap.size ≤ U.heap.size → (∀ q : Nat, q < s.heap.size → ¬ A q → U.heap[q]? = s.heap[q]?) → E s → E U
theorem gBlind {D : va_G} {tys : List (ClassId × FieldType)} {w : va_W} {E : State → Prop} {A : Nat → Prop} {av : List Value} (hE : gEok E A) : FrameBlind (gPre D tys w E av) := fun a U g mk q => by
  obtain ⟨q0, qP, qK, qE⟩ := q
  exact ⟨q0, qP, va_K.moved (u := U) (U := U.calling g mk a) (Vm.Alike.refl U.vm) qK, hE.1 U _ rfl rfl qE⟩
theorem gPreS {s : State} {H : Heap} {locs : List Loc} {D : va_G} {tys : List (ClassId × FieldType)} {w : va_W} {E : State → Prop} {A : Nat → Prop} {av : List Value} (hE : gEok E A) (h0 : E s) (hK : va_K D vwCl tys s) (hP : va_P D vwCl w H) (hS : va_S A s.heap H locs) : PreS s H (gPre D tys w E av) av :=
  ⟨gBlind hE, fun U hU hW => ⟨rfl, by rw [hU]; exact hP, va_K.moved hW.alike hK, hE.2 s U hW (by rw [hU]; exact hS.1) (fun q h1 h2 => by rw [hU]; exact hS.2.1 q h1 h2) h0⟩⟩
theorem gPreV {s : State} {H : Heap} {locs : List Loc} {D : va_G} {tys : List (ClassId × FieldType)} {w : va_W} {E : State → Prop} {A : Nat → Prop} {b : Nat} {As : List Value} {ci q0 : Nat} {fs : List Value} {C : String} {T : u_T} {N : Nat} (hE : gEok E A) (h0 : E s) (hK : va_K D vwCl tys s) (hP : va_P D vwCl w H) (hS : va_S A s.heap H locs) (hc : vwCl[ci]? = some (C, T, N)) (he : w[q0]? = some (b, .inr (ci, fs))) : PreV s H C b (gPre D tys w E (.ref b :: As)) As :=
  ⟨gBlind hE, va_recv hK hP hc he, (gPreS hE h0 hK hP hS).2⟩
section GW
variable {p : Program} {l : Launch} {e : Env} {R : Room} {s : State} {m : MethodId} {args : Array Value} {below : List Frame} {meth : Method} {c : Code} {H : Heap} {locs : List Loc} {cells slots : Nat} {Q : State → Prop}
variable {cc : ByteArray} {pc : Nat} {ls : Array Slot} {rest st0 : List Value} {D : va_G} {A : Nat → Prop} {a : Nat} {tys : List (ClassId × FieldType)} {w w' : va_W} {H0 : Heap} {av : Array Value}
theorem gCallI {S : Type} {post : Int32 → S → Prop} {Wd : S → va_W} (hr : va_Run p l e R s m args below meth c H locs cells slots 0 0 (F0 m pc ls st0) rest (va_Qi post (gB D Wd) A av) A) (hS : va_S A H0 H locs)
    (kk : ∀ (r : Int32) (u : S) (H1 : Heap) (locs1 : List Loc), va_P D vwCl (Wd u) H1 → va_S A H0 H1 locs1 → post r u → W p l e R s m args below meth c H1 locs1 cells slots Q (F0 m (pc + 3) ls (.int r :: rest))) : W p l e R s m args below meth c H locs cells slots Q (F0 m pc ls st0) :=
  va_calli hr hS (fun _ _ h => h) (fun _ h => h) (fun r u t H1 locs1 ht _ hw hB _ _ hS1 => kk r u H1 locs1 (by rw [← ht]; exact hB) hS1 hw)
theorem gCallL {S : Type} {post : Int64 → S → Prop} {Wd : S → va_W} (hr : va_Run p l e R s m args below meth c H locs cells slots 0 0 (F0 m pc ls st0) rest (va_Ql post (gB D Wd) A av) A) (hS : va_S A H0 H locs)
    (kk : ∀ (r : Int64) (u : S) (H1 : Heap) (locs1 : List Loc), va_P D vwCl (Wd u) H1 → va_S A H0 H1 locs1 → post r u → W p l e R s m args below meth c H1 locs1 cells slots Q (F0 m (pc + 3) ls (.long r :: rest))) : W p l e R s m args below meth c H locs cells slots Q (F0 m pc ls st0) :=
  va_calll hr hS (fun _ _ h => h) (fun _ h => h) (fun r u t H1 locs1 ht _ hw hB _ _ hS1 => kk r u H1 locs1 (by rw [← ht]; exact hB) hS1 hw)
theorem gCallV {S : Type} {post : S → Prop} {Wd : S → va_W} (hr : va_Run p l e R s m args below meth c H locs cells slots 0 0 (F0 m pc ls st0) rest (va_Qv post (gB D Wd) A av) A) (hS : va_S A H0 H locs)
    (kk : ∀ (u : S) (H1 : Heap) (locs1 : List Loc), va_P D vwCl (Wd u) H1 → va_S A H0 H1 locs1 → post u → W p l e R s m args below meth c H1 locs1 cells slots Q (F0 m (pc + 3) ls rest)) : W p l e R s m args below meth c H locs cells slots Q (F0 m pc ls st0) :=
  va_callv hr hS (fun _ _ h => h) (fun _ h => h) (fun u t H1 locs1 ht _ hw hB _ _ hS1 => kk u H1 locs1 (by rw [← ht]; exact hB) hS1 hw)
theorem gPut (hexec : p.tables.exec = Jvm.exec) (hb : c.code = cc) {own ref C : String} {T : u_T} {N ci index : Nat} {Ts : List Cond} (hts : ∀ w ∈ Ts, w.before args s = true) (hin : ∀ w ∈ u_ws C T N, w ∈ Ts) (ty0 : Nat → FieldType) (hty : ∀ k, k < N → parseFieldDescriptor (T k).2.2.1 = some (ty0 k)) (hnm : ∀ a, a < N → ∀ b, b < N → a ≠ b → (T a).2.1 ≠ (T b).2.1) (hown : s.vm.findClass own = some m.cls) (hK : va_K D vwCl tys s) (hP : va_P D vwCl w H) (hD : va_D A w) (hS0 : va_S A H0 H locs) (q0 : Nat) {fs : List Value} (he : w[q0]? = some (a, .inr (ci, fs))) (hc : vwCl[ci]? = some (C, T, N)) (k : Nat) (hk : k < N) (hlink : (Cond.fieldLink own index ref (T k).2.1 (T k).2.2.1).before args s = true) (hsame : ∀ x, s.fieldFound? (T k).1 (T k).2.1 (T k).2.2.1 = some x → s.fieldFound? ref (T k).2.1 (T k).2.2.1 = some x) (hfin : (T k).2.2.2 = false) {ty : FieldType} {v : Value} (hd : parseFieldDescriptor (T k).2.2.1 = some ty) (hn : narrow ty v = v) (hfit : fits ty v = true) (hl : k < fs.length)
    (hdg : decode cc pc = .ok (.putfield index, 3)) (hset : w.set q0 (a, .inr (ci, fs.set k v)) = w') (kk : ∀ (H1 : Heap) (locs1 : List Loc), va_P D vwCl w' H1 → va_S A H0 H1 locs1 → W p l e R s m args below meth c H1 locs1 cells slots Q (F0 m (pc + 3) ls rest)) : W p l e R s m args below meth c H locs cells slots Q (F0 m pc ls (v :: .ref a :: rest)) :=
  va_put hexec hb hts hin ty0 hty hnm hown hK hP hD hS0 q0 he hc k hk hlink hsame hfin hd hn hfit hl hdg (fun H1 l1 h1 _ h3 => kk H1 l1 (by rw [← hset]; exact h1) h3)
theorem gPutN (hexec : p.tables.exec = Jvm.exec) (hb : c.code = cc) {own ref C host : String} {T : u_T} {N ci index : Nat} {Ts : List Cond} (hts : ∀ w ∈ Ts, w.before args s = true) (hin : ∀ w ∈ u_ws C T N, w ∈ Ts) (ty0 : Nat → FieldType) (hty : ∀ k, k < N → parseFieldDescriptor (T k).2.2.1 = some (ty0 k)) (hnm : ∀ a, a < N → ∀ b, b < N → a ≠ b → (T a).2.1 ≠ (T b).2.1) (hown : s.vm.findClass own = some m.cls) (hK : va_K D vwCl tys s) (hP : va_P D vwCl w H) (hD : va_D A w) (hS0 : va_S A H0 H locs) (q0 : Nat) {fs : List Value} (he : w[q0]? = some (a, .inr (ci, fs))) (hc : vwCl[ci]? = some (C, T, N)) (k : Nat) (hk : k < N) (hlink : (Cond.fieldLinkNest own index ref (T k).2.1 (T k).2.2.1 host).before args s = true) (hsame : ∀ x, s.fieldFound? (T k).1 (T k).2.1 (T k).2.2.1 = some x → s.fieldFound? ref (T k).2.1 (T k).2.2.1 = some x) (hfin : (T k).2.2.2 = false) {ty : FieldType} {v : Value} (hd : parseFieldDescriptor (T k).2.2.1 = some ty) (hn : narrow ty v = v) (hfit : fits ty v = true) (hl : k < fs.length)
    (hdg : decode cc pc = .ok (.putfield index, 3)) (hset : w.set q0 (a, .inr (ci, fs.set k v)) = w') (kk : ∀ (H1 : Heap) (locs1 : List Loc), va_P D vwCl w' H1 → va_S A H0 H1 locs1 → W p l e R s m args below meth c H1 locs1 cells slots Q (F0 m (pc + 3) ls rest)) : W p l e R s m args below meth c H locs cells slots Q (F0 m pc ls (v :: .ref a :: rest)) :=
  va_putN hexec hb hts hin ty0 hty hnm hown hK hP hD hS0 q0 he hc k hk hlink hsame hfin hd hn hfit hl hdg (fun H1 l1 h1 _ h3 => kk H1 l1 (by rw [← hset]; exact h1) h3)
theorem gAst (hexec : p.tables.exec = Jvm.exec) (hb : c.code = cc) (hK : va_K D vwCl tys s) (hP : va_P D vwCl w H) (hD : va_D A w) (hS : va_S A H0 H locs) (q0 t0 : Nat) {cA : ClassId} {n : Nat} {f : Nat → Int32} (ha : w[q0]? = some (a, .inl (cA, n, .inl f))) (ht : tys[t0]? = some (cA, .int)) {i : Int32} {x : Int32} (hin : vp_in i n) (hdg : decode cc pc = .ok (.iastore, 1))
    (hset : w.set q0 (a, .inl (cA, n, .inl (upd f i.toNatClampNeg x))) = w') (kk : ∀ (H1 : Heap) (locs1 : List Loc), va_P D vwCl w' H1 → va_S A H0 H1 locs1 → W p l e R s m args below meth c H1 locs1 cells slots Q (F0 m (pc + 1) ls rest)) : W p l e R s m args below meth c H locs cells slots Q (F0 m pc ls (.int x :: .int i :: .ref a :: rest)) :=
  va_iast hexec hb hK hP hD hS q0 t0 ha ht hin hdg (fun H1 l1 h1 _ h3 => kk H1 l1 (by rw [← hset]; exact h1) h3)
theorem gAldA (hexec : p.tables.exec = Jvm.exec) (hb : c.code = cc) (hK : va_K D vwCl tys s) (hP : va_P D vwCl w H) (q0 t0 : Nat) {cA : ClassId} {n : Nat} {f : Nat → Option Nat} (ha : w[q0]? = some (a, .inl (cA, n, .inr (.inr (.inr (.inr f)))))) (ht : tys[t0]? = some (cA, .array .int)) {i : Int32} (hin : vp_in i n) (hdg : decode cc pc = .ok (.aaload, 1)) {z : Nat} (hz : f i.toNatClampNeg = some z)
    (kk : W p l e R s m args below meth c H locs cells slots Q (F0 m (pc + 1) ls (.ref z :: rest))) : W p l e R s m args below meth c H locs cells slots Q (F0 m pc ls (.int i :: .ref a :: rest)) := by
  have hlt : i.toNatClampNeg < n := Nat.not_le.mp fun q => hin (Or.inr q)
  exact W.aald (v := .ref z) (ty := .array .int) hexec hb (hP q0 _ ha) ((hK.2 t0 _ ht).1 n (fun j => va_rf (f j))) rfl (fun q => by cases q) (by show ¬ (i < 0 ∨ (arrV _ _ _).slots.size ≤ _); rw [arrV_size]; exact hin) (by show (arrV _ _ _).slots[_]? = _; rw [arrV_read _ _ hlt, hz]; rfl) rfl rfl hdg kk
theorem gCopy {cc : ByteArray} (hexec : p.tables.exec = Jvm.exec) (hb : c.code = cc) (hml : c.maxLocals = ls.size) {own : String} {index : Nat} (hown : s.vm.findClass own = some m.cls) (hlink : (Cond.methodLink own index arraycopyName).before args s = true) (hnat : (Cond.native arraycopyName).before args s = true) (hstat : (Cond.static arraycopyName).before args s = true) (hini : (Cond.initialized "java/lang/System").before args s = true)
    (hK : va_K D vwCl tys s) (hP : va_P D vwCl w H) (hD : va_D A w) (hS : va_S A H0 H locs) (q0 q1 t0 : Nat) {a0 : Nat} {c0 : ClassId} {n0 n1 : Nat} {f g : Nat → Int32} (ha0 : w[q0]? = some (a0, .inl (c0, n0, .inl f))) (ha1 : w[q1]? = some (a, .inl (c0, n1, .inl g))) (ht0 : tys[t0]? = some (c0, .int))
    {sp dp n : Int32} (h1 : ¬ sp < 0) (h2 : ¬ dp < 0) (h3 : ¬ n < 0) (h4 : sp.toNatClampNeg + n.toNatClampNeg ≤ n0) (h5 : dp.toNatClampNeg + n.toNatClampNeg ≤ n1)
    (hframes : 1 ≤ R.frames) (hlocals : (rest.map fun v => v.category).sum + (nativeFrameWords "java/lang/System" "arraycopy" 5 + 11) ≤ R.locals) (hdg : decode cc pc = .ok (.invokestatic index, 3))
    (hset : w.set q1 (a, .inl (c0, n1, .inl (va_cpy f g sp.toNatClampNeg dp.toNatClampNeg n.toNatClampNeg))) = w')
    (kk : ∀ (H1 : Heap) (locs1 : List Loc), va_P D vwCl w' H1 → va_S A H0 H1 locs1 → W p l e R s m args below meth c H1 locs1 cells slots Q (F0 m (pc + 3) ls rest)) : W p l e R s m args below meth c H locs cells slots Q (F0 m pc ls (.int n :: .int dp :: .ref a :: .int sp :: .ref a0 :: rest)) :=
  va_copyi hexec hb hml hown hlink hnat hstat hini hK hP hD hS q0 q1 t0 t0 ha0 ha1 ht0 ht0 rfl h1 h2 h3 h4 h5 (fun _ _ => rfl) hframes hlocals hdg (fun H1 l1 h1 _ h3 => kk H1 l1 (by rw [← hset]; exact h1) h3)
end GW
theorem gNar {v : Int32} (h : v = 0 ∨ v = 1) : narrow .boolean (.int v) = .int v := by rcases h with rfl | rfl <;> rfl
theorem gMetI {S : Type} {l : Launch} {y : MethodName} {ws ws' : List Cond} {rm : Room} {cc : ByteArray} {maxL : Nat} {D : va_G} {tys : List (ClassId × FieldType)} {w : va_W} {E : State → Prop} {A : Nat → Prop} {av : List Value} {post : Int32 → S → Prop} {Wd : S → va_W} (hy : plainName y.cls = true) (hw : ws = Cond.code y cc maxL (some .int) :: ws') (hav : (lg_sl av).length ≤ maxL)
    (body : ∀ (p : Program) (e : Env) (R : Room) (s : State) (m : MethodId) (args : Array Value) (below : List Frame) (meth : Method) (c : Code) (Q : State → Prop) (ls : Array Slot), R = rm → p.tables.exec = Jvm.exec → c.code = cc → c.maxLocals = maxL → s.vm.findClass y.cls = some m.cls → (∀ w ∈ ws, w.before args s = true) → va_K D vwCl tys s → E s → va_P D vwCl w s.heap → lv_has ls maxL (lv_args 0 av) →
      (∀ (v : Int32) (u : S) (pc : Nat) (ls : Array Slot) (H : Heap) (locs : List Loc), decode cc pc = .ok (.ireturn, 1) → va_P D vwCl (Wd u) H → va_S A s.heap H locs → post v u → W p l e R s m args below meth c H locs 0 0 Q (F0 m pc ls [.int v])) → W p l e R s m args below meth c s.heap [] 0 0 Q (F0 m 0 ls [])) : Met l y ws rm (gPre D tys w E av) (va_Qi post (gB D Wd) A) 0 0 A := by
  refine Met.ofW (cc := cc) (maxL := maxL) (ret := some .int) hy hw ?_
  intro p e s m args below meth c s₁ B hml hv
  obtain ⟨rfl, hP, hK, hE⟩ := hv
  have hr := B.returns
  have hx := B.exec
  have hb := B.bytes
  have hlocks := B.notSynchronized
  have hl := lv_entry av (n := maxL) hav
  rw [lg_entry_eq]
  generalize (lg_sl av ++ List.replicate (maxL - (lg_sl av).length) Slot.unset).toArray = ls at hl ⊢
  exact body p e _ s m _ below meth c _ ls rfl hx hb hml (findClass_of_methodNamed B.named) (atoms_spec (ws := ws) B.pre) hK hE hP hl (fun v u pc ls H locs hdg hP hS hpost => W.iret (v := v) hx hb hr (fun t ht hW => ⟨⟨v, u, rfl, hpost, by unfold gB; rw [ht]; exact hP⟩, hS.F ht⟩) hS.2.2 hdg)
theorem gMetZ {S : Type} {l : Launch} {y : MethodName} {ws ws' : List Cond} {rm : Room} {cc : ByteArray} {maxL : Nat} {D : va_G} {tys : List (ClassId × FieldType)} {w : va_W} {E : State → Prop} {A : Nat → Prop} {av : List Value} {post : Int32 → S → Prop} {Wd : S → va_W} (hy : plainName y.cls = true) (hw : ws = Cond.code y cc maxL (some .boolean) :: ws') (hav : (lg_sl av).length ≤ maxL)
    (body : ∀ (p : Program) (e : Env) (R : Room) (s : State) (m : MethodId) (args : Array Value) (below : List Frame) (meth : Method) (c : Code) (Q : State → Prop) (ls : Array Slot), R = rm → p.tables.exec = Jvm.exec → c.code = cc → c.maxLocals = maxL → s.vm.findClass y.cls = some m.cls → (∀ w ∈ ws, w.before args s = true) → va_K D vwCl tys s → E s → va_P D vwCl w s.heap → lv_has ls maxL (lv_args 0 av) →
      (∀ (v : Int32) (u : S) (pc : Nat) (ls : Array Slot) (H : Heap) (locs : List Loc), decode cc pc = .ok (.ireturn, 1) → va_P D vwCl (Wd u) H → va_S A s.heap H locs → (v = 0 ∨ v = 1) → post v u → W p l e R s m args below meth c H locs 0 0 Q (F0 m pc ls [.int v])) → W p l e R s m args below meth c s.heap [] 0 0 Q (F0 m 0 ls [])) : Met l y ws rm (gPre D tys w E av) (va_Qi post (gB D Wd) A) 0 0 A := by
  refine Met.ofW (cc := cc) (maxL := maxL) (ret := some .boolean) hy hw ?_
  intro p e s m args below meth c s₁ B hml hv
  obtain ⟨rfl, hP, hK, hE⟩ := hv
  have hr := B.returns
  have hx := B.exec
  have hb := B.bytes
  have hlocks := B.notSynchronized
  have hl := lv_entry av (n := maxL) hav
  rw [lg_entry_eq]
  generalize (lg_sl av ++ List.replicate (maxL - (lg_sl av).length) Slot.unset).toArray = ls at hl ⊢
  exact body p e _ s m _ below meth c _ ls rfl hx hb hml (findClass_of_methodNamed B.named) (atoms_spec (ws := ws) B.pre) hK hE hP hl (fun v u pc ls H locs hdg hP hS h01 hpost => W.zret (v := v) hx hb hr (gNar h01) (fun t ht hW => ⟨⟨v, u, rfl, hpost, by unfold gB; rw [ht]; exact hP⟩, hS.F ht⟩) hS.2.2 hdg)
theorem gMetL {S : Type} {l : Launch} {y : MethodName} {ws ws' : List Cond} {rm : Room} {cc : ByteArray} {maxL : Nat} {D : va_G} {tys : List (ClassId × FieldType)} {w : va_W} {E : State → Prop} {A : Nat → Prop} {av : List Value} {post : Int64 → S → Prop} {Wd : S → va_W} (hy : plainName y.cls = true) (hw : ws = Cond.code y cc maxL (some .long) :: ws') (hav : (lg_sl av).length ≤ maxL)
    (body : ∀ (p : Program) (e : Env) (R : Room) (s : State) (m : MethodId) (args : Array Value) (below : List Frame) (meth : Method) (c : Code) (Q : State → Prop) (ls : Array Slot), R = rm → p.tables.exec = Jvm.exec → c.code = cc → c.maxLocals = maxL → s.vm.findClass y.cls = some m.cls → (∀ w ∈ ws, w.before args s = true) → va_K D vwCl tys s → E s → va_P D vwCl w s.heap → lv_has ls maxL (lv_args 0 av) →
      (∀ (v : Int64) (u : S) (pc : Nat) (ls : Array Slot) (H : Heap) (locs : List Loc), decode cc pc = .ok (.lreturn, 1) → va_P D vwCl (Wd u) H → va_S A s.heap H locs → post v u → W p l e R s m args below meth c H locs 0 0 Q (F0 m pc ls [.long v])) → W p l e R s m args below meth c s.heap [] 0 0 Q (F0 m 0 ls [])) : Met l y ws rm (gPre D tys w E av) (va_Ql post (gB D Wd) A) 0 0 A := by
  refine Met.ofW (cc := cc) (maxL := maxL) (ret := some .long) hy hw ?_
  intro p e s m args below meth c s₁ B hml hv
  obtain ⟨rfl, hP, hK, hE⟩ := hv
  have hr := B.returns
  have hx := B.exec
  have hb := B.bytes
  have hlocks := B.notSynchronized
  have hl := lv_entry av (n := maxL) hav
  rw [lg_entry_eq]
  generalize (lg_sl av ++ List.replicate (maxL - (lg_sl av).length) Slot.unset).toArray = ls at hl ⊢
  exact body p e _ s m _ below meth c _ ls rfl hx hb hml (findClass_of_methodNamed B.named) (atoms_spec (ws := ws) B.pre) hK hE hP hl (fun v u pc ls H locs hdg hP hS hpost => W.lret (v := v) hx hb hr (fun t ht hW => ⟨⟨v, u, rfl, hpost, by unfold gB; rw [ht]; exact hP⟩, hS.F ht⟩) hS.2.2 hdg)
theorem gMetV {S : Type} {l : Launch} {y : MethodName} {ws ws' : List Cond} {rm : Room} {cc : ByteArray} {maxL : Nat} {D : va_G} {tys : List (ClassId × FieldType)} {w : va_W} {E : State → Prop} {A : Nat → Prop} {av : List Value} {post : S → Prop} {Wd : S → va_W} (hy : plainName y.cls = true) (hw : ws = Cond.code y cc maxL none :: ws') (hav : (lg_sl av).length ≤ maxL)
    (body : ∀ (p : Program) (e : Env) (R : Room) (s : State) (m : MethodId) (args : Array Value) (below : List Frame) (meth : Method) (c : Code) (Q : State → Prop) (ls : Array Slot), R = rm → p.tables.exec = Jvm.exec → c.code = cc → c.maxLocals = maxL → s.vm.findClass y.cls = some m.cls → (∀ w ∈ ws, w.before args s = true) → va_K D vwCl tys s → E s → va_P D vwCl w s.heap → lv_has ls maxL (lv_args 0 av) →
      (∀ (u : S) (pc : Nat) (ls : Array Slot) (H : Heap) (locs : List Loc), decode cc pc = .ok (.return_, 1) → va_P D vwCl (Wd u) H → va_S A s.heap H locs → post u → W p l e R s m args below meth c H locs 0 0 Q (F0 m pc ls [])) → W p l e R s m args below meth c s.heap [] 0 0 Q (F0 m 0 ls [])) : Met l y ws rm (gPre D tys w E av) (va_Qv post (gB D Wd) A) 0 0 A := by
  refine Met.ofW (cc := cc) (maxL := maxL) (ret := none) hy hw ?_
  intro p e s m args below meth c s₁ B hml hv
  obtain ⟨rfl, hP, hK, hE⟩ := hv
  have hr := B.returns
  have hx := B.exec
  have hb := B.bytes
  have hlocks := B.notSynchronized
  have hl := lv_entry av (n := maxL) hav
  rw [lg_entry_eq]
  generalize (lg_sl av ++ List.replicate (maxL - (lg_sl av).length) Slot.unset).toArray = ls at hl ⊢
  exact body p e _ s m _ below meth c _ ls rfl hx hb hml (findClass_of_methodNamed B.named) (atoms_spec (ws := ws) B.pre) hK hE hP hl (fun u pc ls H locs hdg hP hS hpost => W.vret hx hb hr (fun t ht hW => ⟨⟨u, rfl, hpost, by unfold gB; rw [ht]; exact hP⟩, hS.F ht⟩) hS.2.2 hdg)
