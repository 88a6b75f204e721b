/-! eight rows of 2187 made at once: the rule that is wanting here, out of the model's own steps -/
def oaC (c : ClassId) (h i : Nat) : Cell := arrV c 8 (fun j => if j < i then .ref (h + 1 + j) else .null)
def oaR (c : ClassId) : Cell := arrV c 2187 (fun _ => .int 0)
def oaT (cO cI : ClassId) (s : State) : Nat → State
  | 0 => s.pushCell (oaC cO s.heap.size 0)
  | i + 1 => ((oaT cO cI s i).pushCell (oaR cI)).setCell s.heap.size (oaC cO s.heap.size (i + 1))
theorem oaC_set (c : ClassId) (h i : Nat) : (oaC c h i).setSlot i (.ref (h + 1 + i)) = oaC c h (i + 1) := by
  unfold oaC
  rw [arrV_store]
  refine congrArg (arrV c 8) (funext fun j => ?_)
  unfold updV
  by_cases e : j = i
  · rw [if_pos e, if_pos (by omega), e]
  · rw [if_neg e]
    dsimp only
    by_cases h2 : j < i
    · rw [if_pos h2, if_pos (by omega)]
    · rw [if_neg h2, if_neg (by omega)]
theorem oaC_size (c : ClassId) (h i : Nat) : (oaC c h i).slots.size = 8 := arrV_size _ _ _
theorem oaR_size (c : ClassId) : (oaR c).slots.size = 2187 := arrV_size _ _ _
theorem oaT_all (cO cI : ClassId) (s : State) : ∀ i, (oaT cO cI s i).heap.size = s.heap.size + 1 + i ∧ (oaT cO cI s i).heap[s.heap.size]? = some (oaC cO s.heap.size i) ∧ (oaT cO cI s i).vm = s.vm ∧ (oaT cO cI s i).slotsUsed = s.slotsUsed + 8 + i * 2187 ∧ (∀ a : Nat, a < s.heap.size → (oaT cO cI s i).heap[a]? = s.heap[a]?) ∧ ∀ j, j < i → (oaT cO cI s i).heap[s.heap.size + 1 + j]? = some (oaR cI)
  | 0 => ⟨by simp [oaT], by simp [oaT], rfl, by simp [oaT, oaC_size], fun a ha => State.heap_pushCell_of_lt _ _ ha, fun j hj => absurd hj (by omega)⟩
  | i + 1 => by
    obtain ⟨h1, h2, h3, h4, h5, h6⟩ := oaT_all cO cI s i
    have hl : s.heap.size < (oaT cO cI s i).heap.size := by omega
    have hc : ((oaT cO cI s i).pushCell (oaR cI)).heap[s.heap.size]? = some (oaC cO s.heap.size i) := by
      rw [State.heap_pushCell_of_lt _ _ hl]
      exact h2
    refine ⟨?_, State.heap_setCell_self hc, ?_, ?_, fun a ha => ?_, fun j hj => ?_⟩
    · show (((oaT cO cI s i).pushCell (oaR cI)).setCell s.heap.size _).heap.size = _
      simp [State.setCell, h1]
      omega
    · show (((oaT cO cI s i).pushCell (oaR cI)).setCell s.heap.size _).vm = _
      simp [h3]
    · show (((oaT cO cI s i).pushCell (oaR cI)).setCell s.heap.size _).slotsUsed = _
      simp [h4, oaR_size]
      omega
    · show (((oaT cO cI s i).pushCell (oaR cI)).setCell s.heap.size _).heap[a]? = _
      rw [State.heap_setCell_other (show s.heap.size ≠ a by omega), State.heap_pushCell_of_lt _ _ (show a < (oaT cO cI s i).heap.size by omega)]
      exact h5 a ha
    · show (((oaT cO cI s i).pushCell (oaR cI)).setCell s.heap.size _).heap[s.heap.size + 1 + j]? = _
      rw [State.heap_setCell_other (show s.heap.size ≠ s.heap.size + 1 + j by omega)]
      by_cases e : j = i
      · subst e
        rw [← h1]
        exact State.heap_pushCell_size _ _
      · rw [State.heap_pushCell_of_lt _ _ (show s.heap.size + 1 + j < (oaT cO cI s i).heap.size by omega)]
        exact h6 j (by omega)
theorem oaT_top (cO cI : ClassId) (s : State) (f : JFrame) : ∀ i, oaT cO cI (s.setTop f) i = (oaT cO cI s i).setTop f
  | 0 => rfl
  | i + 1 => by simp only [oaT, oaT_top cO cI s f i, State.heap_setTop, State.pushCell_setTop, State.setCell_setTop]
section OA
variable {E : CtlPost} {e : Env} {d : Bool} {acts : List Action} {s : State}
theorem oa_new {c comp : ClassId} {k : Class} {ty : FieldType} {len : Nat} {v : Value} (hk : s.vm.classes[c]? = some k) (hkind : k.kind = .array comp ty) (hl : len ≤ e.platform.arrayLengthLimit) (hh : len * componentBytes ty ≤ e.platform.maxHeapBytes) (hf : fits ty v = true) (hd : v.isDefault = true) (h1 : s.heap.size < e.platform.maxCells) (h2 : s.slotsUsed + len ≤ e.platform.maxSlots) {Q : Addr → Pre} (hq : Q s.heap.size d acts (s.pushCell (arrV c len (fun _ => v)))) : wp (Jvm.newArray c len v) Q E e d acts s := by
  rw [← arrV_new] at hq
  have a1 : ∀ i x, (Array.replicate len v)[i]? = some x → s.fitsSlot c .none i x = true := fun i x hx => by
    rw [Array.getElem?_replicate] at hx
    split at hx
    · cases hx
      simp [State.fitsSlot, State.slotType?, hk, hkind, hf]
    · cases hx
  have a2 : allocActs (Array.replicate len v) s.heap.size acts = acts := by
    unfold allocActs
    rw [if_pos]
    rw [Array.all_replicate]
    split
    · rfl
    · exact hd
  have b1 : ¬ len > e.platform.arrayLengthLimit := by omega
  have b2 : ¬ len * componentBytes ty > e.platform.maxHeapBytes := by omega
  simp only [Jvm.newArray, Jvm.arrayFits, wp_bind', wp_pure', W.ask, W.ite, W.theClass, W.alloc, hk, hkind, b1, b2, if_false, Option.some.injEq, exists_eq_left', Array.size_replicate, a2, W.stop]
  rw [if_neg (by omega)]
  exact ⟨h1, h2, a1, hq⟩
theorem oa_row {cI cc : ClassId} {k : Class} (hk : s.vm.classes[cI]? = some k) (hkind : k.kind = .array cc .int) (hl : 2187 ≤ e.platform.arrayLengthLimit) (hh : 2187 * 4 ≤ e.platform.maxHeapBytes) (h1 : s.heap.size < e.platform.maxCells) (h2 : s.slotsUsed + 2187 ≤ e.platform.maxSlots) {Q : Addr → Pre} (hq : Q s.heap.size d acts (s.pushCell (oaR cI))) : wp (multianewarray.make cI [2187]) Q E e d acts s := by
  rw [multianewarray.make]
  simp only [wp_bind', wp_pure', W.ite, W.theClass, hk, hkind, Option.some.injEq, exists_eq_left', show ¬ (2187 : Int32) < 0 by decide, if_false]
  exact oa_new (len := 2187) hk hkind hl hh rfl rfl h1 h2 hq
theorem oa_make {cO cI cc : ClassId} {kO kI : Class} (hO : s.vm.classes[cO]? = some kO) (hOk : kO.kind = .array cI (.array .int)) (hI : s.vm.classes[cI]? = some kI) (hIk : kI.kind = .array cc .int) (hl : 2187 ≤ e.platform.arrayLengthLimit) (hh : 2187 * 4 ≤ e.platform.maxHeapBytes) (h1 : s.heap.size + 9 ≤ e.platform.maxCells) (h2 : s.slotsUsed + 17504 ≤ e.platform.maxSlots) {Q : Addr → Pre} (hq : ∀ d2 acts2, Q s.heap.size d2 acts2 (oaT cO cI s 8)) : wp (multianewarray.make cO [8, 2187]) Q E e d acts s := by
  have hfind : ([(2187 : Int32)].find? (· < 0)) = none := by decide
  rw [multianewarray.make]
  simp only [wp_bind', wp_pure', W.ite, W.theClass, hO, hOk, Option.some.injEq, exists_eq_left', show ¬ (8 : Int32) < 0 by decide, if_false]
  refine oa_new (len := 8) hO hOk (by omega) (by show 8 * 4 ≤ _; omega) rfl rfl (by omega) (by omega) ?_
  simp only [hfind]
  rw [ite_self, wp_bind', Std.Legacy.Range.forIn_eq_forIn_range']
  show wp (forIn (List.range' 0 8 1) PUnit.unit _) _ E e d acts _
  refine wp_forIn_inv (fun rest t => ∃ i, i ≤ 8 ∧ rest = List.range' i (8 - i) ∧ t = oaT cO cI s i) _ _ ⟨0, by omega, rfl, rfl⟩ ?_ ?_
  · rintro x rest t d2 acts2 Q2 ⟨i, hi, hr, rfl⟩ hn
    have i8 : i < 8 := by
      apply Classical.byContradiction
      intro z
      rw [show 8 - i = 0 by omega] at hr
      cases hr
    rw [show 8 - i = (8 - (i + 1)) + 1 by omega, List.range'_succ] at hr
    obtain ⟨rfl, hrest⟩ := List.cons.inj hr
    obtain ⟨g1, g2, g3, g4, -, -⟩ := oaT_all cO cI s x
    simp only [wp_bind']
    refine oa_row (by rw [g3]; exact hI) hIk hl hh (by rw [g1]; omega) (by rw [g4]; omega) ?_
    simp only [wp_bind', W.writeLoc, wp_pure']
    refine ⟨oaC cO s.heap.size x, ?_, by simp [oaC, arrV], by rw [oaC_size]; exact i8, ?_, hn _ _ _ ⟨x + 1, i8, hrest, ?_⟩⟩
    · rw [State.heap_pushCell_of_lt _ _ (show s.heap.size < (oaT cO cI s x).heap.size by omega)]
      exact g2
    · simp [State.fitsSlot, State.slotType?, oaC, arrV, g3, hO, hOk, fits]
    · rw [g1, oaC_set]
      rfl
  · rintro t d2 acts2 ⟨i, hi, hr, rfl⟩
    have e8 : i = 8 := by
      apply Classical.byContradiction
      intro z
      rw [show 8 - i = (8 - (i + 1)) + 1 by omega, List.range'_succ] at hr
      cases hr
    subst e8
    simp only [wp_pure']
    exact hq _ _
end OA
def oaW (q : Nat) (cI cO : ClassId) : va_W := (q, .inl (cO, 8, .inr (.inr (.inr (.inr (fun i => if i < 8 then some (q + 1 + i) else none)))))) :: (List.range 8).map (fun i => (q + 1 + i, .inl (cI, 2187, .inl (fun _ => 0))))
theorem oa_stand {p : Program} {l : Launch} {e : Env} {R : Room} {s : State} {m : MethodId} {args : Array Value} {below : List Frame} {meth : Method} {c : Code} {T : State} {locs : List Loc} {cells slots : Nat} (X : Stand p l e R s m args below meth c T locs cells slots) (cO cI : ClassId) : ∀ i, Stand p l e R s m args below meth c (oaT cO cI T i) locs (cells + 1 + i) (slots + 8 + i * 2187)
  | 0 => by
    have h := X.pushed (oaC cO T.heap.size 0)
    rw [oaC_size] at h
    rw [Nat.zero_mul]
    exact h
  | i + 1 => by
    obtain ⟨g1, g2, -, -, -, -⟩ := oaT_all cO cI T i
    have h := (oa_stand X cO cI i).pushed (oaR cI)
    rw [oaR_size] at h
    have hc : ((oaT cO cI T i).pushCell (oaR cI)).heap[T.heap.size]? = some (oaC cO T.heap.size i) := by
      rw [State.heap_pushCell_of_lt _ _ (show T.heap.size < (oaT cO cI T i).heap.size by omega)]
      exact g2
    have h2 := h.stored hc i (.ref (T.heap.size + 1 + i))
    rw [oaC_set] at h2
    have h3 := h2.forget (fun y hy => by
      rw [List.mem_singleton] at hy
      rw [hy]
      exact X.same.2.1)
    rw [show slots + 8 + (i + 1) * 2187 = slots + 8 + i * 2187 + 2187 by omega]
    exact h3
theorem oaW_0 (q : Nat) (cI cO : ClassId) : (oaW q cI cO)[0]? = some (q, .inl (cO, 8, .inr (.inr (.inr (.inr (fun i => if i < 8 then some (q + 1 + i) else none)))))) := rfl
theorem oaW_s (q : Nat) (cI cO : ClassId) {i : Nat} (h : i < 8) : (oaW q cI cO)[i + 1]? = some (q + 1 + i, .inl (cI, 2187, .inl (fun _ => 0))) := by
  unfold oaW
  rw [List.getElem?_cons_succ, List.getElem?_map, List.getElem?_range h]
  rfl
theorem oaW_at {q : Nat} {cI cO : ClassId} {k : Nat} {x : Nat × va_E} (h : (oaW q cI cO)[k]? = some x) : x.1 = q + k ∧ k < 9 := by
  have hk : k < 9 := (List.getElem?_eq_some_iff.mp h).1
  cases k with
  | zero => cases h; exact ⟨rfl, hk⟩
  | succ i =>
    rw [oaW_s q cI cO (by omega)] at h
    cases h
    exact ⟨by show q + 1 + i = q + (i + 1); omega, hk⟩
set_option maxHeartbeats 4000000 in
theorem gMulti {p : Program} {l : Launch} {e : Env} {R : Room} {s : State} {m : MethodId} {args : Array Value} {below : List Frame} {meth : Method} {c : Code} {H : Heap} {locs : List Loc} {cells slots : Nat} {Q : State → Prop} {cc : ByteArray} {pc : Nat} {ls : Array Slot} {rest : List Value} {D : va_G} {A : Nat → Prop} {w : va_W} {H0 : Heap} {cI cO : ClassId} {own : String} {index : Nat} (hexec : p.tables.exec = Jvm.exec) (hb : c.code = cc) (hown : s.vm.findClass own = some m.cls) (hlink : (Cond.classLink own index "[[I").before args s = true) (hK : va_K D vwCl (cTys cI cO) s) (hO : oaK cI cO s) (hP : va_P D vwCl w H) (hD : va_D A w) (hS : va_S A H0 H locs) (hA : ∀ q, H0.size ≤ q → A q) (hcells : cells + 9 ≤ R.cells) (hslots : slots + 17504 ≤ R.slots) (hdg : decode cc pc = .ok (.multianewarray index 2, 4))
    (kk : ∀ (q : Nat) (H1 : Heap), va_P D vwCl (w ++ oaW q cI cO) H1 → va_D A (w ++ oaW q cI cO) → va_S A H0 H1 locs → W p l e R s m args below meth c H1 locs (cells + 9) (slots + 17504) Q (F0 m (pc + 4) ls (.ref q :: rest))) : W p l e R s m args below meth c H locs cells slots Q (F0 m pc ls (.int 2187 :: .int 8 :: rest)) := by
  intro T hT X
  have hpl : e.platform.magicAccessors = ({} : Platform).magicAccessors := by rw [X.admits.platform]
  obtain ⟨kO, hkO, hOk⟩ := hO
  have fO : s.vm.findClass "[[I" = some cO := (hK.2 1 _ rfl).2
  obtain ⟨-, kI, hkI, ci2, hIk⟩ := (hK.2 0 _ rfl).1 0 (fun _ => .null)
  have hkI : s.vm.classes[cI]? = some kI := hkI
  obtain ⟨c0, hf0, hcl⟩ := Cond.classLink_spec hown hlink e.platform hpl
  cases fO.symm.trans hf0
  obtain ⟨hg1, hw1, hr1⟩ := State.classEntry (e := e) X.warmed hcl
  generalize T.vm.noted m.cls index (.cls cO) = vm1 at hg1 hw1 hr1
  obtain ⟨kO1, hkO1, eO⟩ := hw1.alike.2.2 _ _ hkO
  obtain ⟨kI1, hkI1, eI⟩ := hw1.alike.2.2 _ _ hkI
  have X1 := X.noted hw1
  have XF := oa_stand X1 cO cI 8
  obtain ⟨r1, r2⟩ := X.roomAbove hcells hslots
  obtain ⟨f1, f2, -, -, f5, f6⟩ := oaT_all cO cI (T.setVm vm1) 8
  have eH : (T.setVm vm1).heap = H := hT
  rw [eH] at f1 f2 f5 f6
  have hPo : va_P D vwCl w (oaT cO cI (T.setVm vm1) 8).heap := hP.kept (fun k x hx => f5 x.1 ((hP k x hx).lt))
  have hPn : va_P D vwCl (oaW H.size cI cO) (oaT cO cI (T.setVm vm1) 8).heap := by
    intro k x hx
    obtain ⟨-, hk9⟩ := oaW_at hx
    cases k with
    | zero =>
      cases hx
      show (oaT cO cI (T.setVm vm1) 8).heap[H.size]? = some (vp_cell cO _)
      rw [f2, vp_cell_q]
      refine congrArg some (congrArg (arrV cO 8) (funext fun j => ?_))
      by_cases hj : j < 8
      · rw [if_pos hj, if_pos hj]; rfl
      · rw [if_neg hj, if_neg hj]; rfl
    | succ i =>
      rw [oaW_s _ _ _ (by omega)] at hx
      cases hx
      exact f6 i (by omega)
  obtain ⟨t, ht1, ht2⟩ := kk H.size _ (hPo.app hPn) (by
    refine ⟨fun i j x y hi hj hxy => ?_, fun k x hk => ?_⟩
    · have far : ∀ (a : Nat) (z : Nat × va_E), (w ++ oaW H.size cI cO)[a]? = some z → (a < w.length ∧ w[a]? = some z ∧ z.1 < H.size) ∨ (w.length ≤ a ∧ z.1 = H.size + (a - w.length)) := by
        intro a z hz
        by_cases ha : a < w.length
        · rw [List.getElem?_append_left ha] at hz
          exact Or.inl ⟨ha, hz, (hP a z hz).lt⟩
        · rw [List.getElem?_append_right (by omega)] at hz
          exact Or.inr ⟨by omega, (oaW_at hz).1⟩
      rcases far i x hi with ⟨a1, a2, a3⟩ | ⟨a1, a2⟩
      · rcases far j y hj with ⟨b1, b2, b3⟩ | ⟨b1, b2⟩
        · exact hD.1 i j x y a2 b2 hxy
        · omega
      · rcases far j y hj with ⟨b1, b2, b3⟩ | ⟨b1, b2⟩
        · omega
        · omega
    · by_cases ha : k < w.length
      · rw [List.getElem?_append_left ha] at hk
        exact hD.2 k x hk
      · rw [List.getElem?_append_right (by omega)] at hk
        have := (oaW_at hk).1
        have := hS.1
        exact hA _ (by omega)) (by
    refine ⟨by have := hS.1; omega, fun q h1 h2 => ?_, hS.2.2⟩
    rw [f5 q (by have := hS.1; omega)]
    exact hS.2.1 q h1 h2) (oaT cO cI (T.setVm vm1) 8) rfl (stand_widen XF (by omega) (by omega))
  refine ⟨t, ?_, ht2⟩
  have n2 : (2187 : Int32).toNatClampNeg = 2187 := rfl
  have lim1 : 2187 ≤ e.platform.arrayLengthLimit := by rw [Launch.admits_arrayLengthLimit X.admits]; decide
  have lim2 : 2187 * 4 ≤ e.platform.maxHeapBytes := by rw [Launch.admits_maxHeapBytes X.admits]; decide
  jvm_step X.here [hexec, hb, hdg]
  simp only [multianewarray.sem, wp_bind', W.resolveClassAt_links (State.method?_setTop (F0 m pc ls (.int 2187 :: .int 8 :: rest)) X.here.top) hg1]
  rw [W.popN, if_neg (by decide)]
  refine ⟨F0 m pc ls (.int 2187 :: .int 8 :: rest), State.topJava?_setTop' (s := T.setVm vm1) _ X.here.top, [.int 8, .int 2187], rest, rfl, rfl, ?_⟩
  simp only [List.mapM_cons, List.mapM_nil, wp_bind', wp_pure']
  refine oa_make (cO := cO) (cI := cI) (kO := kO1) (kI := kI1) (cc := ci2) hkO1 (by rw [eO]; exact hOk) hkI1 (by rw [eI]; exact hIk) lim1 lim2 (by show T.heap.size + 9 ≤ _; omega) (by show T.slotsUsed + 17504 ≤ _; omega) (fun d2 acts2 => ?_)
  have eS : ((T.setTop (F0 m pc ls (.int 2187 :: .int 8 :: rest))).setVm vm1).setTop (F0 m pc ls rest) = (T.setVm vm1).setTop (F0 m pc ls rest) := by
    show ((T.setVm vm1).setTop _).setTop _ = _
    rw [State.setTop_setTop]
  show _
  rw [show ({ (F0 m pc ls (.int 2187 :: .int 8 :: rest)) with stack := rest } : JFrame) = F0 m pc ls rest from rfl, eS, oaT_top]
  simp only [wp_bind', W.mark, W.pushRef, State.topJava?_setTop' _ XF.here.top, Option.some.injEq, exists_eq_left', State.setTop_setTop, State.heap_setTop]
  intro acts
  simp [jvm, XF.here.top]
  have eT : (T.setVm vm1).heap.size = H.size := by rw [eH]
  have ht3 := ht1
  rw [← eT] at ht3
  exact ht3
