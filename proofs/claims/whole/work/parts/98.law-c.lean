/-! THE CLAIM OUT OF ONE WALK OF THE LAW'S BODY. Your part is whole_start (and what it stands on); all else here is the same for every law, but numbers. -/
def R_law : String := "HarpPedalsLaw"
def lw_P (b : Addr) (xs : List Int32) (args : Array Value) (s : State) : Prop := args = #[.ref b] ∧ s.IntsAt b xs ∧ xs.length ≤ 2048 ∧ (Jvm.Cond.and given_1 narrow_1).before args s = true
def lw_Q (_ : Array Value) (s : State) (o : Outcome) (t : State) : Prop := o = .returned (some (.int 1)) ∧ Framed s o t [] 600000 7302250
def lw_Z (below : List Frame) (a : Array Value) (s : State) : State → Prop := fun t => ∃ o, t.status = .running ∧ Ended t below o ∧ lw_Q a s o t
/-- the law's own end, with 1 on the stack, nothing written that was there before, its room as the claim has it -/
theorem lw_ret {p : Program} {l : Launch} {e : Env} {s : State} {m : MethodId} {below : List Frame} {meth : Method} {c : Code} {b : Nat} (hx : p.tables.exec = Jvm.exec) (hb : c.code = code) (hr : meth.sig.returnType = ret) (hlocks : meth.locks = false) {pc : Nat} {H : Heap} {ls : Array Slot} (hdg : decode code pc = .ok (.ireturn, 1)) : W p l e room_1 s m #[Value.ref b] below meth c H [] 600000 7302250 (lw_Z below #[Value.ref b] s) (F0 m pc ls [.int 1]) := by
  intro T hT X
  obtain ⟨fs, hret, hrun, hended, hW, hframe⟩ := X.leave (v := some (.int 1)) (hlocks := hlocks) (fun h => by rw [hr] at h; cases h)
  have hmeth' : T.vm.method? m = some meth := X.method'
  refine ⟨T.setFrames fs, ?_, .returned (some (.int 1)), hrun, hended, rfl, ⟨_, rfl⟩, hW, hframe⟩
  jvm_step X.here [X.here.top, hx, hb, hdg, hmeth', hr, ret, narrow_b1]
  (try refine ⟨rfl, ?_⟩); (try refine ⟨rfl, ?_⟩)
  first | (intro acts; rw [hret _ acts rfl rfl rfl]) | rw [hret _ _ rfl rfl rfl]
  exact Steps.refl _
/-- what holds at the law's entry: the machine, the code, the tables' words (any of lw_tbl by 'hts w (by decide +kernel)'), the script of L ints xs at the cell b, what the Statement gives of the start (any of its parts by flat_of_before) -/
def lw_At (p : Program) (s : State) (m : MethodId) (meth : Method) (c : Code) (b L : Nat) (xs : Nat → Int32) : Prop :=
  p.tables.exec = Jvm.exec ∧ c.code = code ∧ meth.sig.returnType = ret ∧ c.maxLocals = 4 ∧ s.vm.findClass R_law = some m.cls ∧ (∀ w ∈ lw_tbl, w.before #[Value.ref b] s = true) ∧ va_X b L xs s s.heap ∧ b < s.heap.size ∧ meth.locks = false ∧ (Jvm.Cond.and given_1 narrow_1).before #[Value.ref b] s = true
/-! the law's cases -/
def lwX (p : Program) (s : State) (m : MethodId) (meth : Method) (c : Code) (b L : Nat) (xs : Nat → Int32) (D : va_G) (q qm tq : Nat → Nat) (cI cO : ClassId) : Prop := lw_At p s m meth c b L xs ∧ va_K D vwCl (cTys cI cO) s ∧ pEnv tq cI cO (fun x : Nat => s.heap.size ≤ x) s ∧ (q 39 = tq 39 ∧ q 40 = tq 40 ∧ q 41 = tq 41) ∧ cOk q ∧ mOk qm ∧ (∀ i, i < 39 → s.heap.size ≤ q i) ∧ (∀ j, j < 26 → s.heap.size ≤ qm j) ∧ ∀ i j, i < 39 → j < 26 → q i ≠ qm j
theorem lw_subC {s : State} {q : Nat → Nat} (h : ∀ i, i < 39 → s.heap.size ≤ q i) : ∀ x, cA q x → (fun x : Nat => s.heap.size ≤ x) x := fun x ⟨k, h1, h2⟩ => by rw [h2]; exact h k h1
theorem lw_subM {s : State} {q : Nat → Nat} (h : ∀ i, i < 26 → s.heap.size ≤ q i) : ∀ x, mA q x → (fun x : Nat => s.heap.size ≤ x) x := fun x ⟨k, h1, h2⟩ => by rw [h2]; exact h k h1
theorem lw_disC {q qm : Nat → Nat} {cI cO : ClassId} {I : Nat → Int32} {F : Nat → Nat → Int32} {h : Int64} (hne : ∀ i j, i < 39 → j < 26 → q i ≠ qm j) : ∀ (k : Nat) (x : Nat × va_E), (mW qm cI cO I F h)[k]? = some x → ¬ cA q x.1 := by
  intro k x hx ⟨i, h1, h2⟩
  have hk : k < 26 := by have := (List.getElem?_eq_some_iff.mp hx).1; unfold mW at this; rw [List.length_map, List.length_range] at this; exact this
  rw [mW_at k hk] at hx
  cases hx
  exact hne i k h1 hk h2.symm
theorem lw_disM {q qm : Nat → Nat} {cI cO : ClassId} {I : Nat → Int32} {F : Nat → Nat → Int32} (hne : ∀ i j, i < 39 → j < 26 → q i ≠ qm j) : ∀ (k : Nat) (x : Nat × va_E), (cW q cI cO I F)[k]? = some x → ¬ mA qm x.1 := by
  intro k x hx ⟨i, h1, h2⟩
  have hk : k < 39 := by have := (List.getElem?_eq_some_iff.mp hx).1; unfold cW at this; rw [List.length_map, List.length_range] at this; exact this
  rw [cW_at k hk] at hx
  cases hx
  exact hne k i hk h1 h2
theorem lw_cmp {x y : Int64} (h : x = y) : lg_cmp x y = 0 := by
  subst h
  have h : ¬ x > x := fun h => by
    rw [gt_iff_lt, Int64.lt_iff_toInt_lt] at h
    omega
  unfold lg_cmp
  rw [if_neg h, if_pos rfl]
set_option maxHeartbeats 4000000 in
set_option maxRecDepth 100000 in
theorem lw_c_letter {p : Program} {l : Launch} {e : Env} {s : State} {m : MethodId} {below : List Frame} {meth : Method} {c : Code} {b L : Nat} {xs : Nat → Int32} {D : va_G} {q qm tq : Nat → Nat} {cI cO : ClassId} (X : lwX p s m meth c b L xs D q qm tq cI cO) {k i : Nat} (hi : i + 4 ≤ L) (hL : L ≤ 2048) (hk : k < 100000) {Ic Im : Nat → Int32} {Fc Fm : Nat → Nat → Int32} {hm : Int64} (hR : RR k Ic Fc Im Fm) {H : Heap} {locs : List Loc} {ls : Array Slot} (hPc : va_P D vwCl (cW q cI cO Ic Fc) H) (hPm : va_P D vwCl (mW qm cI cI Im Fm hm) H) (hS : va_S (fun x : Nat => s.heap.size ≤ x) s.heap H locs) (hl : lv_has ls 4 [(0, .ref b), (1, .ref (q 0)), (2, .ref (qm 0)), (3, .int (nI i))]) (K : ∀ (Ic : Nat → Int32) (Fc : Nat → Nat → Int32) (Im : Nat → Int32) (Fm : Nat → Nat → Int32) (hm : Int64) (H : Heap) (locs : List Loc), va_P D vwCl (cW q cI cO Ic Fc) H → va_P D vwCl (mW qm cI cI Im Fm hm) H → va_S (fun x : Nat => s.heap.size ≤ x) s.heap H locs → RR (k + 1) Ic Fc Im Fm → W p l e room_1 s m #[Value.ref b] below meth c H locs 65 250119 (lw_Z below #[Value.ref b] s) (F0 m 797 ls [])) : W p l e room_1 s m #[Value.ref b] below meth c H locs 65 250119 (lw_Z below #[Value.ref b] s) (F0 m 152 ls []) := by
  obtain ⟨⟨hx, hb, hr, hml, hown, hts0, hX, hbl, hlocks, hgv⟩, hK, hE, ⟨e39, e40, e41⟩, hq, hqm, hAc, hAm, hne⟩ := X
  have hts : ∀ w ∈ wsL_law, w.before #[Value.ref b] s = true := fun w h => hts0 w (wsL_law_in w h)
  have hown : s.vm.findClass RL = some m.cls := hown
  have hbA : ¬ (fun x : Nat => s.heap.size ≤ x) b := Nat.not_le.mpr hbl
  have hKm : va_K D vwCl (mTys cI) s := hK.sub [0] rfl
  have hsC := lw_subC hAc
  have hsM := lw_subM hAm
  have v0 : vp_in (nI i) L := vp_in_nI (by omega) (by omega)
  have v1 : vp_in (nI i + (1 : Int32)) L := by rw [nI_1]; exact vp_in_nI (by omega) (by omega)
  have v2 : vp_in (nI i + (2 : Int32)) L := by rw [show (2 : Int32) = nI 2 by decide, nI_add]; exact vp_in_nI (by omega) (by omega)
  have v3 : vp_in (nI i + (3 : Int32)) L := by rw [show (3 : Int32) = nI 3 by decide, nI_add]; exact vp_in_nI (by omega) (by omega)
  refine lv_aload_n hx hb dL_law_152 rfl (lv_at hl 1 rfl) ?_
  refine lv_aload_n hx hb dL_law_153 rfl (lv_at hl 0 rfl) ?_
  refine lv_iload_n hx hb dL_law_154 rfl (lv_at hl 3 rfl) ?_
  refine lv_iconst (v := (1 : Int32)) hx hb dL_law_155 (by decide) ?_
  refine lv_iadd hx hb dL_law_156 ?_
  refine va_sld hx hb hX hbl hbA hS v1 dL_law_157 ?_
  refine lwCallI (D := D) (A1 := cA q) (wo := mW qm cI cI Im Fm hm) (va_runV (As := [.int (xs (nI i + (1 : Int32)).toNatClampNeg)]) (rest := []) ⟨hx, hb, hml, hown, hts⟩ (c_X8_letter l D q cI cO hq (xs (nI i + (1 : Int32)).toNatClampNeg) Ic Fc _ (j_letter (hm := hm) hR)) (cwV 1 hts gL_law_X8_letter rfl rfl rfl (by decide +kernel) ⟨Nat.le_of_ble_eq_true rfl, Nat.le_of_ble_eq_true rfl⟩) (lwPreV hE hsC e39 e40 e41 hK hPc hS) rfl rfl hl.1 rfl (lv_room (Nat.le_of_ble_eq_true rfl)) dL_law_158 ⟨Nat.le_of_ble_eq_true rfl, Nat.le_of_ble_eq_true rfl⟩) hS hsC hPm (lw_disC hne) (fun r u H locs hPc hPm hS h => ?_)
  obtain ⟨Ic2, Fc2⟩ := u
  have hPc : va_P D vwCl (cW q cI cO Ic2 Fc2) H := hPc
  refine lv_aload_n hx hb dL_law_161 rfl (lv_at hl 2 rfl) ?_
  refine lv_aload_n hx hb dL_law_162 rfl (lv_at hl 0 rfl) ?_
  refine lv_iload_n hx hb dL_law_163 rfl (lv_at hl 3 rfl) ?_
  refine lv_iconst (v := (1 : Int32)) hx hb dL_law_164 (by decide) ?_
  refine lv_iadd hx hb dL_law_165 ?_
  refine va_sld hx hb hX hbl hbA hS v1 dL_law_166 ?_
  refine lwCallI (D := D) (A1 := mA qm) (wo := cW q cI cO Ic2 Fc2) (va_runV (As := [.int (xs (nI i + (1 : Int32)).toNatClampNeg)]) (rest := [.int r]) ⟨hx, hb, hml, hown, hts⟩ (c_X9_letter l D qm cI cI hqm (xs (nI i + (1 : Int32)).toNatClampNeg) Im Fm hm _ h) (cwV 1 hts gL_law_X9_letter rfl rfl rfl (by decide +kernel) ⟨Nat.le_of_ble_eq_true rfl, Nat.le_of_ble_eq_true rfl⟩) (gPreV (ci := 9) (q0 := 0) (mEokA (A := fun x : Nat => s.heap.size ≤ x)) trivial hKm hPm hS rfl mAt0) rfl rfl hl.1 rfl (lv_room (Nat.le_of_ble_eq_true rfl)) dL_law_167 ⟨Nat.le_of_ble_eq_true rfl, Nat.le_of_ble_eq_true rfl⟩) hS hsM hPc (lw_disM hne) (fun r2 u H locs hPm hPc hS h => ?_)
  obtain ⟨Im2, Fm2, hm2⟩ := u
  have hPm : va_P D vwCl (mW qm cI cI Im2 Fm2 hm2) H := hPm
  exact lv_icmp_eq (tgt := 797) hx hb dL_law_170 (by decide) (fun _ => K Ic2 Fc2 Im2 Fm2 hm2 _ _ hPc hPm hS (RR_up h.2.2)) (fun z => absurd h.1 z)
set_option maxHeartbeats 4000000 in
set_option maxRecDepth 100000 in
theorem lw_c_blank {p : Program} {l : Launch} {e : Env} {s : State} {m : MethodId} {below : List Frame} {meth : Method} {c : Code} {b L : Nat} {xs : Nat → Int32} {D : va_G} {q qm tq : Nat → Nat} {cI cO : ClassId} (X : lwX p s m meth c b L xs D q qm tq cI cO) {k i : Nat} (hi : i + 4 ≤ L) (hL : L ≤ 2048) (hk : k < 100000) {Ic Im : Nat → Int32} {Fc Fm : Nat → Nat → Int32} {hm : Int64} (hR : RR k Ic Fc Im Fm) {H : Heap} {locs : List Loc} {ls : Array Slot} (hPc : va_P D vwCl (cW q cI cO Ic Fc) H) (hPm : va_P D vwCl (mW qm cI cI Im Fm hm) H) (hS : va_S (fun x : Nat => s.heap.size ≤ x) s.heap H locs) (hl : lv_has ls 4 [(0, .ref b), (1, .ref (q 0)), (2, .ref (qm 0)), (3, .int (nI i))]) (K : ∀ (Ic : Nat → Int32) (Fc : Nat → Nat → Int32) (Im : Nat → Int32) (Fm : Nat → Nat → Int32) (hm : Int64) (H : Heap) (locs : List Loc), va_P D vwCl (cW q cI cO Ic Fc) H → va_P D vwCl (mW qm cI cI Im Fm hm) H → va_S (fun x : Nat => s.heap.size ≤ x) s.heap H locs → RR (k + 1) Ic Fc Im Fm → W p l e room_1 s m #[Value.ref b] below meth c H locs 65 250119 (lw_Z below #[Value.ref b] s) (F0 m 797 ls [])) : W p l e room_1 s m #[Value.ref b] below meth c H locs 65 250119 (lw_Z below #[Value.ref b] s) (F0 m 175 ls []) := by
  obtain ⟨⟨hx, hb, hr, hml, hown, hts0, hX, hbl, hlocks, hgv⟩, hK, hE, ⟨e39, e40, e41⟩, hq, hqm, hAc, hAm, hne⟩ := X
  have hts : ∀ w ∈ wsL_law, w.before #[Value.ref b] s = true := fun w h => hts0 w (wsL_law_in w h)
  have hown : s.vm.findClass RL = some m.cls := hown
  have hbA : ¬ (fun x : Nat => s.heap.size ≤ x) b := Nat.not_le.mpr hbl
  have hKm : va_K D vwCl (mTys cI) s := hK.sub [0] rfl
  have hsC := lw_subC hAc
  have hsM := lw_subM hAm
  have v0 : vp_in (nI i) L := vp_in_nI (by omega) (by omega)
  have v1 : vp_in (nI i + (1 : Int32)) L := by rw [nI_1]; exact vp_in_nI (by omega) (by omega)
  have v2 : vp_in (nI i + (2 : Int32)) L := by rw [show (2 : Int32) = nI 2 by decide, nI_add]; exact vp_in_nI (by omega) (by omega)
  have v3 : vp_in (nI i + (3 : Int32)) L := by rw [show (3 : Int32) = nI 3 by decide, nI_add]; exact vp_in_nI (by omega) (by omega)
  refine lv_aload_n hx hb dL_law_175 rfl (lv_at hl 1 rfl) ?_
  refine lwCallI (D := D) (A1 := cA q) (wo := mW qm cI cI Im Fm hm) (va_runV (As := []) (rest := []) ⟨hx, hb, hml, hown, hts⟩ (c_X8_blank l D q cI cO hq  Ic Fc _ (j_blank (hm := hm) hR)) (cwV 0 hts gL_law_X8_blank rfl rfl rfl (by decide +kernel) ⟨Nat.le_of_ble_eq_true rfl, Nat.le_of_ble_eq_true rfl⟩) (lwPreV hE hsC e39 e40 e41 hK hPc hS) rfl rfl hl.1 rfl (lv_room (Nat.le_of_ble_eq_true rfl)) dL_law_176 ⟨Nat.le_of_ble_eq_true rfl, Nat.le_of_ble_eq_true rfl⟩) hS hsC hPm (lw_disC hne) (fun r u H locs hPc hPm hS h => ?_)
  obtain ⟨Ic2, Fc2⟩ := u
  have hPc : va_P D vwCl (cW q cI cO Ic2 Fc2) H := hPc
  refine lv_aload_n hx hb dL_law_179 rfl (lv_at hl 2 rfl) ?_
  refine lwCallI (D := D) (A1 := mA qm) (wo := cW q cI cO Ic2 Fc2) (va_runV (As := []) (rest := [.int r]) ⟨hx, hb, hml, hown, hts⟩ (c_X9_blank l D qm cI cI hqm  Im Fm hm _ h) (cwV 0 hts gL_law_X9_blank rfl rfl rfl (by decide +kernel) ⟨Nat.le_of_ble_eq_true rfl, Nat.le_of_ble_eq_true rfl⟩) (gPreV (ci := 9) (q0 := 0) (mEokA (A := fun x : Nat => s.heap.size ≤ x)) trivial hKm hPm hS rfl mAt0) rfl rfl hl.1 rfl (lv_room (Nat.le_of_ble_eq_true rfl)) dL_law_180 ⟨Nat.le_of_ble_eq_true rfl, Nat.le_of_ble_eq_true rfl⟩) hS hsM hPc (lw_disM hne) (fun r2 u H locs hPm hPc hS h => ?_)
  obtain ⟨Im2, Fm2, hm2⟩ := u
  have hPm : va_P D vwCl (mW qm cI cI Im2 Fm2 hm2) H := hPm
  exact lv_icmp_eq (tgt := 797) hx hb dL_law_183 (by decide) (fun _ => K Ic2 Fc2 Im2 Fm2 hm2 _ _ hPc hPm hS (RR_up h.2.2)) (fun z => absurd h.1 z)
set_option maxHeartbeats 4000000 in
set_option maxRecDepth 100000 in
theorem lw_c_fault {p : Program} {l : Launch} {e : Env} {s : State} {m : MethodId} {below : List Frame} {meth : Method} {c : Code} {b L : Nat} {xs : Nat → Int32} {D : va_G} {q qm tq : Nat → Nat} {cI cO : ClassId} (X : lwX p s m meth c b L xs D q qm tq cI cO) {k i : Nat} (hi : i + 4 ≤ L) (hL : L ≤ 2048) (hk : k < 100000) {Ic Im : Nat → Int32} {Fc Fm : Nat → Nat → Int32} {hm : Int64} (hR : RR k Ic Fc Im Fm) {H : Heap} {locs : List Loc} {ls : Array Slot} (hPc : va_P D vwCl (cW q cI cO Ic Fc) H) (hPm : va_P D vwCl (mW qm cI cI Im Fm hm) H) (hS : va_S (fun x : Nat => s.heap.size ≤ x) s.heap H locs) (hl : lv_has ls 4 [(0, .ref b), (1, .ref (q 0)), (2, .ref (qm 0)), (3, .int (nI i))]) (K : ∀ (Ic : Nat → Int32) (Fc : Nat → Nat → Int32) (Im : Nat → Int32) (Fm : Nat → Nat → Int32) (hm : Int64) (H : Heap) (locs : List Loc), va_P D vwCl (cW q cI cO Ic Fc) H → va_P D vwCl (mW qm cI cI Im Fm hm) H → va_S (fun x : Nat => s.heap.size ≤ x) s.heap H locs → RR (k + 1) Ic Fc Im Fm → W p l e room_1 s m #[Value.ref b] below meth c H locs 65 250119 (lw_Z below #[Value.ref b] s) (F0 m 797 ls [])) : W p l e room_1 s m #[Value.ref b] below meth c H locs 65 250119 (lw_Z below #[Value.ref b] s) (F0 m 188 ls []) := by
  obtain ⟨⟨hx, hb, hr, hml, hown, hts0, hX, hbl, hlocks, hgv⟩, hK, hE, ⟨e39, e40, e41⟩, hq, hqm, hAc, hAm, hne⟩ := X
  have hts : ∀ w ∈ wsL_law, w.before #[Value.ref b] s = true := fun w h => hts0 w (wsL_law_in w h)
  have hown : s.vm.findClass RL = some m.cls := hown
  have hbA : ¬ (fun x : Nat => s.heap.size ≤ x) b := Nat.not_le.mpr hbl
  have hKm : va_K D vwCl (mTys cI) s := hK.sub [0] rfl
  have hsC := lw_subC hAc
  have hsM := lw_subM hAm
  have v0 : vp_in (nI i) L := vp_in_nI (by omega) (by omega)
  have v1 : vp_in (nI i + (1 : Int32)) L := by rw [nI_1]; exact vp_in_nI (by omega) (by omega)
  have v2 : vp_in (nI i + (2 : Int32)) L := by rw [show (2 : Int32) = nI 2 by decide, nI_add]; exact vp_in_nI (by omega) (by omega)
  have v3 : vp_in (nI i + (3 : Int32)) L := by rw [show (3 : Int32) = nI 3 by decide, nI_add]; exact vp_in_nI (by omega) (by omega)
  refine lv_aload_n hx hb dL_law_188 rfl (lv_at hl 1 rfl) ?_
  refine lwCallI (D := D) (A1 := cA q) (wo := mW qm cI cI Im Fm hm) (va_runV (As := []) (rest := []) ⟨hx, hb, hml, hown, hts⟩ (c_X8_fault l D q cI cO hq  Ic Fc _ (j_fault (hm := hm) hR)) (cwV 0 hts gL_law_X8_fault rfl rfl rfl (by decide +kernel) ⟨Nat.le_of_ble_eq_true rfl, Nat.le_of_ble_eq_true rfl⟩) (lwPreV hE hsC e39 e40 e41 hK hPc hS) rfl rfl hl.1 rfl (lv_room (Nat.le_of_ble_eq_true rfl)) dL_law_189 ⟨Nat.le_of_ble_eq_true rfl, Nat.le_of_ble_eq_true rfl⟩) hS hsC hPm (lw_disC hne) (fun r u H locs hPc hPm hS h => ?_)
  obtain ⟨Ic2, Fc2⟩ := u
  have hPc : va_P D vwCl (cW q cI cO Ic2 Fc2) H := hPc
  refine lv_aload_n hx hb dL_law_192 rfl (lv_at hl 2 rfl) ?_
  refine lwCallI (D := D) (A1 := mA qm) (wo := cW q cI cO Ic2 Fc2) (va_runV (As := []) (rest := [.int r]) ⟨hx, hb, hml, hown, hts⟩ (c_X9_fault l D qm cI cI hqm  Im Fm hm _ h) (cwV 0 hts gL_law_X9_fault rfl rfl rfl (by decide +kernel) ⟨Nat.le_of_ble_eq_true rfl, Nat.le_of_ble_eq_true rfl⟩) (gPreV (ci := 9) (q0 := 0) (mEokA (A := fun x : Nat => s.heap.size ≤ x)) trivial hKm hPm hS rfl mAt0) rfl rfl hl.1 rfl (lv_room (Nat.le_of_ble_eq_true rfl)) dL_law_193 ⟨Nat.le_of_ble_eq_true rfl, Nat.le_of_ble_eq_true rfl⟩) hS hsM hPc (lw_disM hne) (fun r2 u H locs hPm hPc hS h => ?_)
  obtain ⟨Im2, Fm2, hm2⟩ := u
  have hPm : va_P D vwCl (mW qm cI cI Im2 Fm2 hm2) H := hPm
  exact lv_icmp_eq (tgt := 797) hx hb dL_law_196 (by decide) (fun _ => K Ic2 Fc2 Im2 Fm2 hm2 _ _ hPc hPm hS (RR_up h.2.2)) (fun z => absurd h.1 z)
set_option maxHeartbeats 4000000 in
set_option maxRecDepth 100000 in
theorem lw_c_part {p : Program} {l : Launch} {e : Env} {s : State} {m : MethodId} {below : List Frame} {meth : Method} {c : Code} {b L : Nat} {xs : Nat → Int32} {D : va_G} {q qm tq : Nat → Nat} {cI cO : ClassId} (X : lwX p s m meth c b L xs D q qm tq cI cO) {k i : Nat} (hi : i + 4 ≤ L) (hL : L ≤ 2048) (hk : k < 100000) {Ic Im : Nat → Int32} {Fc Fm : Nat → Nat → Int32} {hm : Int64} (hR : RR k Ic Fc Im Fm) {H : Heap} {locs : List Loc} {ls : Array Slot} (hPc : va_P D vwCl (cW q cI cO Ic Fc) H) (hPm : va_P D vwCl (mW qm cI cI Im Fm hm) H) (hS : va_S (fun x : Nat => s.heap.size ≤ x) s.heap H locs) (hl : lv_has ls 4 [(0, .ref b), (1, .ref (q 0)), (2, .ref (qm 0)), (3, .int (nI i))]) (K : ∀ (Ic : Nat → Int32) (Fc : Nat → Nat → Int32) (Im : Nat → Int32) (Fm : Nat → Nat → Int32) (hm : Int64) (H : Heap) (locs : List Loc), va_P D vwCl (cW q cI cO Ic Fc) H → va_P D vwCl (mW qm cI cI Im Fm hm) H → va_S (fun x : Nat => s.heap.size ≤ x) s.heap H locs → RR (k + 1) Ic Fc Im Fm → W p l e room_1 s m #[Value.ref b] below meth c H locs 65 250119 (lw_Z below #[Value.ref b] s) (F0 m 797 ls [])) : W p l e room_1 s m #[Value.ref b] below meth c H locs 65 250119 (lw_Z below #[Value.ref b] s) (F0 m 201 ls []) := by
  obtain ⟨⟨hx, hb, hr, hml, hown, hts0, hX, hbl, hlocks, hgv⟩, hK, hE, ⟨e39, e40, e41⟩, hq, hqm, hAc, hAm, hne⟩ := X
  have hts : ∀ w ∈ wsL_law, w.before #[Value.ref b] s = true := fun w h => hts0 w (wsL_law_in w h)
  have hown : s.vm.findClass RL = some m.cls := hown
  have hbA : ¬ (fun x : Nat => s.heap.size ≤ x) b := Nat.not_le.mpr hbl
  have hKm : va_K D vwCl (mTys cI) s := hK.sub [0] rfl
  have hsC := lw_subC hAc
  have hsM := lw_subM hAm
  have v0 : vp_in (nI i) L := vp_in_nI (by omega) (by omega)
  have v1 : vp_in (nI i + (1 : Int32)) L := by rw [nI_1]; exact vp_in_nI (by omega) (by omega)
  have v2 : vp_in (nI i + (2 : Int32)) L := by rw [show (2 : Int32) = nI 2 by decide, nI_add]; exact vp_in_nI (by omega) (by omega)
  have v3 : vp_in (nI i + (3 : Int32)) L := by rw [show (3 : Int32) = nI 3 by decide, nI_add]; exact vp_in_nI (by omega) (by omega)
  refine lv_aload_n hx hb dL_law_201 rfl (lv_at hl 1 rfl) ?_
  refine lwCallI (D := D) (A1 := cA q) (wo := mW qm cI cI Im Fm hm) (va_runV (As := []) (rest := []) ⟨hx, hb, hml, hown, hts⟩ (c_X8_part l D q cI cO hq  Ic Fc _ (j_part (by omega) (hm := hm) hR)) (cwV 0 hts gL_law_X8_part rfl rfl rfl (by decide +kernel) ⟨Nat.le_of_ble_eq_true rfl, Nat.le_of_ble_eq_true rfl⟩) (lwPreV hE hsC e39 e40 e41 hK hPc hS) rfl rfl hl.1 rfl (lv_room (Nat.le_of_ble_eq_true rfl)) dL_law_202 ⟨Nat.le_of_ble_eq_true rfl, Nat.le_of_ble_eq_true rfl⟩) hS hsC hPm (lw_disC hne) (fun r u H locs hPc hPm hS h => ?_)
  obtain ⟨Ic2, Fc2⟩ := u
  have hPc : va_P D vwCl (cW q cI cO Ic2 Fc2) H := hPc
  refine lv_aload_n hx hb dL_law_205 rfl (lv_at hl 2 rfl) ?_
  refine lwCallI (D := D) (A1 := mA qm) (wo := cW q cI cO Ic2 Fc2) (va_runV (As := []) (rest := [.int r]) ⟨hx, hb, hml, hown, hts⟩ (c_X9_part l D qm cI cI hqm  Im Fm hm _ h) (cwV 0 hts gL_law_X9_part rfl rfl rfl (by decide +kernel) ⟨Nat.le_of_ble_eq_true rfl, Nat.le_of_ble_eq_true rfl⟩) (gPreV (ci := 9) (q0 := 0) (mEokA (A := fun x : Nat => s.heap.size ≤ x)) trivial hKm hPm hS rfl mAt0) rfl rfl hl.1 rfl (lv_room (Nat.le_of_ble_eq_true rfl)) dL_law_206 ⟨Nat.le_of_ble_eq_true rfl, Nat.le_of_ble_eq_true rfl⟩) hS hsM hPc (lw_disM hne) (fun r2 u H locs hPm hPc hS h => ?_)
  obtain ⟨Im2, Fm2, hm2⟩ := u
  have hPm : va_P D vwCl (mW qm cI cI Im2 Fm2 hm2) H := hPm
  exact lv_icmp_eq (tgt := 797) hx hb dL_law_209 (by decide) (fun _ => K Ic2 Fc2 Im2 Fm2 hm2 _ _ hPc hPm hS (h.2.2)) (fun z => absurd h.1 z)
set_option maxHeartbeats 4000000 in
set_option maxRecDepth 100000 in
theorem lw_c_chord {p : Program} {l : Launch} {e : Env} {s : State} {m : MethodId} {below : List Frame} {meth : Method} {c : Code} {b L : Nat} {xs : Nat → Int32} {D : va_G} {q qm tq : Nat → Nat} {cI cO : ClassId} (X : lwX p s m meth c b L xs D q qm tq cI cO) {k i : Nat} (hi : i + 4 ≤ L) (hL : L ≤ 2048) (hk : k < 100000) {Ic Im : Nat → Int32} {Fc Fm : Nat → Nat → Int32} {hm : Int64} (hR : RR k Ic Fc Im Fm) {H : Heap} {locs : List Loc} {ls : Array Slot} (hPc : va_P D vwCl (cW q cI cO Ic Fc) H) (hPm : va_P D vwCl (mW qm cI cI Im Fm hm) H) (hS : va_S (fun x : Nat => s.heap.size ≤ x) s.heap H locs) (hl : lv_has ls 4 [(0, .ref b), (1, .ref (q 0)), (2, .ref (qm 0)), (3, .int (nI i))]) (K : ∀ (Ic : Nat → Int32) (Fc : Nat → Nat → Int32) (Im : Nat → Int32) (Fm : Nat → Nat → Int32) (hm : Int64) (H : Heap) (locs : List Loc), va_P D vwCl (cW q cI cO Ic Fc) H → va_P D vwCl (mW qm cI cI Im Fm hm) H → va_S (fun x : Nat => s.heap.size ≤ x) s.heap H locs → RR (k + 1) Ic Fc Im Fm → W p l e room_1 s m #[Value.ref b] below meth c H locs 65 250119 (lw_Z below #[Value.ref b] s) (F0 m 797 ls [])) : W p l e room_1 s m #[Value.ref b] below meth c H locs 65 250119 (lw_Z below #[Value.ref b] s) (F0 m 214 ls []) := by
  obtain ⟨⟨hx, hb, hr, hml, hown, hts0, hX, hbl, hlocks, hgv⟩, hK, hE, ⟨e39, e40, e41⟩, hq, hqm, hAc, hAm, hne⟩ := X
  have hts : ∀ w ∈ wsL_law, w.before #[Value.ref b] s = true := fun w h => hts0 w (wsL_law_in w h)
  have hown : s.vm.findClass RL = some m.cls := hown
  have hbA : ¬ (fun x : Nat => s.heap.size ≤ x) b := Nat.not_le.mpr hbl
  have hKm : va_K D vwCl (mTys cI) s := hK.sub [0] rfl
  have hsC := lw_subC hAc
  have hsM := lw_subM hAm
  have v0 : vp_in (nI i) L := vp_in_nI (by omega) (by omega)
  have v1 : vp_in (nI i + (1 : Int32)) L := by rw [nI_1]; exact vp_in_nI (by omega) (by omega)
  have v2 : vp_in (nI i + (2 : Int32)) L := by rw [show (2 : Int32) = nI 2 by decide, nI_add]; exact vp_in_nI (by omega) (by omega)
  have v3 : vp_in (nI i + (3 : Int32)) L := by rw [show (3 : Int32) = nI 3 by decide, nI_add]; exact vp_in_nI (by omega) (by omega)
  refine lv_aload_n hx hb dL_law_214 rfl (lv_at hl 1 rfl) ?_
  refine lv_aload_n hx hb dL_law_215 rfl (lv_at hl 0 rfl) ?_
  refine lv_iload_n hx hb dL_law_216 rfl (lv_at hl 3 rfl) ?_
  refine lv_iconst (v := (1 : Int32)) hx hb dL_law_217 (by decide) ?_
  refine lv_iadd hx hb dL_law_218 ?_
  refine va_sld hx hb hX hbl hbA hS v1 dL_law_219 ?_
  refine lv_aload_n hx hb dL_law_220 rfl (lv_at hl 0 rfl) ?_
  refine lv_iload_n hx hb dL_law_221 rfl (lv_at hl 3 rfl) ?_
  refine lv_iconst (v := (2 : Int32)) hx hb dL_law_222 (by decide) ?_
  refine lv_iadd hx hb dL_law_223 ?_
  refine va_sld hx hb hX hbl hbA hS v2 dL_law_224 ?_
  refine lwCallI (D := D) (A1 := cA q) (wo := mW qm cI cI Im Fm hm) (va_runV (As := [.int (xs (nI i + (1 : Int32)).toNatClampNeg), .int (xs (nI i + (2 : Int32)).toNatClampNeg)]) (rest := []) ⟨hx, hb, hml, hown, hts⟩ (c_X8_chord l D q cI cO hq (xs (nI i + (1 : Int32)).toNatClampNeg) (xs (nI i + (2 : Int32)).toNatClampNeg) Ic Fc _ (j_chord (hm := hm) hR)) (cwV 2 hts gL_law_X8_chord rfl rfl rfl (by decide +kernel) ⟨Nat.le_of_ble_eq_true rfl, Nat.le_of_ble_eq_true rfl⟩) (lwPreV hE hsC e39 e40 e41 hK hPc hS) rfl rfl hl.1 rfl (lv_room (Nat.le_of_ble_eq_true rfl)) dL_law_225 ⟨Nat.le_of_ble_eq_true rfl, Nat.le_of_ble_eq_true rfl⟩) hS hsC hPm (lw_disC hne) (fun r u H locs hPc hPm hS h => ?_)
  have hPc : va_P D vwCl (cW q cI cO Ic Fc) H := hPc
  refine lv_aload_n hx hb dL_law_228 rfl (lv_at hl 2 rfl) ?_
  refine lv_aload_n hx hb dL_law_229 rfl (lv_at hl 0 rfl) ?_
  refine lv_iload_n hx hb dL_law_230 rfl (lv_at hl 3 rfl) ?_
  refine lv_iconst (v := (1 : Int32)) hx hb dL_law_231 (by decide) ?_
  refine lv_iadd hx hb dL_law_232 ?_
  refine va_sld hx hb hX hbl hbA hS v1 dL_law_233 ?_
  refine lv_aload_n hx hb dL_law_234 rfl (lv_at hl 0 rfl) ?_
  refine lv_iload_n hx hb dL_law_235 rfl (lv_at hl 3 rfl) ?_
  refine lv_iconst (v := (2 : Int32)) hx hb dL_law_236 (by decide) ?_
  refine lv_iadd hx hb dL_law_237 ?_
  refine va_sld hx hb hX hbl hbA hS v2 dL_law_238 ?_
  refine lwCallI (D := D) (A1 := mA qm) (wo := cW q cI cO Ic Fc) (va_runV (As := [.int (xs (nI i + (1 : Int32)).toNatClampNeg), .int (xs (nI i + (2 : Int32)).toNatClampNeg)]) (rest := [.int r]) ⟨hx, hb, hml, hown, hts⟩ (c_X9_chord l D qm cI cI hqm (xs (nI i + (1 : Int32)).toNatClampNeg) (xs (nI i + (2 : Int32)).toNatClampNeg) Im Fm hm _ h) (cwV 2 hts gL_law_X9_chord rfl rfl rfl (by decide +kernel) ⟨Nat.le_of_ble_eq_true rfl, Nat.le_of_ble_eq_true rfl⟩) (gPreV (ci := 9) (q0 := 0) (mEokA (A := fun x : Nat => s.heap.size ≤ x)) trivial hKm hPm hS rfl mAt0) rfl rfl hl.1 rfl (lv_room (Nat.le_of_ble_eq_true rfl)) dL_law_239 ⟨Nat.le_of_ble_eq_true rfl, Nat.le_of_ble_eq_true rfl⟩) hS hsM hPc (lw_disM hne) (fun r2 u H locs hPm hPc hS h => ?_)
  obtain ⟨Im2, Fm2, hm2⟩ := u
  have hPm : va_P D vwCl (mW qm cI cI Im2 Fm2 hm2) H := hPm
  exact lv_icmp_eq (tgt := 797) hx hb dL_law_242 (by decide) (fun _ => K Ic Fc Im2 Fm2 hm2 _ _ hPc hPm hS (RR_up h.2.2)) (fun z => absurd h.1 z)
set_option maxHeartbeats 4000000 in
set_option maxRecDepth 100000 in
theorem lw_c_as {p : Program} {l : Launch} {e : Env} {s : State} {m : MethodId} {below : List Frame} {meth : Method} {c : Code} {b L : Nat} {xs : Nat → Int32} {D : va_G} {q qm tq : Nat → Nat} {cI cO : ClassId} (X : lwX p s m meth c b L xs D q qm tq cI cO) {k i : Nat} (hi : i + 4 ≤ L) (hL : L ≤ 2048) (hk : k < 100000) {Ic Im : Nat → Int32} {Fc Fm : Nat → Nat → Int32} {hm : Int64} (hR : RR k Ic Fc Im Fm) {H : Heap} {locs : List Loc} {ls : Array Slot} (hPc : va_P D vwCl (cW q cI cO Ic Fc) H) (hPm : va_P D vwCl (mW qm cI cI Im Fm hm) H) (hS : va_S (fun x : Nat => s.heap.size ≤ x) s.heap H locs) (hl : lv_has ls 4 [(0, .ref b), (1, .ref (q 0)), (2, .ref (qm 0)), (3, .int (nI i))]) (K : ∀ (Ic : Nat → Int32) (Fc : Nat → Nat → Int32) (Im : Nat → Int32) (Fm : Nat → Nat → Int32) (hm : Int64) (H : Heap) (locs : List Loc), va_P D vwCl (cW q cI cO Ic Fc) H → va_P D vwCl (mW qm cI cI Im Fm hm) H → va_S (fun x : Nat => s.heap.size ≤ x) s.heap H locs → RR (k + 1) Ic Fc Im Fm → W p l e room_1 s m #[Value.ref b] below meth c H locs 65 250119 (lw_Z below #[Value.ref b] s) (F0 m 797 ls [])) : W p l e room_1 s m #[Value.ref b] below meth c H locs 65 250119 (lw_Z below #[Value.ref b] s) (F0 m 247 ls []) := by
  obtain ⟨⟨hx, hb, hr, hml, hown, hts0, hX, hbl, hlocks, hgv⟩, hK, hE, ⟨e39, e40, e41⟩, hq, hqm, hAc, hAm, hne⟩ := X
  have hts : ∀ w ∈ wsL_law, w.before #[Value.ref b] s = true := fun w h => hts0 w (wsL_law_in w h)
  have hown : s.vm.findClass RL = some m.cls := hown
  have hbA : ¬ (fun x : Nat => s.heap.size ≤ x) b := Nat.not_le.mpr hbl
  have hKm : va_K D vwCl (mTys cI) s := hK.sub [0] rfl
  have hsC := lw_subC hAc
  have hsM := lw_subM hAm
  have v0 : vp_in (nI i) L := vp_in_nI (by omega) (by omega)
  have v1 : vp_in (nI i + (1 : Int32)) L := by rw [nI_1]; exact vp_in_nI (by omega) (by omega)
  have v2 : vp_in (nI i + (2 : Int32)) L := by rw [show (2 : Int32) = nI 2 by decide, nI_add]; exact vp_in_nI (by omega) (by omega)
  have v3 : vp_in (nI i + (3 : Int32)) L := by rw [show (3 : Int32) = nI 3 by decide, nI_add]; exact vp_in_nI (by omega) (by omega)
  refine lv_aload_n hx hb dL_law_247 rfl (lv_at hl 1 rfl) ?_
  refine lv_aload_n hx hb dL_law_248 rfl (lv_at hl 0 rfl) ?_
  refine lv_iload_n hx hb dL_law_249 rfl (lv_at hl 3 rfl) ?_
  refine lv_iconst (v := (1 : Int32)) hx hb dL_law_250 (by decide) ?_
  refine lv_iadd hx hb dL_law_251 ?_
  refine va_sld hx hb hX hbl hbA hS v1 dL_law_252 ?_
  refine lv_aload_n hx hb dL_law_253 rfl (lv_at hl 0 rfl) ?_
  refine lv_iload_n hx hb dL_law_254 rfl (lv_at hl 3 rfl) ?_
  refine lv_iconst (v := (2 : Int32)) hx hb dL_law_255 (by decide) ?_
  refine lv_iadd hx hb dL_law_256 ?_
  refine va_sld hx hb hX hbl hbA hS v2 dL_law_257 ?_
  refine lwCallI (D := D) (A1 := cA q) (wo := mW qm cI cI Im Fm hm) (va_runV (As := [.int (xs (nI i + (1 : Int32)).toNatClampNeg), .int (xs (nI i + (2 : Int32)).toNatClampNeg)]) (rest := []) ⟨hx, hb, hml, hown, hts⟩ (c_X8_as l D q cI cO hq (xs (nI i + (1 : Int32)).toNatClampNeg) (xs (nI i + (2 : Int32)).toNatClampNeg) Ic Fc _ (j_as (hm := hm) hR)) (cwV 2 hts gL_law_X8_as rfl rfl rfl (by decide +kernel) ⟨Nat.le_of_ble_eq_true rfl, Nat.le_of_ble_eq_true rfl⟩) (lwPreV hE hsC e39 e40 e41 hK hPc hS) rfl rfl hl.1 rfl (lv_room (Nat.le_of_ble_eq_true rfl)) dL_law_258 ⟨Nat.le_of_ble_eq_true rfl, Nat.le_of_ble_eq_true rfl⟩) hS hsC hPm (lw_disC hne) (fun r u H locs hPc hPm hS h => ?_)
  have hPc : va_P D vwCl (cW q cI cO Ic Fc) H := hPc
  refine lv_aload_n hx hb dL_law_261 rfl (lv_at hl 2 rfl) ?_
  refine lv_aload_n hx hb dL_law_262 rfl (lv_at hl 0 rfl) ?_
  refine lv_iload_n hx hb dL_law_263 rfl (lv_at hl 3 rfl) ?_
  refine lv_iconst (v := (1 : Int32)) hx hb dL_law_264 (by decide) ?_
  refine lv_iadd hx hb dL_law_265 ?_
  refine va_sld hx hb hX hbl hbA hS v1 dL_law_266 ?_
  refine lv_aload_n hx hb dL_law_267 rfl (lv_at hl 0 rfl) ?_
  refine lv_iload_n hx hb dL_law_268 rfl (lv_at hl 3 rfl) ?_
  refine lv_iconst (v := (2 : Int32)) hx hb dL_law_269 (by decide) ?_
  refine lv_iadd hx hb dL_law_270 ?_
  refine va_sld hx hb hX hbl hbA hS v2 dL_law_271 ?_
  refine lwCallI (D := D) (A1 := mA qm) (wo := cW q cI cO Ic Fc) (va_runV (As := [.int (xs (nI i + (1 : Int32)).toNatClampNeg), .int (xs (nI i + (2 : Int32)).toNatClampNeg)]) (rest := [.int r]) ⟨hx, hb, hml, hown, hts⟩ (c_X9_as l D qm cI cI hqm (xs (nI i + (1 : Int32)).toNatClampNeg) (xs (nI i + (2 : Int32)).toNatClampNeg) Im Fm hm _ h) (cwV 2 hts gL_law_X9_as rfl rfl rfl (by decide +kernel) ⟨Nat.le_of_ble_eq_true rfl, Nat.le_of_ble_eq_true rfl⟩) (gPreV (ci := 9) (q0 := 0) (mEokA (A := fun x : Nat => s.heap.size ≤ x)) trivial hKm hPm hS rfl mAt0) rfl rfl hl.1 rfl (lv_room (Nat.le_of_ble_eq_true rfl)) dL_law_272 ⟨Nat.le_of_ble_eq_true rfl, Nat.le_of_ble_eq_true rfl⟩) hS hsM hPc (lw_disM hne) (fun r2 u H locs hPm hPc hS h => ?_)
  have hPm : va_P D vwCl (mW qm cI cI Im Fm hm) H := hPm
  exact lv_icmp_eq (tgt := 797) hx hb dL_law_275 (by decide) (fun _ => K Ic Fc Im Fm hm _ _ hPc hPm hS (RR_up hR)) (fun z => absurd h z)
set_option maxHeartbeats 4000000 in
set_option maxRecDepth 100000 in
theorem lw_c_tone {p : Program} {l : Launch} {e : Env} {s : State} {m : MethodId} {below : List Frame} {meth : Method} {c : Code} {b L : Nat} {xs : Nat → Int32} {D : va_G} {q qm tq : Nat → Nat} {cI cO : ClassId} (X : lwX p s m meth c b L xs D q qm tq cI cO) {k i : Nat} (hi : i + 4 ≤ L) (hL : L ≤ 2048) (hk : k < 100000) {Ic Im : Nat → Int32} {Fc Fm : Nat → Nat → Int32} {hm : Int64} (hR : RR k Ic Fc Im Fm) {H : Heap} {locs : List Loc} {ls : Array Slot} (hPc : va_P D vwCl (cW q cI cO Ic Fc) H) (hPm : va_P D vwCl (mW qm cI cI Im Fm hm) H) (hS : va_S (fun x : Nat => s.heap.size ≤ x) s.heap H locs) (hl : lv_has ls 4 [(0, .ref b), (1, .ref (q 0)), (2, .ref (qm 0)), (3, .int (nI i))]) (K : ∀ (Ic : Nat → Int32) (Fc : Nat → Nat → Int32) (Im : Nat → Int32) (Fm : Nat → Nat → Int32) (hm : Int64) (H : Heap) (locs : List Loc), va_P D vwCl (cW q cI cO Ic Fc) H → va_P D vwCl (mW qm cI cI Im Fm hm) H → va_S (fun x : Nat => s.heap.size ≤ x) s.heap H locs → RR (k + 1) Ic Fc Im Fm → W p l e room_1 s m #[Value.ref b] below meth c H locs 65 250119 (lw_Z below #[Value.ref b] s) (F0 m 797 ls [])) : W p l e room_1 s m #[Value.ref b] below meth c H locs 65 250119 (lw_Z below #[Value.ref b] s) (F0 m 280 ls []) := by
  obtain ⟨⟨hx, hb, hr, hml, hown, hts0, hX, hbl, hlocks, hgv⟩, hK, hE, ⟨e39, e40, e41⟩, hq, hqm, hAc, hAm, hne⟩ := X
  have hts : ∀ w ∈ wsL_law, w.before #[Value.ref b] s = true := fun w h => hts0 w (wsL_law_in w h)
  have hown : s.vm.findClass RL = some m.cls := hown
  have hbA : ¬ (fun x : Nat => s.heap.size ≤ x) b := Nat.not_le.mpr hbl
  have hKm : va_K D vwCl (mTys cI) s := hK.sub [0] rfl
  have hsC := lw_subC hAc
  have hsM := lw_subM hAm
  have v0 : vp_in (nI i) L := vp_in_nI (by omega) (by omega)
  have v1 : vp_in (nI i + (1 : Int32)) L := by rw [nI_1]; exact vp_in_nI (by omega) (by omega)
  have v2 : vp_in (nI i + (2 : Int32)) L := by rw [show (2 : Int32) = nI 2 by decide, nI_add]; exact vp_in_nI (by omega) (by omega)
  have v3 : vp_in (nI i + (3 : Int32)) L := by rw [show (3 : Int32) = nI 3 by decide, nI_add]; exact vp_in_nI (by omega) (by omega)
  refine lv_aload_n hx hb dL_law_280 rfl (lv_at hl 1 rfl) ?_
  refine lv_aload_n hx hb dL_law_281 rfl (lv_at hl 0 rfl) ?_
  refine lv_iload_n hx hb dL_law_282 rfl (lv_at hl 3 rfl) ?_
  refine lv_iconst (v := (1 : Int32)) hx hb dL_law_283 (by decide) ?_
  refine lv_iadd hx hb dL_law_284 ?_
  refine va_sld hx hb hX hbl hbA hS v1 dL_law_285 ?_
  refine lv_aload_n hx hb dL_law_286 rfl (lv_at hl 0 rfl) ?_
  refine lv_iload_n hx hb dL_law_287 rfl (lv_at hl 3 rfl) ?_
  refine lv_iconst (v := (2 : Int32)) hx hb dL_law_288 (by decide) ?_
  refine lv_iadd hx hb dL_law_289 ?_
  refine va_sld hx hb hX hbl hbA hS v2 dL_law_290 ?_
  refine lwCallI (D := D) (A1 := cA q) (wo := mW qm cI cI Im Fm hm) (va_runV (As := [.int (xs (nI i + (1 : Int32)).toNatClampNeg), .int (xs (nI i + (2 : Int32)).toNatClampNeg)]) (rest := []) ⟨hx, hb, hml, hown, hts⟩ (c_X8_tone l D q cI cO hq (xs (nI i + (1 : Int32)).toNatClampNeg) (xs (nI i + (2 : Int32)).toNatClampNeg) Ic Fc _ (j_tone (hm := hm) hR)) (cwV 2 hts gL_law_X8_tone rfl rfl rfl (by decide +kernel) ⟨Nat.le_of_ble_eq_true rfl, Nat.le_of_ble_eq_true rfl⟩) (lwPreV hE hsC e39 e40 e41 hK hPc hS) rfl rfl hl.1 rfl (lv_room (Nat.le_of_ble_eq_true rfl)) dL_law_291 ⟨Nat.le_of_ble_eq_true rfl, Nat.le_of_ble_eq_true rfl⟩) hS hsC hPm (lw_disC hne) (fun r u H locs hPc hPm hS h => ?_)
  have hPc : va_P D vwCl (cW q cI cO Ic Fc) H := hPc
  refine lv_aload_n hx hb dL_law_294 rfl (lv_at hl 2 rfl) ?_
  refine lv_aload_n hx hb dL_law_295 rfl (lv_at hl 0 rfl) ?_
  refine lv_iload_n hx hb dL_law_296 rfl (lv_at hl 3 rfl) ?_
  refine lv_iconst (v := (1 : Int32)) hx hb dL_law_297 (by decide) ?_
  refine lv_iadd hx hb dL_law_298 ?_
  refine va_sld hx hb hX hbl hbA hS v1 dL_law_299 ?_
  refine lv_aload_n hx hb dL_law_300 rfl (lv_at hl 0 rfl) ?_
  refine lv_iload_n hx hb dL_law_301 rfl (lv_at hl 3 rfl) ?_
  refine lv_iconst (v := (2 : Int32)) hx hb dL_law_302 (by decide) ?_
  refine lv_iadd hx hb dL_law_303 ?_
  refine va_sld hx hb hX hbl hbA hS v2 dL_law_304 ?_
  refine lwCallI (D := D) (A1 := mA qm) (wo := cW q cI cO Ic Fc) (va_runV (As := [.int (xs (nI i + (1 : Int32)).toNatClampNeg), .int (xs (nI i + (2 : Int32)).toNatClampNeg)]) (rest := [.int r]) ⟨hx, hb, hml, hown, hts⟩ (c_X9_tone l D qm cI cI hqm (xs (nI i + (1 : Int32)).toNatClampNeg) (xs (nI i + (2 : Int32)).toNatClampNeg) Im Fm hm _ h) (cwV 2 hts gL_law_X9_tone rfl rfl rfl (by decide +kernel) ⟨Nat.le_of_ble_eq_true rfl, Nat.le_of_ble_eq_true rfl⟩) (gPreV (ci := 9) (q0 := 0) (mEokA (A := fun x : Nat => s.heap.size ≤ x)) trivial hKm hPm hS rfl mAt0) rfl rfl hl.1 rfl (lv_room (Nat.le_of_ble_eq_true rfl)) dL_law_305 ⟨Nat.le_of_ble_eq_true rfl, Nat.le_of_ble_eq_true rfl⟩) hS hsM hPc (lw_disM hne) (fun r2 u H locs hPm hPc hS h => ?_)
  have hPm : va_P D vwCl (mW qm cI cI Im Fm hm) H := hPm
  exact lv_icmp_eq (tgt := 797) hx hb dL_law_308 (by decide) (fun _ => K Ic Fc Im Fm hm _ _ hPc hPm hS (RR_up hR)) (fun z => absurd h z)
set_option maxHeartbeats 4000000 in
set_option maxRecDepth 100000 in
theorem lw_c_press {p : Program} {l : Launch} {e : Env} {s : State} {m : MethodId} {below : List Frame} {meth : Method} {c : Code} {b L : Nat} {xs : Nat → Int32} {D : va_G} {q qm tq : Nat → Nat} {cI cO : ClassId} (X : lwX p s m meth c b L xs D q qm tq cI cO) {k i : Nat} (hi : i + 4 ≤ L) (hL : L ≤ 2048) (hk : k < 100000) {Ic Im : Nat → Int32} {Fc Fm : Nat → Nat → Int32} {hm : Int64} (hR : RR k Ic Fc Im Fm) {H : Heap} {locs : List Loc} {ls : Array Slot} (hPc : va_P D vwCl (cW q cI cO Ic Fc) H) (hPm : va_P D vwCl (mW qm cI cI Im Fm hm) H) (hS : va_S (fun x : Nat => s.heap.size ≤ x) s.heap H locs) (hl : lv_has ls 4 [(0, .ref b), (1, .ref (q 0)), (2, .ref (qm 0)), (3, .int (nI i))]) (K : ∀ (Ic : Nat → Int32) (Fc : Nat → Nat → Int32) (Im : Nat → Int32) (Fm : Nat → Nat → Int32) (hm : Int64) (H : Heap) (locs : List Loc), va_P D vwCl (cW q cI cO Ic Fc) H → va_P D vwCl (mW qm cI cI Im Fm hm) H → va_S (fun x : Nat => s.heap.size ≤ x) s.heap H locs → RR (k + 1) Ic Fc Im Fm → W p l e room_1 s m #[Value.ref b] below meth c H locs 65 250119 (lw_Z below #[Value.ref b] s) (F0 m 797 ls [])) : W p l e room_1 s m #[Value.ref b] below meth c H locs 65 250119 (lw_Z below #[Value.ref b] s) (F0 m 313 ls []) := by
  obtain ⟨⟨hx, hb, hr, hml, hown, hts0, hX, hbl, hlocks, hgv⟩, hK, hE, ⟨e39, e40, e41⟩, hq, hqm, hAc, hAm, hne⟩ := X
  have hts : ∀ w ∈ wsL_law, w.before #[Value.ref b] s = true := fun w h => hts0 w (wsL_law_in w h)
  have hown : s.vm.findClass RL = some m.cls := hown
  have hbA : ¬ (fun x : Nat => s.heap.size ≤ x) b := Nat.not_le.mpr hbl
  have hKm : va_K D vwCl (mTys cI) s := hK.sub [0] rfl
  have hsC := lw_subC hAc
  have hsM := lw_subM hAm
  have v0 : vp_in (nI i) L := vp_in_nI (by omega) (by omega)
  have v1 : vp_in (nI i + (1 : Int32)) L := by rw [nI_1]; exact vp_in_nI (by omega) (by omega)
  have v2 : vp_in (nI i + (2 : Int32)) L := by rw [show (2 : Int32) = nI 2 by decide, nI_add]; exact vp_in_nI (by omega) (by omega)
  have v3 : vp_in (nI i + (3 : Int32)) L := by rw [show (3 : Int32) = nI 3 by decide, nI_add]; exact vp_in_nI (by omega) (by omega)
  refine lv_aload_n hx hb dL_law_313 rfl (lv_at hl 1 rfl) ?_
  refine lv_aload_n hx hb dL_law_314 rfl (lv_at hl 0 rfl) ?_
  refine lv_iload_n hx hb dL_law_315 rfl (lv_at hl 3 rfl) ?_
  refine lv_iconst (v := (1 : Int32)) hx hb dL_law_316 (by decide) ?_
  refine lv_iadd hx hb dL_law_317 ?_
  refine va_sld hx hb hX hbl hbA hS v1 dL_law_318 ?_
  refine lv_aload_n hx hb dL_law_319 rfl (lv_at hl 0 rfl) ?_
  refine lv_iload_n hx hb dL_law_320 rfl (lv_at hl 3 rfl) ?_
  refine lv_iconst (v := (2 : Int32)) hx hb dL_law_321 (by decide) ?_
  refine lv_iadd hx hb dL_law_322 ?_
  refine va_sld hx hb hX hbl hbA hS v2 dL_law_323 ?_
  refine lwCallI (D := D) (A1 := cA q) (wo := mW qm cI cI Im Fm hm) (va_runV (As := [.int (xs (nI i + (1 : Int32)).toNatClampNeg), .int (xs (nI i + (2 : Int32)).toNatClampNeg)]) (rest := []) ⟨hx, hb, hml, hown, hts⟩ (c_X8_press l D q cI cO hq (xs (nI i + (1 : Int32)).toNatClampNeg) (xs (nI i + (2 : Int32)).toNatClampNeg) Ic Fc _ (j_press (hm := hm) hR)) (cwV 2 hts gL_law_X8_press rfl rfl rfl (by decide +kernel) ⟨Nat.le_of_ble_eq_true rfl, Nat.le_of_ble_eq_true rfl⟩) (lwPreV hE hsC e39 e40 e41 hK hPc hS) rfl rfl hl.1 rfl (lv_room (Nat.le_of_ble_eq_true rfl)) dL_law_324 ⟨Nat.le_of_ble_eq_true rfl, Nat.le_of_ble_eq_true rfl⟩) hS hsC hPm (lw_disC hne) (fun r u H locs hPc hPm hS h => ?_)
  obtain ⟨Ic2, Fc2⟩ := u
  have hPc : va_P D vwCl (cW q cI cO Ic2 Fc2) H := hPc
  refine lv_aload_n hx hb dL_law_327 rfl (lv_at hl 2 rfl) ?_
  refine lv_aload_n hx hb dL_law_328 rfl (lv_at hl 0 rfl) ?_
  refine lv_iload_n hx hb dL_law_329 rfl (lv_at hl 3 rfl) ?_
  refine lv_iconst (v := (1 : Int32)) hx hb dL_law_330 (by decide) ?_
  refine lv_iadd hx hb dL_law_331 ?_
  refine va_sld hx hb hX hbl hbA hS v1 dL_law_332 ?_
  refine lv_aload_n hx hb dL_law_333 rfl (lv_at hl 0 rfl) ?_
  refine lv_iload_n hx hb dL_law_334 rfl (lv_at hl 3 rfl) ?_
  refine lv_iconst (v := (2 : Int32)) hx hb dL_law_335 (by decide) ?_
  refine lv_iadd hx hb dL_law_336 ?_
  refine va_sld hx hb hX hbl hbA hS v2 dL_law_337 ?_
  refine lwCallI (D := D) (A1 := mA qm) (wo := cW q cI cO Ic2 Fc2) (va_runV (As := [.int (xs (nI i + (1 : Int32)).toNatClampNeg), .int (xs (nI i + (2 : Int32)).toNatClampNeg)]) (rest := [.int r]) ⟨hx, hb, hml, hown, hts⟩ (c_X9_press l D qm cI cI hqm (xs (nI i + (1 : Int32)).toNatClampNeg) (xs (nI i + (2 : Int32)).toNatClampNeg) Im Fm hm _ h) (cwV 2 hts gL_law_X9_press rfl rfl rfl (by decide +kernel) ⟨Nat.le_of_ble_eq_true rfl, Nat.le_of_ble_eq_true rfl⟩) (gPreV (ci := 9) (q0 := 0) (mEokA (A := fun x : Nat => s.heap.size ≤ x)) trivial hKm hPm hS rfl mAt0) rfl rfl hl.1 rfl (lv_room (Nat.le_of_ble_eq_true rfl)) dL_law_338 ⟨Nat.le_of_ble_eq_true rfl, Nat.le_of_ble_eq_true rfl⟩) hS hsM hPc (lw_disM hne) (fun r2 u H locs hPm hPc hS h => ?_)
  obtain ⟨Im2, Fm2, hm2⟩ := u
  have hPm : va_P D vwCl (mW qm cI cI Im2 Fm2 hm2) H := hPm
  exact lv_icmp_eq (tgt := 797) hx hb dL_law_341 (by decide) (fun _ => K Ic2 Fc2 Im2 Fm2 hm2 _ _ hPc hPm hS (RR_up h.2.2)) (fun z => absurd h.1 z)
set_option maxHeartbeats 4000000 in
set_option maxRecDepth 100000 in
theorem lw_c_put {p : Program} {l : Launch} {e : Env} {s : State} {m : MethodId} {below : List Frame} {meth : Method} {c : Code} {b L : Nat} {xs : Nat → Int32} {D : va_G} {q qm tq : Nat → Nat} {cI cO : ClassId} (X : lwX p s m meth c b L xs D q qm tq cI cO) {k i : Nat} (hi : i + 4 ≤ L) (hL : L ≤ 2048) (hk : k < 100000) {Ic Im : Nat → Int32} {Fc Fm : Nat → Nat → Int32} {hm : Int64} (hR : RR k Ic Fc Im Fm) {H : Heap} {locs : List Loc} {ls : Array Slot} (hPc : va_P D vwCl (cW q cI cO Ic Fc) H) (hPm : va_P D vwCl (mW qm cI cI Im Fm hm) H) (hS : va_S (fun x : Nat => s.heap.size ≤ x) s.heap H locs) (hl : lv_has ls 4 [(0, .ref b), (1, .ref (q 0)), (2, .ref (qm 0)), (3, .int (nI i))]) (K : ∀ (Ic : Nat → Int32) (Fc : Nat → Nat → Int32) (Im : Nat → Int32) (Fm : Nat → Nat → Int32) (hm : Int64) (H : Heap) (locs : List Loc), va_P D vwCl (cW q cI cO Ic Fc) H → va_P D vwCl (mW qm cI cI Im Fm hm) H → va_S (fun x : Nat => s.heap.size ≤ x) s.heap H locs → RR (k + 1) Ic Fc Im Fm → W p l e room_1 s m #[Value.ref b] below meth c H locs 65 250119 (lw_Z below #[Value.ref b] s) (F0 m 797 ls [])) : W p l e room_1 s m #[Value.ref b] below meth c H locs 65 250119 (lw_Z below #[Value.ref b] s) (F0 m 346 ls []) := by
  obtain ⟨⟨hx, hb, hr, hml, hown, hts0, hX, hbl, hlocks, hgv⟩, hK, hE, ⟨e39, e40, e41⟩, hq, hqm, hAc, hAm, hne⟩ := X
  have hts : ∀ w ∈ wsL_law, w.before #[Value.ref b] s = true := fun w h => hts0 w (wsL_law_in w h)
  have hown : s.vm.findClass RL = some m.cls := hown
  have hbA : ¬ (fun x : Nat => s.heap.size ≤ x) b := Nat.not_le.mpr hbl
  have hKm : va_K D vwCl (mTys cI) s := hK.sub [0] rfl
  have hsC := lw_subC hAc
  have hsM := lw_subM hAm
  have v0 : vp_in (nI i) L := vp_in_nI (by omega) (by omega)
  have v1 : vp_in (nI i + (1 : Int32)) L := by rw [nI_1]; exact vp_in_nI (by omega) (by omega)
  have v2 : vp_in (nI i + (2 : Int32)) L := by rw [show (2 : Int32) = nI 2 by decide, nI_add]; exact vp_in_nI (by omega) (by omega)
  have v3 : vp_in (nI i + (3 : Int32)) L := by rw [show (3 : Int32) = nI 3 by decide, nI_add]; exact vp_in_nI (by omega) (by omega)
  refine lv_aload_n hx hb dL_law_346 rfl (lv_at hl 1 rfl) ?_
  refine lv_aload_n hx hb dL_law_347 rfl (lv_at hl 0 rfl) ?_
  refine lv_iload_n hx hb dL_law_348 rfl (lv_at hl 3 rfl) ?_
  refine lv_iconst (v := (1 : Int32)) hx hb dL_law_349 (by decide) ?_
  refine lv_iadd hx hb dL_law_350 ?_
  refine va_sld hx hb hX hbl hbA hS v1 dL_law_351 ?_
  refine lv_aload_n hx hb dL_law_352 rfl (lv_at hl 0 rfl) ?_
  refine lv_iload_n hx hb dL_law_353 rfl (lv_at hl 3 rfl) ?_
  refine lv_iconst (v := (2 : Int32)) hx hb dL_law_354 (by decide) ?_
  refine lv_iadd hx hb dL_law_355 ?_
  refine va_sld hx hb hX hbl hbA hS v2 dL_law_356 ?_
  refine lv_aload_n hx hb dL_law_357 rfl (lv_at hl 0 rfl) ?_
  refine lv_iload_n hx hb dL_law_358 rfl (lv_at hl 3 rfl) ?_
  refine lv_iconst (v := (3 : Int32)) hx hb dL_law_359 (by decide) ?_
  refine lv_iadd hx hb dL_law_360 ?_
  refine va_sld hx hb hX hbl hbA hS v3 dL_law_361 ?_
  refine lwCallI (D := D) (A1 := cA q) (wo := mW qm cI cI Im Fm hm) (va_runV (As := [.int (xs (nI i + (1 : Int32)).toNatClampNeg), .int (xs (nI i + (2 : Int32)).toNatClampNeg), .int (xs (nI i + (3 : Int32)).toNatClampNeg)]) (rest := []) ⟨hx, hb, hml, hown, hts⟩ (c_X8_put l D q cI cO hq (xs (nI i + (1 : Int32)).toNatClampNeg) (xs (nI i + (2 : Int32)).toNatClampNeg) (xs (nI i + (3 : Int32)).toNatClampNeg) Ic Fc _ (j_put (hm := hm) hR)) (cwV 3 hts gL_law_X8_put rfl rfl rfl (by decide +kernel) ⟨Nat.le_of_ble_eq_true rfl, Nat.le_of_ble_eq_true rfl⟩) (lwPreV hE hsC e39 e40 e41 hK hPc hS) rfl rfl hl.1 rfl (lv_room (Nat.le_of_ble_eq_true rfl)) dL_law_362 ⟨Nat.le_of_ble_eq_true rfl, Nat.le_of_ble_eq_true rfl⟩) hS hsC hPm (lw_disC hne) (fun r u H locs hPc hPm hS h => ?_)
  obtain ⟨Ic2, Fc2⟩ := u
  have hPc : va_P D vwCl (cW q cI cO Ic2 Fc2) H := hPc
  refine lv_aload_n hx hb dL_law_365 rfl (lv_at hl 2 rfl) ?_
  refine lv_aload_n hx hb dL_law_366 rfl (lv_at hl 0 rfl) ?_
  refine lv_iload_n hx hb dL_law_367 rfl (lv_at hl 3 rfl) ?_
  refine lv_iconst (v := (1 : Int32)) hx hb dL_law_368 (by decide) ?_
  refine lv_iadd hx hb dL_law_369 ?_
  refine va_sld hx hb hX hbl hbA hS v1 dL_law_370 ?_
  refine lv_aload_n hx hb dL_law_371 rfl (lv_at hl 0 rfl) ?_
  refine lv_iload_n hx hb dL_law_372 rfl (lv_at hl 3 rfl) ?_
  refine lv_iconst (v := (2 : Int32)) hx hb dL_law_373 (by decide) ?_
  refine lv_iadd hx hb dL_law_374 ?_
  refine va_sld hx hb hX hbl hbA hS v2 dL_law_375 ?_
  refine lv_aload_n hx hb dL_law_376 rfl (lv_at hl 0 rfl) ?_
  refine lv_iload_n hx hb dL_law_377 rfl (lv_at hl 3 rfl) ?_
  refine lv_iconst (v := (3 : Int32)) hx hb dL_law_378 (by decide) ?_
  refine lv_iadd hx hb dL_law_379 ?_
  refine va_sld hx hb hX hbl hbA hS v3 dL_law_380 ?_
  refine lwCallI (D := D) (A1 := mA qm) (wo := cW q cI cO Ic2 Fc2) (va_runV (As := [.int (xs (nI i + (1 : Int32)).toNatClampNeg), .int (xs (nI i + (2 : Int32)).toNatClampNeg), .int (xs (nI i + (3 : Int32)).toNatClampNeg)]) (rest := [.int r]) ⟨hx, hb, hml, hown, hts⟩ (c_X9_put l D qm cI cI hqm (xs (nI i + (1 : Int32)).toNatClampNeg) (xs (nI i + (2 : Int32)).toNatClampNeg) (xs (nI i + (3 : Int32)).toNatClampNeg) Im Fm hm _ h) (cwV 3 hts gL_law_X9_put rfl rfl rfl (by decide +kernel) ⟨Nat.le_of_ble_eq_true rfl, Nat.le_of_ble_eq_true rfl⟩) (gPreV (ci := 9) (q0 := 0) (mEokA (A := fun x : Nat => s.heap.size ≤ x)) trivial hKm hPm hS rfl mAt0) rfl rfl hl.1 rfl (lv_room (Nat.le_of_ble_eq_true rfl)) dL_law_381 ⟨Nat.le_of_ble_eq_true rfl, Nat.le_of_ble_eq_true rfl⟩) hS hsM hPc (lw_disM hne) (fun r2 u H locs hPm hPc hS h => ?_)
  obtain ⟨Im2, Fm2, hm2⟩ := u
  have hPm : va_P D vwCl (mW qm cI cI Im2 Fm2 hm2) H := hPm
  exact lv_icmp_eq (tgt := 797) hx hb dL_law_384 (by decide) (fun _ => K Ic2 Fc2 Im2 Fm2 hm2 _ _ hPc hPm hS (RR_up h.2.2)) (fun z => absurd h.1 z)
set_option maxHeartbeats 4000000 in
set_option maxRecDepth 100000 in
theorem lw_c_take {p : Program} {l : Launch} {e : Env} {s : State} {m : MethodId} {below : List Frame} {meth : Method} {c : Code} {b L : Nat} {xs : Nat → Int32} {D : va_G} {q qm tq : Nat → Nat} {cI cO : ClassId} (X : lwX p s m meth c b L xs D q qm tq cI cO) {k i : Nat} (hi : i + 4 ≤ L) (hL : L ≤ 2048) (hk : k < 100000) {Ic Im : Nat → Int32} {Fc Fm : Nat → Nat → Int32} {hm : Int64} (hR : RR k Ic Fc Im Fm) {H : Heap} {locs : List Loc} {ls : Array Slot} (hPc : va_P D vwCl (cW q cI cO Ic Fc) H) (hPm : va_P D vwCl (mW qm cI cI Im Fm hm) H) (hS : va_S (fun x : Nat => s.heap.size ≤ x) s.heap H locs) (hl : lv_has ls 4 [(0, .ref b), (1, .ref (q 0)), (2, .ref (qm 0)), (3, .int (nI i))]) (K : ∀ (Ic : Nat → Int32) (Fc : Nat → Nat → Int32) (Im : Nat → Int32) (Fm : Nat → Nat → Int32) (hm : Int64) (H : Heap) (locs : List Loc), va_P D vwCl (cW q cI cO Ic Fc) H → va_P D vwCl (mW qm cI cI Im Fm hm) H → va_S (fun x : Nat => s.heap.size ≤ x) s.heap H locs → RR (k + 1) Ic Fc Im Fm → W p l e room_1 s m #[Value.ref b] below meth c H locs 65 250119 (lw_Z below #[Value.ref b] s) (F0 m 797 ls [])) : W p l e room_1 s m #[Value.ref b] below meth c H locs 65 250119 (lw_Z below #[Value.ref b] s) (F0 m 389 ls []) := by
  obtain ⟨⟨hx, hb, hr, hml, hown, hts0, hX, hbl, hlocks, hgv⟩, hK, hE, ⟨e39, e40, e41⟩, hq, hqm, hAc, hAm, hne⟩ := X
  have hts : ∀ w ∈ wsL_law, w.before #[Value.ref b] s = true := fun w h => hts0 w (wsL_law_in w h)
  have hown : s.vm.findClass RL = some m.cls := hown
  have hbA : ¬ (fun x : Nat => s.heap.size ≤ x) b := Nat.not_le.mpr hbl
  have hKm : va_K D vwCl (mTys cI) s := hK.sub [0] rfl
  have hsC := lw_subC hAc
  have hsM := lw_subM hAm
  have v0 : vp_in (nI i) L := vp_in_nI (by omega) (by omega)
  have v1 : vp_in (nI i + (1 : Int32)) L := by rw [nI_1]; exact vp_in_nI (by omega) (by omega)
  have v2 : vp_in (nI i + (2 : Int32)) L := by rw [show (2 : Int32) = nI 2 by decide, nI_add]; exact vp_in_nI (by omega) (by omega)
  have v3 : vp_in (nI i + (3 : Int32)) L := by rw [show (3 : Int32) = nI 3 by decide, nI_add]; exact vp_in_nI (by omega) (by omega)
  refine lv_aload_n hx hb dL_law_389 rfl (lv_at hl 1 rfl) ?_
  refine lv_aload_n hx hb dL_law_390 rfl (lv_at hl 0 rfl) ?_
  refine lv_iload_n hx hb dL_law_391 rfl (lv_at hl 3 rfl) ?_
  refine lv_iconst (v := (1 : Int32)) hx hb dL_law_392 (by decide) ?_
  refine lv_iadd hx hb dL_law_393 ?_
  refine va_sld hx hb hX hbl hbA hS v1 dL_law_394 ?_
  refine lwCallI (D := D) (A1 := cA q) (wo := mW qm cI cI Im Fm hm) (va_runV (As := [.int (xs (nI i + (1 : Int32)).toNatClampNeg)]) (rest := []) ⟨hx, hb, hml, hown, hts⟩ (c_X8_take l D q cI cO hq (xs (nI i + (1 : Int32)).toNatClampNeg) Ic Fc _ (j_take (hm := hm) hR)) (cwV 1 hts gL_law_X8_take rfl rfl rfl (by decide +kernel) ⟨Nat.le_of_ble_eq_true rfl, Nat.le_of_ble_eq_true rfl⟩) (lwPreV hE hsC e39 e40 e41 hK hPc hS) rfl rfl hl.1 rfl (lv_room (Nat.le_of_ble_eq_true rfl)) dL_law_395 ⟨Nat.le_of_ble_eq_true rfl, Nat.le_of_ble_eq_true rfl⟩) hS hsC hPm (lw_disC hne) (fun r u H locs hPc hPm hS h => ?_)
  obtain ⟨Ic2, Fc2⟩ := u
  have hPc : va_P D vwCl (cW q cI cO Ic2 Fc2) H := hPc
  refine lv_aload_n hx hb dL_law_398 rfl (lv_at hl 2 rfl) ?_
  refine lv_aload_n hx hb dL_law_399 rfl (lv_at hl 0 rfl) ?_
  refine lv_iload_n hx hb dL_law_400 rfl (lv_at hl 3 rfl) ?_
  refine lv_iconst (v := (1 : Int32)) hx hb dL_law_401 (by decide) ?_
  refine lv_iadd hx hb dL_law_402 ?_
  refine va_sld hx hb hX hbl hbA hS v1 dL_law_403 ?_
  refine lwCallI (D := D) (A1 := mA qm) (wo := cW q cI cO Ic2 Fc2) (va_runV (As := [.int (xs (nI i + (1 : Int32)).toNatClampNeg)]) (rest := [.int r]) ⟨hx, hb, hml, hown, hts⟩ (c_X9_take l D qm cI cI hqm (xs (nI i + (1 : Int32)).toNatClampNeg) Im Fm hm _ h) (cwV 1 hts gL_law_X9_take rfl rfl rfl (by decide +kernel) ⟨Nat.le_of_ble_eq_true rfl, Nat.le_of_ble_eq_true rfl⟩) (gPreV (ci := 9) (q0 := 0) (mEokA (A := fun x : Nat => s.heap.size ≤ x)) trivial hKm hPm hS rfl mAt0) rfl rfl hl.1 rfl (lv_room (Nat.le_of_ble_eq_true rfl)) dL_law_404 ⟨Nat.le_of_ble_eq_true rfl, Nat.le_of_ble_eq_true rfl⟩) hS hsM hPc (lw_disM hne) (fun r2 u H locs hPm hPc hS h => ?_)
  obtain ⟨Im2, Fm2, hm2⟩ := u
  have hPm : va_P D vwCl (mW qm cI cI Im2 Fm2 hm2) H := hPm
  exact lv_icmp_eq (tgt := 797) hx hb dL_law_407 (by decide) (fun _ => K Ic2 Fc2 Im2 Fm2 hm2 _ _ hPc hPm hS (RR_up h.2.2)) (fun z => absurd h.1 z)
set_option maxHeartbeats 4000000 in
set_option maxRecDepth 100000 in
theorem lw_c_swap {p : Program} {l : Launch} {e : Env} {s : State} {m : MethodId} {below : List Frame} {meth : Method} {c : Code} {b L : Nat} {xs : Nat → Int32} {D : va_G} {q qm tq : Nat → Nat} {cI cO : ClassId} (X : lwX p s m meth c b L xs D q qm tq cI cO) {k i : Nat} (hi : i + 4 ≤ L) (hL : L ≤ 2048) (hk : k < 100000) {Ic Im : Nat → Int32} {Fc Fm : Nat → Nat → Int32} {hm : Int64} (hR : RR k Ic Fc Im Fm) {H : Heap} {locs : List Loc} {ls : Array Slot} (hPc : va_P D vwCl (cW q cI cO Ic Fc) H) (hPm : va_P D vwCl (mW qm cI cI Im Fm hm) H) (hS : va_S (fun x : Nat => s.heap.size ≤ x) s.heap H locs) (hl : lv_has ls 4 [(0, .ref b), (1, .ref (q 0)), (2, .ref (qm 0)), (3, .int (nI i))]) (K : ∀ (Ic : Nat → Int32) (Fc : Nat → Nat → Int32) (Im : Nat → Int32) (Fm : Nat → Nat → Int32) (hm : Int64) (H : Heap) (locs : List Loc), va_P D vwCl (cW q cI cO Ic Fc) H → va_P D vwCl (mW qm cI cI Im Fm hm) H → va_S (fun x : Nat => s.heap.size ≤ x) s.heap H locs → RR (k + 1) Ic Fc Im Fm → W p l e room_1 s m #[Value.ref b] below meth c H locs 65 250119 (lw_Z below #[Value.ref b] s) (F0 m 797 ls [])) : W p l e room_1 s m #[Value.ref b] below meth c H locs 65 250119 (lw_Z below #[Value.ref b] s) (F0 m 412 ls []) := by
  obtain ⟨⟨hx, hb, hr, hml, hown, hts0, hX, hbl, hlocks, hgv⟩, hK, hE, ⟨e39, e40, e41⟩, hq, hqm, hAc, hAm, hne⟩ := X
  have hts : ∀ w ∈ wsL_law, w.before #[Value.ref b] s = true := fun w h => hts0 w (wsL_law_in w h)
  have hown : s.vm.findClass RL = some m.cls := hown
  have hbA : ¬ (fun x : Nat => s.heap.size ≤ x) b := Nat.not_le.mpr hbl
  have hKm : va_K D vwCl (mTys cI) s := hK.sub [0] rfl
  have hsC := lw_subC hAc
  have hsM := lw_subM hAm
  have v0 : vp_in (nI i) L := vp_in_nI (by omega) (by omega)
  have v1 : vp_in (nI i + (1 : Int32)) L := by rw [nI_1]; exact vp_in_nI (by omega) (by omega)
  have v2 : vp_in (nI i + (2 : Int32)) L := by rw [show (2 : Int32) = nI 2 by decide, nI_add]; exact vp_in_nI (by omega) (by omega)
  have v3 : vp_in (nI i + (3 : Int32)) L := by rw [show (3 : Int32) = nI 3 by decide, nI_add]; exact vp_in_nI (by omega) (by omega)
  refine lv_aload_n hx hb dL_law_412 rfl (lv_at hl 1 rfl) ?_
  refine lv_aload_n hx hb dL_law_413 rfl (lv_at hl 0 rfl) ?_
  refine lv_iload_n hx hb dL_law_414 rfl (lv_at hl 3 rfl) ?_
  refine lv_iconst (v := (1 : Int32)) hx hb dL_law_415 (by decide) ?_
  refine lv_iadd hx hb dL_law_416 ?_
  refine va_sld hx hb hX hbl hbA hS v1 dL_law_417 ?_
  refine lv_aload_n hx hb dL_law_418 rfl (lv_at hl 0 rfl) ?_
  refine lv_iload_n hx hb dL_law_419 rfl (lv_at hl 3 rfl) ?_
  refine lv_iconst (v := (2 : Int32)) hx hb dL_law_420 (by decide) ?_
  refine lv_iadd hx hb dL_law_421 ?_
  refine va_sld hx hb hX hbl hbA hS v2 dL_law_422 ?_
  refine lwCallI (D := D) (A1 := cA q) (wo := mW qm cI cI Im Fm hm) (va_runV (As := [.int (xs (nI i + (1 : Int32)).toNatClampNeg), .int (xs (nI i + (2 : Int32)).toNatClampNeg)]) (rest := []) ⟨hx, hb, hml, hown, hts⟩ (c_X8_swap l D q cI cO hq (xs (nI i + (1 : Int32)).toNatClampNeg) (xs (nI i + (2 : Int32)).toNatClampNeg) Ic Fc _ (j_swap (hm := hm) hR)) (cwV 2 hts gL_law_X8_swap rfl rfl rfl (by decide +kernel) ⟨Nat.le_of_ble_eq_true rfl, Nat.le_of_ble_eq_true rfl⟩) (lwPreV hE hsC e39 e40 e41 hK hPc hS) rfl rfl hl.1 rfl (lv_room (Nat.le_of_ble_eq_true rfl)) dL_law_423 ⟨Nat.le_of_ble_eq_true rfl, Nat.le_of_ble_eq_true rfl⟩) hS hsC hPm (lw_disC hne) (fun r u H locs hPc hPm hS h => ?_)
  obtain ⟨Ic2, Fc2⟩ := u
  have hPc : va_P D vwCl (cW q cI cO Ic2 Fc2) H := hPc
  refine lv_aload_n hx hb dL_law_426 rfl (lv_at hl 2 rfl) ?_
  refine lv_aload_n hx hb dL_law_427 rfl (lv_at hl 0 rfl) ?_
  refine lv_iload_n hx hb dL_law_428 rfl (lv_at hl 3 rfl) ?_
  refine lv_iconst (v := (1 : Int32)) hx hb dL_law_429 (by decide) ?_
  refine lv_iadd hx hb dL_law_430 ?_
  refine va_sld hx hb hX hbl hbA hS v1 dL_law_431 ?_
  refine lv_aload_n hx hb dL_law_432 rfl (lv_at hl 0 rfl) ?_
  refine lv_iload_n hx hb dL_law_433 rfl (lv_at hl 3 rfl) ?_
  refine lv_iconst (v := (2 : Int32)) hx hb dL_law_434 (by decide) ?_
  refine lv_iadd hx hb dL_law_435 ?_
  refine va_sld hx hb hX hbl hbA hS v2 dL_law_436 ?_
  refine lwCallI (D := D) (A1 := mA qm) (wo := cW q cI cO Ic2 Fc2) (va_runV (As := [.int (xs (nI i + (1 : Int32)).toNatClampNeg), .int (xs (nI i + (2 : Int32)).toNatClampNeg)]) (rest := [.int r]) ⟨hx, hb, hml, hown, hts⟩ (c_X9_swap l D qm cI cI hqm (xs (nI i + (1 : Int32)).toNatClampNeg) (xs (nI i + (2 : Int32)).toNatClampNeg) Im Fm hm _ h) (cwV 2 hts gL_law_X9_swap rfl rfl rfl (by decide +kernel) ⟨Nat.le_of_ble_eq_true rfl, Nat.le_of_ble_eq_true rfl⟩) (gPreV (ci := 9) (q0 := 0) (mEokA (A := fun x : Nat => s.heap.size ≤ x)) trivial hKm hPm hS rfl mAt0) rfl rfl hl.1 rfl (lv_room (Nat.le_of_ble_eq_true rfl)) dL_law_437 ⟨Nat.le_of_ble_eq_true rfl, Nat.le_of_ble_eq_true rfl⟩) hS hsM hPc (lw_disM hne) (fun r2 u H locs hPm hPc hS h => ?_)
  obtain ⟨Im2, Fm2, hm2⟩ := u
  have hPm : va_P D vwCl (mW qm cI cI Im2 Fm2 hm2) H := hPm
  exact lv_icmp_eq (tgt := 797) hx hb dL_law_440 (by decide) (fun _ => K Ic2 Fc2 Im2 Fm2 hm2 _ _ hPc hPm hS (RR_up h.2.2)) (fun z => absurd h.1 z)
set_option maxHeartbeats 4000000 in
set_option maxRecDepth 100000 in
theorem lw_c_change {p : Program} {l : Launch} {e : Env} {s : State} {m : MethodId} {below : List Frame} {meth : Method} {c : Code} {b L : Nat} {xs : Nat → Int32} {D : va_G} {q qm tq : Nat → Nat} {cI cO : ClassId} (X : lwX p s m meth c b L xs D q qm tq cI cO) {k i : Nat} (hi : i + 4 ≤ L) (hL : L ≤ 2048) (hk : k < 100000) {Ic Im : Nat → Int32} {Fc Fm : Nat → Nat → Int32} {hm : Int64} (hR : RR k Ic Fc Im Fm) {H : Heap} {locs : List Loc} {ls : Array Slot} (hPc : va_P D vwCl (cW q cI cO Ic Fc) H) (hPm : va_P D vwCl (mW qm cI cI Im Fm hm) H) (hS : va_S (fun x : Nat => s.heap.size ≤ x) s.heap H locs) (hl : lv_has ls 4 [(0, .ref b), (1, .ref (q 0)), (2, .ref (qm 0)), (3, .int (nI i))]) (K : ∀ (Ic : Nat → Int32) (Fc : Nat → Nat → Int32) (Im : Nat → Int32) (Fm : Nat → Nat → Int32) (hm : Int64) (H : Heap) (locs : List Loc), va_P D vwCl (cW q cI cO Ic Fc) H → va_P D vwCl (mW qm cI cI Im Fm hm) H → va_S (fun x : Nat => s.heap.size ≤ x) s.heap H locs → RR (k + 1) Ic Fc Im Fm → W p l e room_1 s m #[Value.ref b] below meth c H locs 65 250119 (lw_Z below #[Value.ref b] s) (F0 m 797 ls [])) : W p l e room_1 s m #[Value.ref b] below meth c H locs 65 250119 (lw_Z below #[Value.ref b] s) (F0 m 445 ls []) := by
  obtain ⟨⟨hx, hb, hr, hml, hown, hts0, hX, hbl, hlocks, hgv⟩, hK, hE, ⟨e39, e40, e41⟩, hq, hqm, hAc, hAm, hne⟩ := X
  have hts : ∀ w ∈ wsL_law, w.before #[Value.ref b] s = true := fun w h => hts0 w (wsL_law_in w h)
  have hown : s.vm.findClass RL = some m.cls := hown
  have hbA : ¬ (fun x : Nat => s.heap.size ≤ x) b := Nat.not_le.mpr hbl
  have hKm : va_K D vwCl (mTys cI) s := hK.sub [0] rfl
  have hsC := lw_subC hAc
  have hsM := lw_subM hAm
  have v0 : vp_in (nI i) L := vp_in_nI (by omega) (by omega)
  have v1 : vp_in (nI i + (1 : Int32)) L := by rw [nI_1]; exact vp_in_nI (by omega) (by omega)
  have v2 : vp_in (nI i + (2 : Int32)) L := by rw [show (2 : Int32) = nI 2 by decide, nI_add]; exact vp_in_nI (by omega) (by omega)
  have v3 : vp_in (nI i + (3 : Int32)) L := by rw [show (3 : Int32) = nI 3 by decide, nI_add]; exact vp_in_nI (by omega) (by omega)
  refine lv_aload_n hx hb dL_law_445 rfl (lv_at hl 1 rfl) ?_
  refine lv_aload_n hx hb dL_law_446 rfl (lv_at hl 0 rfl) ?_
  refine lv_iload_n hx hb dL_law_447 rfl (lv_at hl 3 rfl) ?_
  refine lv_iconst (v := (1 : Int32)) hx hb dL_law_448 (by decide) ?_
  refine lv_iadd hx hb dL_law_449 ?_
  refine va_sld hx hb hX hbl hbA hS v1 dL_law_450 ?_
  refine lv_aload_n hx hb dL_law_451 rfl (lv_at hl 0 rfl) ?_
  refine lv_iload_n hx hb dL_law_452 rfl (lv_at hl 3 rfl) ?_
  refine lv_iconst (v := (2 : Int32)) hx hb dL_law_453 (by decide) ?_
  refine lv_iadd hx hb dL_law_454 ?_
  refine va_sld hx hb hX hbl hbA hS v2 dL_law_455 ?_
  refine lwCallI (D := D) (A1 := cA q) (wo := mW qm cI cI Im Fm hm) (va_runV (As := [.int (xs (nI i + (1 : Int32)).toNatClampNeg), .int (xs (nI i + (2 : Int32)).toNatClampNeg)]) (rest := []) ⟨hx, hb, hml, hown, hts⟩ (c_X8_change l D q cI cO hq (xs (nI i + (1 : Int32)).toNatClampNeg) (xs (nI i + (2 : Int32)).toNatClampNeg) Ic Fc _ (j_change (hm := hm) hR)) (cwV 2 hts gL_law_X8_change rfl rfl rfl (by decide +kernel) ⟨Nat.le_of_ble_eq_true rfl, Nat.le_of_ble_eq_true rfl⟩) (lwPreV hE hsC e39 e40 e41 hK hPc hS) rfl rfl hl.1 rfl (lv_room (Nat.le_of_ble_eq_true rfl)) dL_law_456 ⟨Nat.le_of_ble_eq_true rfl, Nat.le_of_ble_eq_true rfl⟩) hS hsC hPm (lw_disC hne) (fun r u H locs hPc hPm hS h => ?_)
  obtain ⟨Ic2, Fc2⟩ := u
  have hPc : va_P D vwCl (cW q cI cO Ic2 Fc2) H := hPc
  refine lv_aload_n hx hb dL_law_459 rfl (lv_at hl 2 rfl) ?_
  refine lv_aload_n hx hb dL_law_460 rfl (lv_at hl 0 rfl) ?_
  refine lv_iload_n hx hb dL_law_461 rfl (lv_at hl 3 rfl) ?_
  refine lv_iconst (v := (1 : Int32)) hx hb dL_law_462 (by decide) ?_
  refine lv_iadd hx hb dL_law_463 ?_
  refine va_sld hx hb hX hbl hbA hS v1 dL_law_464 ?_
  refine lv_aload_n hx hb dL_law_465 rfl (lv_at hl 0 rfl) ?_
  refine lv_iload_n hx hb dL_law_466 rfl (lv_at hl 3 rfl) ?_
  refine lv_iconst (v := (2 : Int32)) hx hb dL_law_467 (by decide) ?_
  refine lv_iadd hx hb dL_law_468 ?_
  refine va_sld hx hb hX hbl hbA hS v2 dL_law_469 ?_
  refine lwCallI (D := D) (A1 := mA qm) (wo := cW q cI cO Ic2 Fc2) (va_runV (As := [.int (xs (nI i + (1 : Int32)).toNatClampNeg), .int (xs (nI i + (2 : Int32)).toNatClampNeg)]) (rest := [.int r]) ⟨hx, hb, hml, hown, hts⟩ (c_X9_change l D qm cI cI hqm (xs (nI i + (1 : Int32)).toNatClampNeg) (xs (nI i + (2 : Int32)).toNatClampNeg) Im Fm hm _ h) (cwV 2 hts gL_law_X9_change rfl rfl rfl (by decide +kernel) ⟨Nat.le_of_ble_eq_true rfl, Nat.le_of_ble_eq_true rfl⟩) (gPreV (ci := 9) (q0 := 0) (mEokA (A := fun x : Nat => s.heap.size ≤ x)) trivial hKm hPm hS rfl mAt0) rfl rfl hl.1 rfl (lv_room (Nat.le_of_ble_eq_true rfl)) dL_law_470 ⟨Nat.le_of_ble_eq_true rfl, Nat.le_of_ble_eq_true rfl⟩) hS hsM hPc (lw_disM hne) (fun r2 u H locs hPm hPc hS h => ?_)
  obtain ⟨Im2, Fm2, hm2⟩ := u
  have hPm : va_P D vwCl (mW qm cI cI Im2 Fm2 hm2) H := hPm
  exact lv_icmp_eq (tgt := 797) hx hb dL_law_473 (by decide) (fun _ => K Ic2 Fc2 Im2 Fm2 hm2 _ _ hPc hPm hS (RR_up h.2.2)) (fun z => absurd h.1 z)
set_option maxHeartbeats 4000000 in
set_option maxRecDepth 100000 in
theorem lw_c_shift {p : Program} {l : Launch} {e : Env} {s : State} {m : MethodId} {below : List Frame} {meth : Method} {c : Code} {b L : Nat} {xs : Nat → Int32} {D : va_G} {q qm tq : Nat → Nat} {cI cO : ClassId} (X : lwX p s m meth c b L xs D q qm tq cI cO) {k i : Nat} (hi : i + 4 ≤ L) (hL : L ≤ 2048) (hk : k < 100000) {Ic Im : Nat → Int32} {Fc Fm : Nat → Nat → Int32} {hm : Int64} (hR : RR k Ic Fc Im Fm) {H : Heap} {locs : List Loc} {ls : Array Slot} (hPc : va_P D vwCl (cW q cI cO Ic Fc) H) (hPm : va_P D vwCl (mW qm cI cI Im Fm hm) H) (hS : va_S (fun x : Nat => s.heap.size ≤ x) s.heap H locs) (hl : lv_has ls 4 [(0, .ref b), (1, .ref (q 0)), (2, .ref (qm 0)), (3, .int (nI i))]) (K : ∀ (Ic : Nat → Int32) (Fc : Nat → Nat → Int32) (Im : Nat → Int32) (Fm : Nat → Nat → Int32) (hm : Int64) (H : Heap) (locs : List Loc), va_P D vwCl (cW q cI cO Ic Fc) H → va_P D vwCl (mW qm cI cI Im Fm hm) H → va_S (fun x : Nat => s.heap.size ≤ x) s.heap H locs → RR (k + 1) Ic Fc Im Fm → W p l e room_1 s m #[Value.ref b] below meth c H locs 65 250119 (lw_Z below #[Value.ref b] s) (F0 m 797 ls [])) : W p l e room_1 s m #[Value.ref b] below meth c H locs 65 250119 (lw_Z below #[Value.ref b] s) (F0 m 478 ls []) := by
  obtain ⟨⟨hx, hb, hr, hml, hown, hts0, hX, hbl, hlocks, hgv⟩, hK, hE, ⟨e39, e40, e41⟩, hq, hqm, hAc, hAm, hne⟩ := X
  have hts : ∀ w ∈ wsL_law, w.before #[Value.ref b] s = true := fun w h => hts0 w (wsL_law_in w h)
  have hown : s.vm.findClass RL = some m.cls := hown
  have hbA : ¬ (fun x : Nat => s.heap.size ≤ x) b := Nat.not_le.mpr hbl
  have hKm : va_K D vwCl (mTys cI) s := hK.sub [0] rfl
  have hsC := lw_subC hAc
  have hsM := lw_subM hAm
  have v0 : vp_in (nI i) L := vp_in_nI (by omega) (by omega)
  have v1 : vp_in (nI i + (1 : Int32)) L := by rw [nI_1]; exact vp_in_nI (by omega) (by omega)
  have v2 : vp_in (nI i + (2 : Int32)) L := by rw [show (2 : Int32) = nI 2 by decide, nI_add]; exact vp_in_nI (by omega) (by omega)
  have v3 : vp_in (nI i + (3 : Int32)) L := by rw [show (3 : Int32) = nI 3 by decide, nI_add]; exact vp_in_nI (by omega) (by omega)
  refine lv_aload_n hx hb dL_law_478 rfl (lv_at hl 1 rfl) ?_
  refine lv_aload_n hx hb dL_law_479 rfl (lv_at hl 0 rfl) ?_
  refine lv_iload_n hx hb dL_law_480 rfl (lv_at hl 3 rfl) ?_
  refine lv_iconst (v := (1 : Int32)) hx hb dL_law_481 (by decide) ?_
  refine lv_iadd hx hb dL_law_482 ?_
  refine va_sld hx hb hX hbl hbA hS v1 dL_law_483 ?_
  refine lwCallI (D := D) (A1 := cA q) (wo := mW qm cI cI Im Fm hm) (va_runV (As := [.int (xs (nI i + (1 : Int32)).toNatClampNeg)]) (rest := []) ⟨hx, hb, hml, hown, hts⟩ (c_X8_shift l D q cI cO hq (xs (nI i + (1 : Int32)).toNatClampNeg) Ic Fc _ (j_shift (hm := hm) hR)) (cwV 1 hts gL_law_X8_shift rfl rfl rfl (by decide +kernel) ⟨Nat.le_of_ble_eq_true rfl, Nat.le_of_ble_eq_true rfl⟩) (lwPreV hE hsC e39 e40 e41 hK hPc hS) rfl rfl hl.1 rfl (lv_room (Nat.le_of_ble_eq_true rfl)) dL_law_484 ⟨Nat.le_of_ble_eq_true rfl, Nat.le_of_ble_eq_true rfl⟩) hS hsC hPm (lw_disC hne) (fun r u H locs hPc hPm hS h => ?_)
  obtain ⟨Ic2, Fc2⟩ := u
  have hPc : va_P D vwCl (cW q cI cO Ic2 Fc2) H := hPc
  refine lv_aload_n hx hb dL_law_487 rfl (lv_at hl 2 rfl) ?_
  refine lv_aload_n hx hb dL_law_488 rfl (lv_at hl 0 rfl) ?_
  refine lv_iload_n hx hb dL_law_489 rfl (lv_at hl 3 rfl) ?_
  refine lv_iconst (v := (1 : Int32)) hx hb dL_law_490 (by decide) ?_
  refine lv_iadd hx hb dL_law_491 ?_
  refine va_sld hx hb hX hbl hbA hS v1 dL_law_492 ?_
  refine lwCallI (D := D) (A1 := mA qm) (wo := cW q cI cO Ic2 Fc2) (va_runV (As := [.int (xs (nI i + (1 : Int32)).toNatClampNeg)]) (rest := [.int r]) ⟨hx, hb, hml, hown, hts⟩ (c_X9_shift l D qm cI cI hqm (xs (nI i + (1 : Int32)).toNatClampNeg) Im Fm hm _ h) (cwV 1 hts gL_law_X9_shift rfl rfl rfl (by decide +kernel) ⟨Nat.le_of_ble_eq_true rfl, Nat.le_of_ble_eq_true rfl⟩) (gPreV (ci := 9) (q0 := 0) (mEokA (A := fun x : Nat => s.heap.size ≤ x)) trivial hKm hPm hS rfl mAt0) rfl rfl hl.1 rfl (lv_room (Nat.le_of_ble_eq_true rfl)) dL_law_493 ⟨Nat.le_of_ble_eq_true rfl, Nat.le_of_ble_eq_true rfl⟩) hS hsM hPc (lw_disM hne) (fun r2 u H locs hPm hPc hS h => ?_)
  obtain ⟨Im2, Fm2, hm2⟩ := u
  have hPm : va_P D vwCl (mW qm cI cI Im2 Fm2 hm2) H := hPm
  exact lv_icmp_eq (tgt := 797) hx hb dL_law_496 (by decide) (fun _ => K Ic2 Fc2 Im2 Fm2 hm2 _ _ hPc hPm hS (RR_up h.2.2)) (fun z => absurd h.1 z)
set_option maxHeartbeats 4000000 in
set_option maxRecDepth 100000 in
theorem lw_c_plan {p : Program} {l : Launch} {e : Env} {s : State} {m : MethodId} {below : List Frame} {meth : Method} {c : Code} {b L : Nat} {xs : Nat → Int32} {D : va_G} {q qm tq : Nat → Nat} {cI cO : ClassId} (X : lwX p s m meth c b L xs D q qm tq cI cO) {k i : Nat} (hi : i + 4 ≤ L) (hL : L ≤ 2048) (hk : k < 100000) {Ic Im : Nat → Int32} {Fc Fm : Nat → Nat → Int32} {hm : Int64} (hR : RR k Ic Fc Im Fm) {H : Heap} {locs : List Loc} {ls : Array Slot} (hPc : va_P D vwCl (cW q cI cO Ic Fc) H) (hPm : va_P D vwCl (mW qm cI cI Im Fm hm) H) (hS : va_S (fun x : Nat => s.heap.size ≤ x) s.heap H locs) (hl : lv_has ls 4 [(0, .ref b), (1, .ref (q 0)), (2, .ref (qm 0)), (3, .int (nI i))]) (K : ∀ (Ic : Nat → Int32) (Fc : Nat → Nat → Int32) (Im : Nat → Int32) (Fm : Nat → Nat → Int32) (hm : Int64) (H : Heap) (locs : List Loc), va_P D vwCl (cW q cI cO Ic Fc) H → va_P D vwCl (mW qm cI cI Im Fm hm) H → va_S (fun x : Nat => s.heap.size ≤ x) s.heap H locs → RR (k + 1) Ic Fc Im Fm → W p l e room_1 s m #[Value.ref b] below meth c H locs 65 250119 (lw_Z below #[Value.ref b] s) (F0 m 797 ls [])) : W p l e room_1 s m #[Value.ref b] below meth c H locs 65 250119 (lw_Z below #[Value.ref b] s) (F0 m 501 ls []) := by
  obtain ⟨⟨hx, hb, hr, hml, hown, hts0, hX, hbl, hlocks, hgv⟩, hK, hE, ⟨e39, e40, e41⟩, hq, hqm, hAc, hAm, hne⟩ := X
  have hts : ∀ w ∈ wsL_law, w.before #[Value.ref b] s = true := fun w h => hts0 w (wsL_law_in w h)
  have hown : s.vm.findClass RL = some m.cls := hown
  have hbA : ¬ (fun x : Nat => s.heap.size ≤ x) b := Nat.not_le.mpr hbl
  have hKm : va_K D vwCl (mTys cI) s := hK.sub [0] rfl
  have hsC := lw_subC hAc
  have hsM := lw_subM hAm
  have v0 : vp_in (nI i) L := vp_in_nI (by omega) (by omega)
  have v1 : vp_in (nI i + (1 : Int32)) L := by rw [nI_1]; exact vp_in_nI (by omega) (by omega)
  have v2 : vp_in (nI i + (2 : Int32)) L := by rw [show (2 : Int32) = nI 2 by decide, nI_add]; exact vp_in_nI (by omega) (by omega)
  have v3 : vp_in (nI i + (3 : Int32)) L := by rw [show (3 : Int32) = nI 3 by decide, nI_add]; exact vp_in_nI (by omega) (by omega)
  refine lv_aload_n hx hb dL_law_501 rfl (lv_at hl 1 rfl) ?_
  refine lv_aload_n hx hb dL_law_502 rfl (lv_at hl 0 rfl) ?_
  refine lv_iload_n hx hb dL_law_503 rfl (lv_at hl 3 rfl) ?_
  refine lv_iconst (v := (1 : Int32)) hx hb dL_law_504 (by decide) ?_
  refine lv_iadd hx hb dL_law_505 ?_
  refine va_sld hx hb hX hbl hbA hS v1 dL_law_506 ?_
  refine lwCallI (D := D) (A1 := cA q) (wo := mW qm cI cI Im Fm hm) (va_runV (As := [.int (xs (nI i + (1 : Int32)).toNatClampNeg)]) (rest := []) ⟨hx, hb, hml, hown, hts⟩ (c_X8_plan l D q cI cO hq (xs (nI i + (1 : Int32)).toNatClampNeg) Ic Fc _ (j_plan (hm := hm) hR)) (cwV 1 hts gL_law_X8_plan rfl rfl rfl (by decide +kernel) ⟨Nat.le_of_ble_eq_true rfl, Nat.le_of_ble_eq_true rfl⟩) (lwPreV hE hsC e39 e40 e41 hK hPc hS) rfl rfl hl.1 rfl (lv_room (Nat.le_of_ble_eq_true rfl)) dL_law_507 ⟨Nat.le_of_ble_eq_true rfl, Nat.le_of_ble_eq_true rfl⟩) hS hsC hPm (lw_disC hne) (fun r u H locs hPc hPm hS h => ?_)
  obtain ⟨Ic2, Fc2⟩ := u
  have hPc : va_P D vwCl (cW q cI cO Ic2 Fc2) H := hPc
  refine lv_aload_n hx hb dL_law_510 rfl (lv_at hl 2 rfl) ?_
  refine lv_aload_n hx hb dL_law_511 rfl (lv_at hl 0 rfl) ?_
  refine lv_iload_n hx hb dL_law_512 rfl (lv_at hl 3 rfl) ?_
  refine lv_iconst (v := (1 : Int32)) hx hb dL_law_513 (by decide) ?_
  refine lv_iadd hx hb dL_law_514 ?_
  refine va_sld hx hb hX hbl hbA hS v1 dL_law_515 ?_
  refine lwCallI (D := D) (A1 := mA qm) (wo := cW q cI cO Ic2 Fc2) (va_runV (As := [.int (xs (nI i + (1 : Int32)).toNatClampNeg)]) (rest := [.int r]) ⟨hx, hb, hml, hown, hts⟩ (c_X9_plan l D qm cI cI hqm (xs (nI i + (1 : Int32)).toNatClampNeg) Im Fm hm _ h) (cwV 1 hts gL_law_X9_plan rfl rfl rfl (by decide +kernel) ⟨Nat.le_of_ble_eq_true rfl, Nat.le_of_ble_eq_true rfl⟩) (gPreV (ci := 9) (q0 := 0) (mEokA (A := fun x : Nat => s.heap.size ≤ x)) trivial hKm hPm hS rfl mAt0) rfl rfl hl.1 rfl (lv_room (Nat.le_of_ble_eq_true rfl)) dL_law_516 ⟨Nat.le_of_ble_eq_true rfl, Nat.le_of_ble_eq_true rfl⟩) hS hsM hPc (lw_disM hne) (fun r2 u H locs hPm hPc hS h => ?_)
  obtain ⟨Im2, Fm2, hm2⟩ := u
  have hPm : va_P D vwCl (mW qm cI cI Im2 Fm2 hm2) H := hPm
  exact lv_icmp_eq (tgt := 797) hx hb dL_law_519 (by decide) (fun _ => K Ic2 Fc2 Im2 Fm2 hm2 _ _ hPc hPm hS (RR_up h.2.2)) (fun z => absurd h.1 z)
set_option maxHeartbeats 4000000 in
set_option maxRecDepth 100000 in
theorem lw_c_setting {p : Program} {l : Launch} {e : Env} {s : State} {m : MethodId} {below : List Frame} {meth : Method} {c : Code} {b L : Nat} {xs : Nat → Int32} {D : va_G} {q qm tq : Nat → Nat} {cI cO : ClassId} (X : lwX p s m meth c b L xs D q qm tq cI cO) {k i : Nat} (hi : i + 4 ≤ L) (hL : L ≤ 2048) (hk : k < 100000) {Ic Im : Nat → Int32} {Fc Fm : Nat → Nat → Int32} {hm : Int64} (hR : RR k Ic Fc Im Fm) {H : Heap} {locs : List Loc} {ls : Array Slot} (hPc : va_P D vwCl (cW q cI cO Ic Fc) H) (hPm : va_P D vwCl (mW qm cI cI Im Fm hm) H) (hS : va_S (fun x : Nat => s.heap.size ≤ x) s.heap H locs) (hl : lv_has ls 4 [(0, .ref b), (1, .ref (q 0)), (2, .ref (qm 0)), (3, .int (nI i))]) (K : ∀ (Ic : Nat → Int32) (Fc : Nat → Nat → Int32) (Im : Nat → Int32) (Fm : Nat → Nat → Int32) (hm : Int64) (H : Heap) (locs : List Loc), va_P D vwCl (cW q cI cO Ic Fc) H → va_P D vwCl (mW qm cI cI Im Fm hm) H → va_S (fun x : Nat => s.heap.size ≤ x) s.heap H locs → RR (k + 1) Ic Fc Im Fm → W p l e room_1 s m #[Value.ref b] below meth c H locs 65 250119 (lw_Z below #[Value.ref b] s) (F0 m 797 ls [])) : W p l e room_1 s m #[Value.ref b] below meth c H locs 65 250119 (lw_Z below #[Value.ref b] s) (F0 m 524 ls []) := by
  obtain ⟨⟨hx, hb, hr, hml, hown, hts0, hX, hbl, hlocks, hgv⟩, hK, hE, ⟨e39, e40, e41⟩, hq, hqm, hAc, hAm, hne⟩ := X
  have hts : ∀ w ∈ wsL_law, w.before #[Value.ref b] s = true := fun w h => hts0 w (wsL_law_in w h)
  have hown : s.vm.findClass RL = some m.cls := hown
  have hbA : ¬ (fun x : Nat => s.heap.size ≤ x) b := Nat.not_le.mpr hbl
  have hKm : va_K D vwCl (mTys cI) s := hK.sub [0] rfl
  have hsC := lw_subC hAc
  have hsM := lw_subM hAm
  have v0 : vp_in (nI i) L := vp_in_nI (by omega) (by omega)
  have v1 : vp_in (nI i + (1 : Int32)) L := by rw [nI_1]; exact vp_in_nI (by omega) (by omega)
  have v2 : vp_in (nI i + (2 : Int32)) L := by rw [show (2 : Int32) = nI 2 by decide, nI_add]; exact vp_in_nI (by omega) (by omega)
  have v3 : vp_in (nI i + (3 : Int32)) L := by rw [show (3 : Int32) = nI 3 by decide, nI_add]; exact vp_in_nI (by omega) (by omega)
  refine lv_aload_n hx hb dL_law_524 rfl (lv_at hl 1 rfl) ?_
  refine lv_aload_n hx hb dL_law_525 rfl (lv_at hl 0 rfl) ?_
  refine lv_iload_n hx hb dL_law_526 rfl (lv_at hl 3 rfl) ?_
  refine lv_iconst (v := (1 : Int32)) hx hb dL_law_527 (by decide) ?_
  refine lv_iadd hx hb dL_law_528 ?_
  refine va_sld hx hb hX hbl hbA hS v1 dL_law_529 ?_
  refine lwCallI (D := D) (A1 := cA q) (wo := mW qm cI cI Im Fm hm) (va_runV (As := [.int (xs (nI i + (1 : Int32)).toNatClampNeg)]) (rest := []) ⟨hx, hb, hml, hown, hts⟩ (c_X8_setting l D q cI cO hq (xs (nI i + (1 : Int32)).toNatClampNeg) Ic Fc _ (j_setting (hm := hm) hR)) (cwV 1 hts gL_law_X8_setting rfl rfl rfl (by decide +kernel) ⟨Nat.le_of_ble_eq_true rfl, Nat.le_of_ble_eq_true rfl⟩) (lwPreV hE hsC e39 e40 e41 hK hPc hS) rfl rfl hl.1 rfl (lv_room (Nat.le_of_ble_eq_true rfl)) dL_law_530 ⟨Nat.le_of_ble_eq_true rfl, Nat.le_of_ble_eq_true rfl⟩) hS hsC hPm (lw_disC hne) (fun r u H locs hPc hPm hS h => ?_)
  obtain ⟨Ic2, Fc2⟩ := u
  have hPc : va_P D vwCl (cW q cI cO Ic2 Fc2) H := hPc
  refine lv_aload_n hx hb dL_law_533 rfl (lv_at hl 2 rfl) ?_
  refine lv_aload_n hx hb dL_law_534 rfl (lv_at hl 0 rfl) ?_
  refine lv_iload_n hx hb dL_law_535 rfl (lv_at hl 3 rfl) ?_
  refine lv_iconst (v := (1 : Int32)) hx hb dL_law_536 (by decide) ?_
  refine lv_iadd hx hb dL_law_537 ?_
  refine va_sld hx hb hX hbl hbA hS v1 dL_law_538 ?_
  refine lwCallI (D := D) (A1 := mA qm) (wo := cW q cI cO Ic2 Fc2) (va_runV (As := [.int (xs (nI i + (1 : Int32)).toNatClampNeg)]) (rest := [.int r]) ⟨hx, hb, hml, hown, hts⟩ (c_X9_setting l D qm cI cI hqm (xs (nI i + (1 : Int32)).toNatClampNeg) Im Fm hm _ h) (cwV 1 hts gL_law_X9_setting rfl rfl rfl (by decide +kernel) ⟨Nat.le_of_ble_eq_true rfl, Nat.le_of_ble_eq_true rfl⟩) (gPreV (ci := 9) (q0 := 0) (mEokA (A := fun x : Nat => s.heap.size ≤ x)) trivial hKm hPm hS rfl mAt0) rfl rfl hl.1 rfl (lv_room (Nat.le_of_ble_eq_true rfl)) dL_law_539 ⟨Nat.le_of_ble_eq_true rfl, Nat.le_of_ble_eq_true rfl⟩) hS hsM hPc (lw_disM hne) (fun r2 u H locs hPm hPc hS h => ?_)
  obtain ⟨Im2, Fm2, hm2⟩ := u
  have hPm : va_P D vwCl (mW qm cI cI Im2 Fm2 hm2) H := hPm
  exact lv_icmp_eq (tgt := 797) hx hb dL_law_542 (by decide) (fun _ => K Ic2 Fc2 Im2 Fm2 hm2 _ _ hPc hPm hS (RR_up h.2.2)) (fun z => absurd h.1 z)
set_option maxHeartbeats 4000000 in
set_option maxRecDepth 100000 in
theorem lw_c_reach {p : Program} {l : Launch} {e : Env} {s : State} {m : MethodId} {below : List Frame} {meth : Method} {c : Code} {b L : Nat} {xs : Nat → Int32} {D : va_G} {q qm tq : Nat → Nat} {cI cO : ClassId} (X : lwX p s m meth c b L xs D q qm tq cI cO) {k i : Nat} (hi : i + 4 ≤ L) (hL : L ≤ 2048) (hk : k < 100000) {Ic Im : Nat → Int32} {Fc Fm : Nat → Nat → Int32} {hm : Int64} (hR : RR k Ic Fc Im Fm) {H : Heap} {locs : List Loc} {ls : Array Slot} (hPc : va_P D vwCl (cW q cI cO Ic Fc) H) (hPm : va_P D vwCl (mW qm cI cI Im Fm hm) H) (hS : va_S (fun x : Nat => s.heap.size ≤ x) s.heap H locs) (hl : lv_has ls 4 [(0, .ref b), (1, .ref (q 0)), (2, .ref (qm 0)), (3, .int (nI i))]) (K : ∀ (Ic : Nat → Int32) (Fc : Nat → Nat → Int32) (Im : Nat → Int32) (Fm : Nat → Nat → Int32) (hm : Int64) (H : Heap) (locs : List Loc), va_P D vwCl (cW q cI cO Ic Fc) H → va_P D vwCl (mW qm cI cI Im Fm hm) H → va_S (fun x : Nat => s.heap.size ≤ x) s.heap H locs → RR (k + 1) Ic Fc Im Fm → W p l e room_1 s m #[Value.ref b] below meth c H locs 65 250119 (lw_Z below #[Value.ref b] s) (F0 m 797 ls [])) : W p l e room_1 s m #[Value.ref b] below meth c H locs 65 250119 (lw_Z below #[Value.ref b] s) (F0 m 547 ls []) := by
  obtain ⟨⟨hx, hb, hr, hml, hown, hts0, hX, hbl, hlocks, hgv⟩, hK, hE, ⟨e39, e40, e41⟩, hq, hqm, hAc, hAm, hne⟩ := X
  have hts : ∀ w ∈ wsL_law, w.before #[Value.ref b] s = true := fun w h => hts0 w (wsL_law_in w h)
  have hown : s.vm.findClass RL = some m.cls := hown
  have hbA : ¬ (fun x : Nat => s.heap.size ≤ x) b := Nat.not_le.mpr hbl
  have hKm : va_K D vwCl (mTys cI) s := hK.sub [0] rfl
  have hsC := lw_subC hAc
  have hsM := lw_subM hAm
  have v0 : vp_in (nI i) L := vp_in_nI (by omega) (by omega)
  have v1 : vp_in (nI i + (1 : Int32)) L := by rw [nI_1]; exact vp_in_nI (by omega) (by omega)
  have v2 : vp_in (nI i + (2 : Int32)) L := by rw [show (2 : Int32) = nI 2 by decide, nI_add]; exact vp_in_nI (by omega) (by omega)
  have v3 : vp_in (nI i + (3 : Int32)) L := by rw [show (3 : Int32) = nI 3 by decide, nI_add]; exact vp_in_nI (by omega) (by omega)
  refine lv_aload_n hx hb dL_law_547 rfl (lv_at hl 1 rfl) ?_
  refine lv_aload_n hx hb dL_law_548 rfl (lv_at hl 0 rfl) ?_
  refine lv_iload_n hx hb dL_law_549 rfl (lv_at hl 3 rfl) ?_
  refine lv_iconst (v := (1 : Int32)) hx hb dL_law_550 (by decide) ?_
  refine lv_iadd hx hb dL_law_551 ?_
  refine va_sld hx hb hX hbl hbA hS v1 dL_law_552 ?_
  refine lwCallI (D := D) (A1 := cA q) (wo := mW qm cI cI Im Fm hm) (va_runV (As := [.int (xs (nI i + (1 : Int32)).toNatClampNeg)]) (rest := []) ⟨hx, hb, hml, hown, hts⟩ (c_X8_reach l D q cI cO hq (xs (nI i + (1 : Int32)).toNatClampNeg) Ic Fc _ (j_reach (hm := hm) hR)) (cwV 1 hts gL_law_X8_reach rfl rfl rfl (by decide +kernel) ⟨Nat.le_of_ble_eq_true rfl, Nat.le_of_ble_eq_true rfl⟩) (lwPreV hE hsC e39 e40 e41 hK hPc hS) rfl rfl hl.1 rfl (lv_room (Nat.le_of_ble_eq_true rfl)) dL_law_553 ⟨Nat.le_of_ble_eq_true rfl, Nat.le_of_ble_eq_true rfl⟩) hS hsC hPm (lw_disC hne) (fun r u H locs hPc hPm hS h => ?_)
  obtain ⟨Ic2, Fc2⟩ := u
  have hPc : va_P D vwCl (cW q cI cO Ic2 Fc2) H := hPc
  refine lv_aload_n hx hb dL_law_556 rfl (lv_at hl 2 rfl) ?_
  refine lv_aload_n hx hb dL_law_557 rfl (lv_at hl 0 rfl) ?_
  refine lv_iload_n hx hb dL_law_558 rfl (lv_at hl 3 rfl) ?_
  refine lv_iconst (v := (1 : Int32)) hx hb dL_law_559 (by decide) ?_
  refine lv_iadd hx hb dL_law_560 ?_
  refine va_sld hx hb hX hbl hbA hS v1 dL_law_561 ?_
  refine lwCallI (D := D) (A1 := mA qm) (wo := cW q cI cO Ic2 Fc2) (va_runV (As := [.int (xs (nI i + (1 : Int32)).toNatClampNeg)]) (rest := [.int r]) ⟨hx, hb, hml, hown, hts⟩ (c_X9_reach l D qm cI cI hqm (xs (nI i + (1 : Int32)).toNatClampNeg) Im Fm hm _ h) (cwV 1 hts gL_law_X9_reach rfl rfl rfl (by decide +kernel) ⟨Nat.le_of_ble_eq_true rfl, Nat.le_of_ble_eq_true rfl⟩) (gPreV (ci := 9) (q0 := 0) (mEokA (A := fun x : Nat => s.heap.size ≤ x)) trivial hKm hPm hS rfl mAt0) rfl rfl hl.1 rfl (lv_room (Nat.le_of_ble_eq_true rfl)) dL_law_562 ⟨Nat.le_of_ble_eq_true rfl, Nat.le_of_ble_eq_true rfl⟩) hS hsM hPc (lw_disM hne) (fun r2 u H locs hPm hPc hS h => ?_)
  obtain ⟨Im2, Fm2, hm2⟩ := u
  have hPm : va_P D vwCl (mW qm cI cI Im2 Fm2 hm2) H := hPm
  exact lv_icmp_eq (tgt := 797) hx hb dL_law_565 (by decide) (fun _ => K Ic2 Fc2 Im2 Fm2 hm2 _ _ hPc hPm hS (RR_up h.2.2)) (fun z => absurd h.1 z)
set_option maxHeartbeats 4000000 in
set_option maxRecDepth 100000 in
theorem lw_c_shifted {p : Program} {l : Launch} {e : Env} {s : State} {m : MethodId} {below : List Frame} {meth : Method} {c : Code} {b L : Nat} {xs : Nat → Int32} {D : va_G} {q qm tq : Nat → Nat} {cI cO : ClassId} (X : lwX p s m meth c b L xs D q qm tq cI cO) {k i : Nat} (hi : i + 4 ≤ L) (hL : L ≤ 2048) (hk : k < 100000) {Ic Im : Nat → Int32} {Fc Fm : Nat → Nat → Int32} {hm : Int64} (hR : RR k Ic Fc Im Fm) {H : Heap} {locs : List Loc} {ls : Array Slot} (hPc : va_P D vwCl (cW q cI cO Ic Fc) H) (hPm : va_P D vwCl (mW qm cI cI Im Fm hm) H) (hS : va_S (fun x : Nat => s.heap.size ≤ x) s.heap H locs) (hl : lv_has ls 4 [(0, .ref b), (1, .ref (q 0)), (2, .ref (qm 0)), (3, .int (nI i))]) (K : ∀ (Ic : Nat → Int32) (Fc : Nat → Nat → Int32) (Im : Nat → Int32) (Fm : Nat → Nat → Int32) (hm : Int64) (H : Heap) (locs : List Loc), va_P D vwCl (cW q cI cO Ic Fc) H → va_P D vwCl (mW qm cI cI Im Fm hm) H → va_S (fun x : Nat => s.heap.size ≤ x) s.heap H locs → RR (k + 1) Ic Fc Im Fm → W p l e room_1 s m #[Value.ref b] below meth c H locs 65 250119 (lw_Z below #[Value.ref b] s) (F0 m 797 ls [])) : W p l e room_1 s m #[Value.ref b] below meth c H locs 65 250119 (lw_Z below #[Value.ref b] s) (F0 m 570 ls []) := by
  obtain ⟨⟨hx, hb, hr, hml, hown, hts0, hX, hbl, hlocks, hgv⟩, hK, hE, ⟨e39, e40, e41⟩, hq, hqm, hAc, hAm, hne⟩ := X
  have hts : ∀ w ∈ wsL_law, w.before #[Value.ref b] s = true := fun w h => hts0 w (wsL_law_in w h)
  have hown : s.vm.findClass RL = some m.cls := hown
  have hbA : ¬ (fun x : Nat => s.heap.size ≤ x) b := Nat.not_le.mpr hbl
  have hKm : va_K D vwCl (mTys cI) s := hK.sub [0] rfl
  have hsC := lw_subC hAc
  have hsM := lw_subM hAm
  have v0 : vp_in (nI i) L := vp_in_nI (by omega) (by omega)
  have v1 : vp_in (nI i + (1 : Int32)) L := by rw [nI_1]; exact vp_in_nI (by omega) (by omega)
  have v2 : vp_in (nI i + (2 : Int32)) L := by rw [show (2 : Int32) = nI 2 by decide, nI_add]; exact vp_in_nI (by omega) (by omega)
  have v3 : vp_in (nI i + (3 : Int32)) L := by rw [show (3 : Int32) = nI 3 by decide, nI_add]; exact vp_in_nI (by omega) (by omega)
  refine lv_aload_n hx hb dL_law_570 rfl (lv_at hl 1 rfl) ?_
  refine lv_aload_n hx hb dL_law_571 rfl (lv_at hl 0 rfl) ?_
  refine lv_iload_n hx hb dL_law_572 rfl (lv_at hl 3 rfl) ?_
  refine lv_iconst (v := (1 : Int32)) hx hb dL_law_573 (by decide) ?_
  refine lv_iadd hx hb dL_law_574 ?_
  refine va_sld hx hb hX hbl hbA hS v1 dL_law_575 ?_
  refine lwCallI (D := D) (A1 := cA q) (wo := mW qm cI cI Im Fm hm) (va_runV (As := [.int (xs (nI i + (1 : Int32)).toNatClampNeg)]) (rest := []) ⟨hx, hb, hml, hown, hts⟩ (c_X8_shifted l D q cI cO hq (xs (nI i + (1 : Int32)).toNatClampNeg) Ic Fc _ (j_shifted (hm := hm) hR)) (cwV 1 hts gL_law_X8_shifted rfl rfl rfl (by decide +kernel) ⟨Nat.le_of_ble_eq_true rfl, Nat.le_of_ble_eq_true rfl⟩) (lwPreV hE hsC e39 e40 e41 hK hPc hS) rfl rfl hl.1 rfl (lv_room (Nat.le_of_ble_eq_true rfl)) dL_law_576 ⟨Nat.le_of_ble_eq_true rfl, Nat.le_of_ble_eq_true rfl⟩) hS hsC hPm (lw_disC hne) (fun r u H locs hPc hPm hS h => ?_)
  obtain ⟨Ic2, Fc2⟩ := u
  have hPc : va_P D vwCl (cW q cI cO Ic2 Fc2) H := hPc
  refine lv_aload_n hx hb dL_law_579 rfl (lv_at hl 2 rfl) ?_
  refine lv_aload_n hx hb dL_law_580 rfl (lv_at hl 0 rfl) ?_
  refine lv_iload_n hx hb dL_law_581 rfl (lv_at hl 3 rfl) ?_
  refine lv_iconst (v := (1 : Int32)) hx hb dL_law_582 (by decide) ?_
  refine lv_iadd hx hb dL_law_583 ?_
  refine va_sld hx hb hX hbl hbA hS v1 dL_law_584 ?_
  refine lwCallI (D := D) (A1 := mA qm) (wo := cW q cI cO Ic2 Fc2) (va_runV (As := [.int (xs (nI i + (1 : Int32)).toNatClampNeg)]) (rest := [.int r]) ⟨hx, hb, hml, hown, hts⟩ (c_X9_shifted l D qm cI cI hqm (xs (nI i + (1 : Int32)).toNatClampNeg) Im Fm hm _ h) (cwV 1 hts gL_law_X9_shifted rfl rfl rfl (by decide +kernel) ⟨Nat.le_of_ble_eq_true rfl, Nat.le_of_ble_eq_true rfl⟩) (gPreV (ci := 9) (q0 := 0) (mEokA (A := fun x : Nat => s.heap.size ≤ x)) trivial hKm hPm hS rfl mAt0) rfl rfl hl.1 rfl (lv_room (Nat.le_of_ble_eq_true rfl)) dL_law_585 ⟨Nat.le_of_ble_eq_true rfl, Nat.le_of_ble_eq_true rfl⟩) hS hsM hPc (lw_disM hne) (fun r2 u H locs hPm hPc hS h => ?_)
  obtain ⟨Im2, Fm2, hm2⟩ := u
  have hPm : va_P D vwCl (mW qm cI cI Im2 Fm2 hm2) H := hPm
  exact lv_icmp_eq (tgt := 797) hx hb dL_law_588 (by decide) (fun _ => K Ic2 Fc2 Im2 Fm2 hm2 _ _ hPc hPm hS (RR_up h.2.2)) (fun z => absurd h.1 z)
set_option maxHeartbeats 4000000 in
set_option maxRecDepth 100000 in
theorem lw_c_leastShift {p : Program} {l : Launch} {e : Env} {s : State} {m : MethodId} {below : List Frame} {meth : Method} {c : Code} {b L : Nat} {xs : Nat → Int32} {D : va_G} {q qm tq : Nat → Nat} {cI cO : ClassId} (X : lwX p s m meth c b L xs D q qm tq cI cO) {k i : Nat} (hi : i + 4 ≤ L) (hL : L ≤ 2048) (hk : k < 100000) {Ic Im : Nat → Int32} {Fc Fm : Nat → Nat → Int32} {hm : Int64} (hR : RR k Ic Fc Im Fm) {H : Heap} {locs : List Loc} {ls : Array Slot} (hPc : va_P D vwCl (cW q cI cO Ic Fc) H) (hPm : va_P D vwCl (mW qm cI cI Im Fm hm) H) (hS : va_S (fun x : Nat => s.heap.size ≤ x) s.heap H locs) (hl : lv_has ls 4 [(0, .ref b), (1, .ref (q 0)), (2, .ref (qm 0)), (3, .int (nI i))]) (K : ∀ (Ic : Nat → Int32) (Fc : Nat → Nat → Int32) (Im : Nat → Int32) (Fm : Nat → Nat → Int32) (hm : Int64) (H : Heap) (locs : List Loc), va_P D vwCl (cW q cI cO Ic Fc) H → va_P D vwCl (mW qm cI cI Im Fm hm) H → va_S (fun x : Nat => s.heap.size ≤ x) s.heap H locs → RR (k + 1) Ic Fc Im Fm → W p l e room_1 s m #[Value.ref b] below meth c H locs 65 250119 (lw_Z below #[Value.ref b] s) (F0 m 797 ls [])) : W p l e room_1 s m #[Value.ref b] below meth c H locs 65 250119 (lw_Z below #[Value.ref b] s) (F0 m 593 ls []) := by
  obtain ⟨⟨hx, hb, hr, hml, hown, hts0, hX, hbl, hlocks, hgv⟩, hK, hE, ⟨e39, e40, e41⟩, hq, hqm, hAc, hAm, hne⟩ := X
  have hts : ∀ w ∈ wsL_law, w.before #[Value.ref b] s = true := fun w h => hts0 w (wsL_law_in w h)
  have hown : s.vm.findClass RL = some m.cls := hown
  have hbA : ¬ (fun x : Nat => s.heap.size ≤ x) b := Nat.not_le.mpr hbl
  have hKm : va_K D vwCl (mTys cI) s := hK.sub [0] rfl
  have hsC := lw_subC hAc
  have hsM := lw_subM hAm
  have v0 : vp_in (nI i) L := vp_in_nI (by omega) (by omega)
  have v1 : vp_in (nI i + (1 : Int32)) L := by rw [nI_1]; exact vp_in_nI (by omega) (by omega)
  have v2 : vp_in (nI i + (2 : Int32)) L := by rw [show (2 : Int32) = nI 2 by decide, nI_add]; exact vp_in_nI (by omega) (by omega)
  have v3 : vp_in (nI i + (3 : Int32)) L := by rw [show (3 : Int32) = nI 3 by decide, nI_add]; exact vp_in_nI (by omega) (by omega)
  refine lv_aload_n hx hb dL_law_593 rfl (lv_at hl 1 rfl) ?_
  refine lwCallI (D := D) (A1 := cA q) (wo := mW qm cI cI Im Fm hm) (va_runV (As := []) (rest := []) ⟨hx, hb, hml, hown, hts⟩ (c_X8_leastShift l D q cI cO hq  Ic Fc _ (j_least (hm := hm) hR)) (cwV 0 hts gL_law_X8_leastShift rfl rfl rfl (by decide +kernel) ⟨Nat.le_of_ble_eq_true rfl, Nat.le_of_ble_eq_true rfl⟩) (lwPreV hE hsC e39 e40 e41 hK hPc hS) rfl rfl hl.1 rfl (lv_room (Nat.le_of_ble_eq_true rfl)) dL_law_594 ⟨Nat.le_of_ble_eq_true rfl, Nat.le_of_ble_eq_true rfl⟩) hS hsC hPm (lw_disC hne) (fun r u H locs hPc hPm hS h => ?_)
  obtain ⟨Ic2, Fc2⟩ := u
  have hPc : va_P D vwCl (cW q cI cO Ic2 Fc2) H := hPc
  refine lv_aload_n hx hb dL_law_597 rfl (lv_at hl 2 rfl) ?_
  refine lwCallI (D := D) (A1 := mA qm) (wo := cW q cI cO Ic2 Fc2) (va_runV (As := []) (rest := [.int r]) ⟨hx, hb, hml, hown, hts⟩ (c_X9_leastShift l D qm cI cI hqm  Im Fm hm _ h) (cwV 0 hts gL_law_X9_leastShift rfl rfl rfl (by decide +kernel) ⟨Nat.le_of_ble_eq_true rfl, Nat.le_of_ble_eq_true rfl⟩) (gPreV (ci := 9) (q0 := 0) (mEokA (A := fun x : Nat => s.heap.size ≤ x)) trivial hKm hPm hS rfl mAt0) rfl rfl hl.1 rfl (lv_room (Nat.le_of_ble_eq_true rfl)) dL_law_598 ⟨Nat.le_of_ble_eq_true rfl, Nat.le_of_ble_eq_true rfl⟩) hS hsM hPc (lw_disM hne) (fun r2 u H locs hPm hPc hS h => ?_)
  obtain ⟨Im2, Fm2, hm2⟩ := u
  have hPm : va_P D vwCl (mW qm cI cI Im2 Fm2 hm2) H := hPm
  exact lv_icmp_eq (tgt := 797) hx hb dL_law_601 (by decide) (fun _ => K Ic2 Fc2 Im2 Fm2 hm2 _ _ hPc hPm hS (RR_up h.2.2)) (fun z => absurd h.1 z)
set_option maxHeartbeats 4000000 in
set_option maxRecDepth 100000 in
theorem lw_c_free {p : Program} {l : Launch} {e : Env} {s : State} {m : MethodId} {below : List Frame} {meth : Method} {c : Code} {b L : Nat} {xs : Nat → Int32} {D : va_G} {q qm tq : Nat → Nat} {cI cO : ClassId} (X : lwX p s m meth c b L xs D q qm tq cI cO) {k i : Nat} (hi : i + 4 ≤ L) (hL : L ≤ 2048) (hk : k < 100000) {Ic Im : Nat → Int32} {Fc Fm : Nat → Nat → Int32} {hm : Int64} (hR : RR k Ic Fc Im Fm) {H : Heap} {locs : List Loc} {ls : Array Slot} (hPc : va_P D vwCl (cW q cI cO Ic Fc) H) (hPm : va_P D vwCl (mW qm cI cI Im Fm hm) H) (hS : va_S (fun x : Nat => s.heap.size ≤ x) s.heap H locs) (hl : lv_has ls 4 [(0, .ref b), (1, .ref (q 0)), (2, .ref (qm 0)), (3, .int (nI i))]) (K : ∀ (Ic : Nat → Int32) (Fc : Nat → Nat → Int32) (Im : Nat → Int32) (Fm : Nat → Nat → Int32) (hm : Int64) (H : Heap) (locs : List Loc), va_P D vwCl (cW q cI cO Ic Fc) H → va_P D vwCl (mW qm cI cI Im Fm hm) H → va_S (fun x : Nat => s.heap.size ≤ x) s.heap H locs → RR (k + 1) Ic Fc Im Fm → W p l e room_1 s m #[Value.ref b] below meth c H locs 65 250119 (lw_Z below #[Value.ref b] s) (F0 m 797 ls [])) : W p l e room_1 s m #[Value.ref b] below meth c H locs 65 250119 (lw_Z below #[Value.ref b] s) (F0 m 606 ls []) := by
  obtain ⟨⟨hx, hb, hr, hml, hown, hts0, hX, hbl, hlocks, hgv⟩, hK, hE, ⟨e39, e40, e41⟩, hq, hqm, hAc, hAm, hne⟩ := X
  have hts : ∀ w ∈ wsL_law, w.before #[Value.ref b] s = true := fun w h => hts0 w (wsL_law_in w h)
  have hown : s.vm.findClass RL = some m.cls := hown
  have hbA : ¬ (fun x : Nat => s.heap.size ≤ x) b := Nat.not_le.mpr hbl
  have hKm : va_K D vwCl (mTys cI) s := hK.sub [0] rfl
  have hsC := lw_subC hAc
  have hsM := lw_subM hAm
  have v0 : vp_in (nI i) L := vp_in_nI (by omega) (by omega)
  have v1 : vp_in (nI i + (1 : Int32)) L := by rw [nI_1]; exact vp_in_nI (by omega) (by omega)
  have v2 : vp_in (nI i + (2 : Int32)) L := by rw [show (2 : Int32) = nI 2 by decide, nI_add]; exact vp_in_nI (by omega) (by omega)
  have v3 : vp_in (nI i + (3 : Int32)) L := by rw [show (3 : Int32) = nI 3 by decide, nI_add]; exact vp_in_nI (by omega) (by omega)
  refine lv_aload_n hx hb dL_law_606 rfl (lv_at hl 1 rfl) ?_
  refine lwCallI (D := D) (A1 := cA q) (wo := mW qm cI cI Im Fm hm) (va_runV (As := []) (rest := []) ⟨hx, hb, hml, hown, hts⟩ (c_X8_free l D q cI cO hq  Ic Fc _ (j_free (hm := hm) hR)) (cwV 0 hts gL_law_X8_free rfl rfl rfl (by decide +kernel) ⟨Nat.le_of_ble_eq_true rfl, Nat.le_of_ble_eq_true rfl⟩) (lwPreV hE hsC e39 e40 e41 hK hPc hS) rfl rfl hl.1 rfl (lv_room (Nat.le_of_ble_eq_true rfl)) dL_law_607 ⟨Nat.le_of_ble_eq_true rfl, Nat.le_of_ble_eq_true rfl⟩) hS hsC hPm (lw_disC hne) (fun r u H locs hPc hPm hS h => ?_)
  obtain ⟨Ic2, Fc2⟩ := u
  have hPc : va_P D vwCl (cW q cI cO Ic2 Fc2) H := hPc
  refine lv_aload_n hx hb dL_law_610 rfl (lv_at hl 2 rfl) ?_
  refine lwCallI (D := D) (A1 := mA qm) (wo := cW q cI cO Ic2 Fc2) (va_runV (As := []) (rest := [.int r]) ⟨hx, hb, hml, hown, hts⟩ (c_X9_free l D qm cI cI hqm  Im Fm hm _ h) (cwV 0 hts gL_law_X9_free rfl rfl rfl (by decide +kernel) ⟨Nat.le_of_ble_eq_true rfl, Nat.le_of_ble_eq_true rfl⟩) (gPreV (ci := 9) (q0 := 0) (mEokA (A := fun x : Nat => s.heap.size ≤ x)) trivial hKm hPm hS rfl mAt0) rfl rfl hl.1 rfl (lv_room (Nat.le_of_ble_eq_true rfl)) dL_law_611 ⟨Nat.le_of_ble_eq_true rfl, Nat.le_of_ble_eq_true rfl⟩) hS hsM hPc (lw_disM hne) (fun r2 u H locs hPm hPc hS h => ?_)
  obtain ⟨Im2, Fm2, hm2⟩ := u
  have hPm : va_P D vwCl (mW qm cI cI Im2 Fm2 hm2) H := hPm
  exact lv_icmp_eq (tgt := 797) hx hb dL_law_614 (by decide) (fun _ => K Ic2 Fc2 Im2 Fm2 hm2 _ _ hPc hPm hS (RR_up h.2.2)) (fun z => absurd h.1 z)
set_option maxHeartbeats 4000000 in
set_option maxRecDepth 100000 in
theorem lw_c_see {p : Program} {l : Launch} {e : Env} {s : State} {m : MethodId} {below : List Frame} {meth : Method} {c : Code} {b L : Nat} {xs : Nat → Int32} {D : va_G} {q qm tq : Nat → Nat} {cI cO : ClassId} (X : lwX p s m meth c b L xs D q qm tq cI cO) {k i : Nat} (hi : i + 4 ≤ L) (hL : L ≤ 2048) (hk : k < 100000) {Ic Im : Nat → Int32} {Fc Fm : Nat → Nat → Int32} {hm : Int64} (hR : RR k Ic Fc Im Fm) {H : Heap} {locs : List Loc} {ls : Array Slot} (hPc : va_P D vwCl (cW q cI cO Ic Fc) H) (hPm : va_P D vwCl (mW qm cI cI Im Fm hm) H) (hS : va_S (fun x : Nat => s.heap.size ≤ x) s.heap H locs) (hl : lv_has ls 4 [(0, .ref b), (1, .ref (q 0)), (2, .ref (qm 0)), (3, .int (nI i))]) (K : ∀ (Ic : Nat → Int32) (Fc : Nat → Nat → Int32) (Im : Nat → Int32) (Fm : Nat → Nat → Int32) (hm : Int64) (H : Heap) (locs : List Loc), va_P D vwCl (cW q cI cO Ic Fc) H → va_P D vwCl (mW qm cI cI Im Fm hm) H → va_S (fun x : Nat => s.heap.size ≤ x) s.heap H locs → RR (k + 1) Ic Fc Im Fm → W p l e room_1 s m #[Value.ref b] below meth c H locs 65 250119 (lw_Z below #[Value.ref b] s) (F0 m 797 ls [])) : W p l e room_1 s m #[Value.ref b] below meth c H locs 65 250119 (lw_Z below #[Value.ref b] s) (F0 m 619 ls []) := by
  obtain ⟨⟨hx, hb, hr, hml, hown, hts0, hX, hbl, hlocks, hgv⟩, hK, hE, ⟨e39, e40, e41⟩, hq, hqm, hAc, hAm, hne⟩ := X
  have hts : ∀ w ∈ wsL_law, w.before #[Value.ref b] s = true := fun w h => hts0 w (wsL_law_in w h)
  have hown : s.vm.findClass RL = some m.cls := hown
  have hbA : ¬ (fun x : Nat => s.heap.size ≤ x) b := Nat.not_le.mpr hbl
  have hKm : va_K D vwCl (mTys cI) s := hK.sub [0] rfl
  have hsC := lw_subC hAc
  have hsM := lw_subM hAm
  have v0 : vp_in (nI i) L := vp_in_nI (by omega) (by omega)
  have v1 : vp_in (nI i + (1 : Int32)) L := by rw [nI_1]; exact vp_in_nI (by omega) (by omega)
  have v2 : vp_in (nI i + (2 : Int32)) L := by rw [show (2 : Int32) = nI 2 by decide, nI_add]; exact vp_in_nI (by omega) (by omega)
  have v3 : vp_in (nI i + (3 : Int32)) L := by rw [show (3 : Int32) = nI 3 by decide, nI_add]; exact vp_in_nI (by omega) (by omega)
  by_cases hz : (xs (nI i + (3 : Int32)).toNatClampNeg) = 0
  · refine lv_aload_n hx hb dL_law_619 rfl (lv_at hl 1 rfl) ?_
    refine lv_aload_n hx hb dL_law_620 rfl (lv_at hl 0 rfl) ?_
    refine lv_iload_n hx hb dL_law_621 rfl (lv_at hl 3 rfl) ?_
    refine lv_iconst (v := (1 : Int32)) hx hb dL_law_622 (by decide) ?_
    refine lv_iadd hx hb dL_law_623 ?_
    refine va_sld hx hb hX hbl hbA hS v1 dL_law_624 ?_
    refine lv_aload_n hx hb dL_law_625 rfl (lv_at hl 0 rfl) ?_
    refine lv_iload_n hx hb dL_law_626 rfl (lv_at hl 3 rfl) ?_
    refine lv_iconst (v := (2 : Int32)) hx hb dL_law_627 (by decide) ?_
    refine lv_iadd hx hb dL_law_628 ?_
    refine va_sld hx hb hX hbl hbA hS v2 dL_law_629 ?_
    refine lv_aload_n hx hb dL_law_630 rfl (lv_at hl 0 rfl) ?_
    refine lv_iload_n hx hb dL_law_631 rfl (lv_at hl 3 rfl) ?_
    refine lv_iconst (v := (3 : Int32)) hx hb dL_law_632 (by decide) ?_
    refine lv_iadd hx hb dL_law_633 ?_
    refine va_sld hx hb hX hbl hbA hS v3 dL_law_634 ?_
    refine lv_if_eq (tgt := 642) hx hb dL_law_635 (by decide) (fun _ => ?_) (fun z => absurd hz z)
    refine lv_iconst (v := (0 : Int32)) hx hb dL_law_642 (by decide) ?_
    refine lwCallI (D := D) (A1 := cA q) (wo := mW qm cI cI Im Fm hm) (va_runV (As := [.int (xs (nI i + (1 : Int32)).toNatClampNeg), .int (xs (nI i + (2 : Int32)).toNatClampNeg), .int (0 : Int32)]) (rest := []) ⟨hx, hb, hml, hown, hts⟩ (c_X8_see l D q cI cO hq (xs (nI i + (1 : Int32)).toNatClampNeg) (xs (nI i + (2 : Int32)).toNatClampNeg) (0 : Int32) Ic Fc _ (j_see (hm := hm) hR)) (cwV 3 hts gL_law_X8_see rfl rfl rfl (by decide +kernel) ⟨Nat.le_of_ble_eq_true rfl, Nat.le_of_ble_eq_true rfl⟩) (lwPreV hE hsC e39 e40 e41 hK hPc hS) rfl rfl hl.1 rfl (lv_room (Nat.le_of_ble_eq_true rfl)) dL_law_643 ⟨Nat.le_of_ble_eq_true rfl, Nat.le_of_ble_eq_true rfl⟩) hS hsC hPm (lw_disC hne) (fun r u H locs hPc hPm hS h => ?_)
    obtain ⟨Ic2, Fc2⟩ := u
    have hPc : va_P D vwCl (cW q cI cO Ic2 Fc2) H := hPc
    refine lv_aload_n hx hb dL_law_646 rfl (lv_at hl 2 rfl) ?_
    refine lv_aload_n hx hb dL_law_647 rfl (lv_at hl 0 rfl) ?_
    refine lv_iload_n hx hb dL_law_648 rfl (lv_at hl 3 rfl) ?_
    refine lv_iconst (v := (1 : Int32)) hx hb dL_law_649 (by decide) ?_
    refine lv_iadd hx hb dL_law_650 ?_
    refine va_sld hx hb hX hbl hbA hS v1 dL_law_651 ?_
    refine lv_aload_n hx hb dL_law_652 rfl (lv_at hl 0 rfl) ?_
    refine lv_iload_n hx hb dL_law_653 rfl (lv_at hl 3 rfl) ?_
    refine lv_iconst (v := (2 : Int32)) hx hb dL_law_654 (by decide) ?_
    refine lv_iadd hx hb dL_law_655 ?_
    refine va_sld hx hb hX hbl hbA hS v2 dL_law_656 ?_
    refine lv_aload_n hx hb dL_law_657 rfl (lv_at hl 0 rfl) ?_
    refine lv_iload_n hx hb dL_law_658 rfl (lv_at hl 3 rfl) ?_
    refine lv_iconst (v := (3 : Int32)) hx hb dL_law_659 (by decide) ?_
    refine lv_iadd hx hb dL_law_660 ?_
    refine va_sld hx hb hX hbl hbA hS v3 dL_law_661 ?_
    refine lv_if_eq (tgt := 669) hx hb dL_law_662 (by decide) (fun _ => ?_) (fun z => absurd hz z)
    refine lv_iconst (v := (0 : Int32)) hx hb dL_law_669 (by decide) ?_
    refine lwCallI (D := D) (A1 := mA qm) (wo := cW q cI cO Ic2 Fc2) (va_runV (As := [.int (xs (nI i + (1 : Int32)).toNatClampNeg), .int (xs (nI i + (2 : Int32)).toNatClampNeg), .int (0 : Int32)]) (rest := [.int r]) ⟨hx, hb, hml, hown, hts⟩ (c_X9_see l D qm cI cI hqm (xs (nI i + (1 : Int32)).toNatClampNeg) (xs (nI i + (2 : Int32)).toNatClampNeg) (0 : Int32) Im Fm hm _ h) (cwV 3 hts gL_law_X9_see rfl rfl rfl (by decide +kernel) ⟨Nat.le_of_ble_eq_true rfl, Nat.le_of_ble_eq_true rfl⟩) (gPreV (ci := 9) (q0 := 0) (mEokA (A := fun x : Nat => s.heap.size ≤ x)) trivial hKm hPm hS rfl mAt0) rfl rfl hl.1 rfl (lv_room (Nat.le_of_ble_eq_true rfl)) dL_law_670 ⟨Nat.le_of_ble_eq_true rfl, Nat.le_of_ble_eq_true rfl⟩) hS hsM hPc (lw_disM hne) (fun r2 u H locs hPm hPc hS h => ?_)
    obtain ⟨Im2, Fm2, hm2⟩ := u
    have hPm : va_P D vwCl (mW qm cI cI Im2 Fm2 hm2) H := hPm
    exact lv_icmp_eq (tgt := 797) hx hb dL_law_673 (by decide) (fun _ => K Ic2 Fc2 Im2 Fm2 hm2 _ _ hPc hPm hS (RR_up h.2.2)) (fun z => absurd h.1 z)
  · refine lv_aload_n hx hb dL_law_619 rfl (lv_at hl 1 rfl) ?_
    refine lv_aload_n hx hb dL_law_620 rfl (lv_at hl 0 rfl) ?_
    refine lv_iload_n hx hb dL_law_621 rfl (lv_at hl 3 rfl) ?_
    refine lv_iconst (v := (1 : Int32)) hx hb dL_law_622 (by decide) ?_
    refine lv_iadd hx hb dL_law_623 ?_
    refine va_sld hx hb hX hbl hbA hS v1 dL_law_624 ?_
    refine lv_aload_n hx hb dL_law_625 rfl (lv_at hl 0 rfl) ?_
    refine lv_iload_n hx hb dL_law_626 rfl (lv_at hl 3 rfl) ?_
    refine lv_iconst (v := (2 : Int32)) hx hb dL_law_627 (by decide) ?_
    refine lv_iadd hx hb dL_law_628 ?_
    refine va_sld hx hb hX hbl hbA hS v2 dL_law_629 ?_
    refine lv_aload_n hx hb dL_law_630 rfl (lv_at hl 0 rfl) ?_
    refine lv_iload_n hx hb dL_law_631 rfl (lv_at hl 3 rfl) ?_
    refine lv_iconst (v := (3 : Int32)) hx hb dL_law_632 (by decide) ?_
    refine lv_iadd hx hb dL_law_633 ?_
    refine va_sld hx hb hX hbl hbA hS v3 dL_law_634 ?_
    refine lv_if_eq (tgt := 642) hx hb dL_law_635 (by decide) (fun z => absurd z hz) (fun _ => ?_)
    refine lv_iconst (v := (1 : Int32)) hx hb dL_law_638 (by decide) ?_
    refine lv_goto (tgt := 643) hx hb dL_law_639 (by decide) ?_
    refine lwCallI (D := D) (A1 := cA q) (wo := mW qm cI cI Im Fm hm) (va_runV (As := [.int (xs (nI i + (1 : Int32)).toNatClampNeg), .int (xs (nI i + (2 : Int32)).toNatClampNeg), .int (1 : Int32)]) (rest := []) ⟨hx, hb, hml, hown, hts⟩ (c_X8_see l D q cI cO hq (xs (nI i + (1 : Int32)).toNatClampNeg) (xs (nI i + (2 : Int32)).toNatClampNeg) (1 : Int32) Ic Fc _ (j_see (hm := hm) hR)) (cwV 3 hts gL_law_X8_see rfl rfl rfl (by decide +kernel) ⟨Nat.le_of_ble_eq_true rfl, Nat.le_of_ble_eq_true rfl⟩) (lwPreV hE hsC e39 e40 e41 hK hPc hS) rfl rfl hl.1 rfl (lv_room (Nat.le_of_ble_eq_true rfl)) dL_law_643 ⟨Nat.le_of_ble_eq_true rfl, Nat.le_of_ble_eq_true rfl⟩) hS hsC hPm (lw_disC hne) (fun r u H locs hPc hPm hS h => ?_)
    obtain ⟨Ic2, Fc2⟩ := u
    have hPc : va_P D vwCl (cW q cI cO Ic2 Fc2) H := hPc
    refine lv_aload_n hx hb dL_law_646 rfl (lv_at hl 2 rfl) ?_
    refine lv_aload_n hx hb dL_law_647 rfl (lv_at hl 0 rfl) ?_
    refine lv_iload_n hx hb dL_law_648 rfl (lv_at hl 3 rfl) ?_
    refine lv_iconst (v := (1 : Int32)) hx hb dL_law_649 (by decide) ?_
    refine lv_iadd hx hb dL_law_650 ?_
    refine va_sld hx hb hX hbl hbA hS v1 dL_law_651 ?_
    refine lv_aload_n hx hb dL_law_652 rfl (lv_at hl 0 rfl) ?_
    refine lv_iload_n hx hb dL_law_653 rfl (lv_at hl 3 rfl) ?_
    refine lv_iconst (v := (2 : Int32)) hx hb dL_law_654 (by decide) ?_
    refine lv_iadd hx hb dL_law_655 ?_
    refine va_sld hx hb hX hbl hbA hS v2 dL_law_656 ?_
    refine lv_aload_n hx hb dL_law_657 rfl (lv_at hl 0 rfl) ?_
    refine lv_iload_n hx hb dL_law_658 rfl (lv_at hl 3 rfl) ?_
    refine lv_iconst (v := (3 : Int32)) hx hb dL_law_659 (by decide) ?_
    refine lv_iadd hx hb dL_law_660 ?_
    refine va_sld hx hb hX hbl hbA hS v3 dL_law_661 ?_
    refine lv_if_eq (tgt := 669) hx hb dL_law_662 (by decide) (fun z => absurd z hz) (fun _ => ?_)
    refine lv_iconst (v := (1 : Int32)) hx hb dL_law_665 (by decide) ?_
    refine lv_goto (tgt := 670) hx hb dL_law_666 (by decide) ?_
    refine lwCallI (D := D) (A1 := mA qm) (wo := cW q cI cO Ic2 Fc2) (va_runV (As := [.int (xs (nI i + (1 : Int32)).toNatClampNeg), .int (xs (nI i + (2 : Int32)).toNatClampNeg), .int (1 : Int32)]) (rest := [.int r]) ⟨hx, hb, hml, hown, hts⟩ (c_X9_see l D qm cI cI hqm (xs (nI i + (1 : Int32)).toNatClampNeg) (xs (nI i + (2 : Int32)).toNatClampNeg) (1 : Int32) Im Fm hm _ h) (cwV 3 hts gL_law_X9_see rfl rfl rfl (by decide +kernel) ⟨Nat.le_of_ble_eq_true rfl, Nat.le_of_ble_eq_true rfl⟩) (gPreV (ci := 9) (q0 := 0) (mEokA (A := fun x : Nat => s.heap.size ≤ x)) trivial hKm hPm hS rfl mAt0) rfl rfl hl.1 rfl (lv_room (Nat.le_of_ble_eq_true rfl)) dL_law_670 ⟨Nat.le_of_ble_eq_true rfl, Nat.le_of_ble_eq_true rfl⟩) hS hsM hPc (lw_disM hne) (fun r2 u H locs hPm hPc hS h => ?_)
    obtain ⟨Im2, Fm2, hm2⟩ := u
    have hPm : va_P D vwCl (mW qm cI cI Im2 Fm2 hm2) H := hPm
    exact lv_icmp_eq (tgt := 797) hx hb dL_law_673 (by decide) (fun _ => K Ic2 Fc2 Im2 Fm2 hm2 _ _ hPc hPm hS (RR_up h.2.2)) (fun z => absurd h.1 z)
set_option maxHeartbeats 4000000 in
set_option maxRecDepth 100000 in
theorem lw_c_forget {p : Program} {l : Launch} {e : Env} {s : State} {m : MethodId} {below : List Frame} {meth : Method} {c : Code} {b L : Nat} {xs : Nat → Int32} {D : va_G} {q qm tq : Nat → Nat} {cI cO : ClassId} (X : lwX p s m meth c b L xs D q qm tq cI cO) {k i : Nat} (hi : i + 4 ≤ L) (hL : L ≤ 2048) (hk : k < 100000) {Ic Im : Nat → Int32} {Fc Fm : Nat → Nat → Int32} {hm : Int64} (hR : RR k Ic Fc Im Fm) {H : Heap} {locs : List Loc} {ls : Array Slot} (hPc : va_P D vwCl (cW q cI cO Ic Fc) H) (hPm : va_P D vwCl (mW qm cI cI Im Fm hm) H) (hS : va_S (fun x : Nat => s.heap.size ≤ x) s.heap H locs) (hl : lv_has ls 4 [(0, .ref b), (1, .ref (q 0)), (2, .ref (qm 0)), (3, .int (nI i))]) (K : ∀ (Ic : Nat → Int32) (Fc : Nat → Nat → Int32) (Im : Nat → Int32) (Fm : Nat → Nat → Int32) (hm : Int64) (H : Heap) (locs : List Loc), va_P D vwCl (cW q cI cO Ic Fc) H → va_P D vwCl (mW qm cI cI Im Fm hm) H → va_S (fun x : Nat => s.heap.size ≤ x) s.heap H locs → RR (k + 1) Ic Fc Im Fm → W p l e room_1 s m #[Value.ref b] below meth c H locs 65 250119 (lw_Z below #[Value.ref b] s) (F0 m 797 ls [])) : W p l e room_1 s m #[Value.ref b] below meth c H locs 65 250119 (lw_Z below #[Value.ref b] s) (F0 m 678 ls []) := by
  obtain ⟨⟨hx, hb, hr, hml, hown, hts0, hX, hbl, hlocks, hgv⟩, hK, hE, ⟨e39, e40, e41⟩, hq, hqm, hAc, hAm, hne⟩ := X
  have hts : ∀ w ∈ wsL_law, w.before #[Value.ref b] s = true := fun w h => hts0 w (wsL_law_in w h)
  have hown : s.vm.findClass RL = some m.cls := hown
  have hbA : ¬ (fun x : Nat => s.heap.size ≤ x) b := Nat.not_le.mpr hbl
  have hKm : va_K D vwCl (mTys cI) s := hK.sub [0] rfl
  have hsC := lw_subC hAc
  have hsM := lw_subM hAm
  have v0 : vp_in (nI i) L := vp_in_nI (by omega) (by omega)
  have v1 : vp_in (nI i + (1 : Int32)) L := by rw [nI_1]; exact vp_in_nI (by omega) (by omega)
  have v2 : vp_in (nI i + (2 : Int32)) L := by rw [show (2 : Int32) = nI 2 by decide, nI_add]; exact vp_in_nI (by omega) (by omega)
  have v3 : vp_in (nI i + (3 : Int32)) L := by rw [show (3 : Int32) = nI 3 by decide, nI_add]; exact vp_in_nI (by omega) (by omega)
  refine lv_aload_n hx hb dL_law_678 rfl (lv_at hl 1 rfl) ?_
  refine lwCallI (D := D) (A1 := cA q) (wo := mW qm cI cI Im Fm hm) (va_runV (As := []) (rest := []) ⟨hx, hb, hml, hown, hts⟩ (c_X8_forget l D q cI cO hq  Ic Fc _ (j_forget (hm := hm) hR)) (cwV 0 hts gL_law_X8_forget rfl rfl rfl (by decide +kernel) ⟨Nat.le_of_ble_eq_true rfl, Nat.le_of_ble_eq_true rfl⟩) (lwPreV hE hsC e39 e40 e41 hK hPc hS) rfl rfl hl.1 rfl (lv_room (Nat.le_of_ble_eq_true rfl)) dL_law_679 ⟨Nat.le_of_ble_eq_true rfl, Nat.le_of_ble_eq_true rfl⟩) hS hsC hPm (lw_disC hne) (fun r u H locs hPc hPm hS h => ?_)
  obtain ⟨Ic2, Fc2⟩ := u
  have hPc : va_P D vwCl (cW q cI cO Ic2 Fc2) H := hPc
  refine lv_aload_n hx hb dL_law_682 rfl (lv_at hl 2 rfl) ?_
  refine lwCallI (D := D) (A1 := mA qm) (wo := cW q cI cO Ic2 Fc2) (va_runV (As := []) (rest := [.int r]) ⟨hx, hb, hml, hown, hts⟩ (c_X9_forget l D qm cI cI hqm  Im Fm hm _ h) (cwV 0 hts gL_law_X9_forget rfl rfl rfl (by decide +kernel) ⟨Nat.le_of_ble_eq_true rfl, Nat.le_of_ble_eq_true rfl⟩) (gPreV (ci := 9) (q0 := 0) (mEokA (A := fun x : Nat => s.heap.size ≤ x)) trivial hKm hPm hS rfl mAt0) rfl rfl hl.1 rfl (lv_room (Nat.le_of_ble_eq_true rfl)) dL_law_683 ⟨Nat.le_of_ble_eq_true rfl, Nat.le_of_ble_eq_true rfl⟩) hS hsM hPc (lw_disM hne) (fun r2 u H locs hPm hPc hS h => ?_)
  obtain ⟨Im2, Fm2, hm2⟩ := u
  have hPm : va_P D vwCl (mW qm cI cI Im2 Fm2 hm2) H := hPm
  exact lv_icmp_eq (tgt := 797) hx hb dL_law_686 (by decide) (fun _ => K Ic2 Fc2 Im2 Fm2 hm2 _ _ hPc hPm hS (RR_up h.2.2)) (fun z => absurd h.1 z)
set_option maxHeartbeats 4000000 in
set_option maxRecDepth 100000 in
theorem lw_c_drawn {p : Program} {l : Launch} {e : Env} {s : State} {m : MethodId} {below : List Frame} {meth : Method} {c : Code} {b L : Nat} {xs : Nat → Int32} {D : va_G} {q qm tq : Nat → Nat} {cI cO : ClassId} (X : lwX p s m meth c b L xs D q qm tq cI cO) {k i : Nat} (hi : i + 4 ≤ L) (hL : L ≤ 2048) (hk : k < 100000) {Ic Im : Nat → Int32} {Fc Fm : Nat → Nat → Int32} {hm : Int64} (hR : RR k Ic Fc Im Fm) {H : Heap} {locs : List Loc} {ls : Array Slot} (hPc : va_P D vwCl (cW q cI cO Ic Fc) H) (hPm : va_P D vwCl (mW qm cI cI Im Fm hm) H) (hS : va_S (fun x : Nat => s.heap.size ≤ x) s.heap H locs) (hl : lv_has ls 4 [(0, .ref b), (1, .ref (q 0)), (2, .ref (qm 0)), (3, .int (nI i))]) (K : ∀ (Ic : Nat → Int32) (Fc : Nat → Nat → Int32) (Im : Nat → Int32) (Fm : Nat → Nat → Int32) (hm : Int64) (H : Heap) (locs : List Loc), va_P D vwCl (cW q cI cO Ic Fc) H → va_P D vwCl (mW qm cI cI Im Fm hm) H → va_S (fun x : Nat => s.heap.size ≤ x) s.heap H locs → RR (k + 1) Ic Fc Im Fm → W p l e room_1 s m #[Value.ref b] below meth c H locs 65 250119 (lw_Z below #[Value.ref b] s) (F0 m 797 ls [])) : W p l e room_1 s m #[Value.ref b] below meth c H locs 65 250119 (lw_Z below #[Value.ref b] s) (F0 m 691 ls []) := by
  obtain ⟨⟨hx, hb, hr, hml, hown, hts0, hX, hbl, hlocks, hgv⟩, hK, hE, ⟨e39, e40, e41⟩, hq, hqm, hAc, hAm, hne⟩ := X
  have hts : ∀ w ∈ wsL_law, w.before #[Value.ref b] s = true := fun w h => hts0 w (wsL_law_in w h)
  have hown : s.vm.findClass RL = some m.cls := hown
  have hbA : ¬ (fun x : Nat => s.heap.size ≤ x) b := Nat.not_le.mpr hbl
  have hKm : va_K D vwCl (mTys cI) s := hK.sub [0] rfl
  have hsC := lw_subC hAc
  have hsM := lw_subM hAm
  have v0 : vp_in (nI i) L := vp_in_nI (by omega) (by omega)
  have v1 : vp_in (nI i + (1 : Int32)) L := by rw [nI_1]; exact vp_in_nI (by omega) (by omega)
  have v2 : vp_in (nI i + (2 : Int32)) L := by rw [show (2 : Int32) = nI 2 by decide, nI_add]; exact vp_in_nI (by omega) (by omega)
  have v3 : vp_in (nI i + (3 : Int32)) L := by rw [show (3 : Int32) = nI 3 by decide, nI_add]; exact vp_in_nI (by omega) (by omega)
  refine lv_aload_n hx hb dL_law_691 rfl (lv_at hl 1 rfl) ?_
  refine lv_aload_n hx hb dL_law_692 rfl (lv_at hl 0 rfl) ?_
  refine lv_iload_n hx hb dL_law_693 rfl (lv_at hl 3 rfl) ?_
  refine lv_iconst (v := (1 : Int32)) hx hb dL_law_694 (by decide) ?_
  refine lv_iadd hx hb dL_law_695 ?_
  refine va_sld hx hb hX hbl hbA hS v1 dL_law_696 ?_
  refine lv_aload_n hx hb dL_law_697 rfl (lv_at hl 0 rfl) ?_
  refine lv_iload_n hx hb dL_law_698 rfl (lv_at hl 3 rfl) ?_
  refine lv_iconst (v := (2 : Int32)) hx hb dL_law_699 (by decide) ?_
  refine lv_iadd hx hb dL_law_700 ?_
  refine va_sld hx hb hX hbl hbA hS v2 dL_law_701 ?_
  refine lv_aload_n hx hb dL_law_702 rfl (lv_at hl 0 rfl) ?_
  refine lv_iload_n hx hb dL_law_703 rfl (lv_at hl 3 rfl) ?_
  refine lv_iconst (v := (3 : Int32)) hx hb dL_law_704 (by decide) ?_
  refine lv_iadd hx hb dL_law_705 ?_
  refine va_sld hx hb hX hbl hbA hS v3 dL_law_706 ?_
  refine lwCallI (D := D) (A1 := cA q) (wo := mW qm cI cI Im Fm hm) (va_runV (As := [.int (xs (nI i + (1 : Int32)).toNatClampNeg), .int (xs (nI i + (2 : Int32)).toNatClampNeg), .int (xs (nI i + (3 : Int32)).toNatClampNeg)]) (rest := []) ⟨hx, hb, hml, hown, hts⟩ (c_X8_drawn l D q cI cO hq (xs (nI i + (1 : Int32)).toNatClampNeg) (xs (nI i + (2 : Int32)).toNatClampNeg) (xs (nI i + (3 : Int32)).toNatClampNeg) Ic Fc _ (j_drawn (hm := hm) hR)) (cwV 3 hts gL_law_X8_drawn rfl rfl rfl (by decide +kernel) ⟨Nat.le_of_ble_eq_true rfl, Nat.le_of_ble_eq_true rfl⟩) (lwPreV hE hsC e39 e40 e41 hK hPc hS) rfl rfl hl.1 rfl (lv_room (Nat.le_of_ble_eq_true rfl)) dL_law_707 ⟨Nat.le_of_ble_eq_true rfl, Nat.le_of_ble_eq_true rfl⟩) hS hsC hPm (lw_disC hne) (fun r u H locs hPc hPm hS h => ?_)
  obtain ⟨Ic2, Fc2⟩ := u
  have hPc : va_P D vwCl (cW q cI cO Ic2 Fc2) H := hPc
  refine lv_aload_n hx hb dL_law_710 rfl (lv_at hl 2 rfl) ?_
  refine lv_aload_n hx hb dL_law_711 rfl (lv_at hl 0 rfl) ?_
  refine lv_iload_n hx hb dL_law_712 rfl (lv_at hl 3 rfl) ?_
  refine lv_iconst (v := (1 : Int32)) hx hb dL_law_713 (by decide) ?_
  refine lv_iadd hx hb dL_law_714 ?_
  refine va_sld hx hb hX hbl hbA hS v1 dL_law_715 ?_
  refine lv_aload_n hx hb dL_law_716 rfl (lv_at hl 0 rfl) ?_
  refine lv_iload_n hx hb dL_law_717 rfl (lv_at hl 3 rfl) ?_
  refine lv_iconst (v := (2 : Int32)) hx hb dL_law_718 (by decide) ?_
  refine lv_iadd hx hb dL_law_719 ?_
  refine va_sld hx hb hX hbl hbA hS v2 dL_law_720 ?_
  refine lv_aload_n hx hb dL_law_721 rfl (lv_at hl 0 rfl) ?_
  refine lv_iload_n hx hb dL_law_722 rfl (lv_at hl 3 rfl) ?_
  refine lv_iconst (v := (3 : Int32)) hx hb dL_law_723 (by decide) ?_
  refine lv_iadd hx hb dL_law_724 ?_
  refine va_sld hx hb hX hbl hbA hS v3 dL_law_725 ?_
  refine lwCallI (D := D) (A1 := mA qm) (wo := cW q cI cO Ic2 Fc2) (va_runV (As := [.int (xs (nI i + (1 : Int32)).toNatClampNeg), .int (xs (nI i + (2 : Int32)).toNatClampNeg), .int (xs (nI i + (3 : Int32)).toNatClampNeg)]) (rest := [.int r]) ⟨hx, hb, hml, hown, hts⟩ (c_X9_drawn l D qm cI cI hqm (xs (nI i + (1 : Int32)).toNatClampNeg) (xs (nI i + (2 : Int32)).toNatClampNeg) (xs (nI i + (3 : Int32)).toNatClampNeg) Im Fm hm _ h) (cwV 3 hts gL_law_X9_drawn rfl rfl rfl (by decide +kernel) ⟨Nat.le_of_ble_eq_true rfl, Nat.le_of_ble_eq_true rfl⟩) (gPreV (ci := 9) (q0 := 0) (mEokA (A := fun x : Nat => s.heap.size ≤ x)) trivial hKm hPm hS rfl mAt0) rfl rfl hl.1 rfl (lv_room (Nat.le_of_ble_eq_true rfl)) dL_law_726 ⟨Nat.le_of_ble_eq_true rfl, Nat.le_of_ble_eq_true rfl⟩) hS hsM hPc (lw_disM hne) (fun r2 u H locs hPm hPc hS h => ?_)
  obtain ⟨Im2, Fm2, hm2⟩ := u
  have hPm : va_P D vwCl (mW qm cI cI Im2 Fm2 hm2) H := hPm
  exact lv_icmp_eq (tgt := 797) hx hb dL_law_729 (by decide) (fun _ => K Ic2 Fc2 Im2 Fm2 hm2 _ _ hPc hPm hS (RR_up h.2.2)) (fun z => absurd h.1 z)
set_option maxHeartbeats 4000000 in
set_option maxRecDepth 100000 in
theorem lw_c_image {p : Program} {l : Launch} {e : Env} {s : State} {m : MethodId} {below : List Frame} {meth : Method} {c : Code} {b L : Nat} {xs : Nat → Int32} {D : va_G} {q qm tq : Nat → Nat} {cI cO : ClassId} (X : lwX p s m meth c b L xs D q qm tq cI cO) {k i : Nat} (hi : i + 4 ≤ L) (hL : L ≤ 2048) (hk : k < 100000) {Ic Im : Nat → Int32} {Fc Fm : Nat → Nat → Int32} {hm : Int64} (hR : RR k Ic Fc Im Fm) {H : Heap} {locs : List Loc} {ls : Array Slot} (hPc : va_P D vwCl (cW q cI cO Ic Fc) H) (hPm : va_P D vwCl (mW qm cI cI Im Fm hm) H) (hS : va_S (fun x : Nat => s.heap.size ≤ x) s.heap H locs) (hl : lv_has ls 4 [(0, .ref b), (1, .ref (q 0)), (2, .ref (qm 0)), (3, .int (nI i))]) (K : ∀ (Ic : Nat → Int32) (Fc : Nat → Nat → Int32) (Im : Nat → Int32) (Fm : Nat → Nat → Int32) (hm : Int64) (H : Heap) (locs : List Loc), va_P D vwCl (cW q cI cO Ic Fc) H → va_P D vwCl (mW qm cI cI Im Fm hm) H → va_S (fun x : Nat => s.heap.size ≤ x) s.heap H locs → RR (k + 1) Ic Fc Im Fm → W p l e room_1 s m #[Value.ref b] below meth c H locs 65 250119 (lw_Z below #[Value.ref b] s) (F0 m 797 ls [])) : W p l e room_1 s m #[Value.ref b] below meth c H locs 65 250119 (lw_Z below #[Value.ref b] s) (F0 m 734 ls []) := by
  obtain ⟨⟨hx, hb, hr, hml, hown, hts0, hX, hbl, hlocks, hgv⟩, hK, hE, ⟨e39, e40, e41⟩, hq, hqm, hAc, hAm, hne⟩ := X
  have hts : ∀ w ∈ wsL_law, w.before #[Value.ref b] s = true := fun w h => hts0 w (wsL_law_in w h)
  have hown : s.vm.findClass RL = some m.cls := hown
  have hbA : ¬ (fun x : Nat => s.heap.size ≤ x) b := Nat.not_le.mpr hbl
  have hKm : va_K D vwCl (mTys cI) s := hK.sub [0] rfl
  have hsC := lw_subC hAc
  have hsM := lw_subM hAm
  have v0 : vp_in (nI i) L := vp_in_nI (by omega) (by omega)
  have v1 : vp_in (nI i + (1 : Int32)) L := by rw [nI_1]; exact vp_in_nI (by omega) (by omega)
  have v2 : vp_in (nI i + (2 : Int32)) L := by rw [show (2 : Int32) = nI 2 by decide, nI_add]; exact vp_in_nI (by omega) (by omega)
  have v3 : vp_in (nI i + (3 : Int32)) L := by rw [show (3 : Int32) = nI 3 by decide, nI_add]; exact vp_in_nI (by omega) (by omega)
  refine lv_aload_n hx hb dL_law_734 rfl (lv_at hl 1 rfl) ?_
  refine lwCallI (D := D) (A1 := cA q) (wo := mW qm cI cI Im Fm hm) (va_runV (As := []) (rest := []) ⟨hx, hb, hml, hown, hts⟩ (c_X8_image l D q cI cO hq  Ic Fc _ (j_image (hm := hm) hR)) (cwV 0 hts gL_law_X8_image rfl rfl rfl (by decide +kernel) ⟨Nat.le_of_ble_eq_true rfl, Nat.le_of_ble_eq_true rfl⟩) (lwPreV hE hsC e39 e40 e41 hK hPc hS) rfl rfl hl.1 rfl (lv_room (Nat.le_of_ble_eq_true rfl)) dL_law_735 ⟨Nat.le_of_ble_eq_true rfl, Nat.le_of_ble_eq_true rfl⟩) hS hsC hPm (lw_disC hne) (fun r u H locs hPc hPm hS h => ?_)
  obtain ⟨Ic2, Fc2⟩ := u
  have hPc : va_P D vwCl (cW q cI cO Ic2 Fc2) H := hPc
  refine lv_aload_n hx hb dL_law_738 rfl (lv_at hl 2 rfl) ?_
  refine lwCallI (D := D) (A1 := mA qm) (wo := cW q cI cO Ic2 Fc2) (va_runV (As := []) (rest := [.int r]) ⟨hx, hb, hml, hown, hts⟩ (c_X9_image l D qm cI cI hqm  Im Fm hm _ h) (cwV 0 hts gL_law_X9_image rfl rfl rfl (by decide +kernel) ⟨Nat.le_of_ble_eq_true rfl, Nat.le_of_ble_eq_true rfl⟩) (gPreV (ci := 9) (q0 := 0) (mEokA (A := fun x : Nat => s.heap.size ≤ x)) trivial hKm hPm hS rfl mAt0) rfl rfl hl.1 rfl (lv_room (Nat.le_of_ble_eq_true rfl)) dL_law_739 ⟨Nat.le_of_ble_eq_true rfl, Nat.le_of_ble_eq_true rfl⟩) hS hsM hPc (lw_disM hne) (fun r2 u H locs hPm hPc hS h => ?_)
  obtain ⟨Im2, Fm2, hm2⟩ := u
  have hPm : va_P D vwCl (mW qm cI cI Im2 Fm2 hm2) H := hPm
  exact lv_icmp_eq (tgt := 797) hx hb dL_law_742 (by decide) (fun _ => K Ic2 Fc2 Im2 Fm2 hm2 _ _ hPc hPm hS (RR_up h.2.2)) (fun z => absurd h.1 z)
set_option maxHeartbeats 4000000 in
set_option maxRecDepth 100000 in
theorem lw_c_restore {p : Program} {l : Launch} {e : Env} {s : State} {m : MethodId} {below : List Frame} {meth : Method} {c : Code} {b L : Nat} {xs : Nat → Int32} {D : va_G} {q qm tq : Nat → Nat} {cI cO : ClassId} (X : lwX p s m meth c b L xs D q qm tq cI cO) {k i : Nat} (hi : i + 4 ≤ L) (hL : L ≤ 2048) (hk : k < 100000) {Ic Im : Nat → Int32} {Fc Fm : Nat → Nat → Int32} {hm : Int64} (hR : RR k Ic Fc Im Fm) {H : Heap} {locs : List Loc} {ls : Array Slot} (hPc : va_P D vwCl (cW q cI cO Ic Fc) H) (hPm : va_P D vwCl (mW qm cI cI Im Fm hm) H) (hS : va_S (fun x : Nat => s.heap.size ≤ x) s.heap H locs) (hl : lv_has ls 4 [(0, .ref b), (1, .ref (q 0)), (2, .ref (qm 0)), (3, .int (nI i))]) (K : ∀ (Ic : Nat → Int32) (Fc : Nat → Nat → Int32) (Im : Nat → Int32) (Fm : Nat → Nat → Int32) (hm : Int64) (H : Heap) (locs : List Loc), va_P D vwCl (cW q cI cO Ic Fc) H → va_P D vwCl (mW qm cI cI Im Fm hm) H → va_S (fun x : Nat => s.heap.size ≤ x) s.heap H locs → RR (k + 1) Ic Fc Im Fm → W p l e room_1 s m #[Value.ref b] below meth c H locs 65 250119 (lw_Z below #[Value.ref b] s) (F0 m 797 ls [])) : W p l e room_1 s m #[Value.ref b] below meth c H locs 65 250119 (lw_Z below #[Value.ref b] s) (F0 m 747 ls []) := by
  obtain ⟨⟨hx, hb, hr, hml, hown, hts0, hX, hbl, hlocks, hgv⟩, hK, hE, ⟨e39, e40, e41⟩, hq, hqm, hAc, hAm, hne⟩ := X
  have hts : ∀ w ∈ wsL_law, w.before #[Value.ref b] s = true := fun w h => hts0 w (wsL_law_in w h)
  have hown : s.vm.findClass RL = some m.cls := hown
  have hbA : ¬ (fun x : Nat => s.heap.size ≤ x) b := Nat.not_le.mpr hbl
  have hKm : va_K D vwCl (mTys cI) s := hK.sub [0] rfl
  have hsC := lw_subC hAc
  have hsM := lw_subM hAm
  have v0 : vp_in (nI i) L := vp_in_nI (by omega) (by omega)
  have v1 : vp_in (nI i + (1 : Int32)) L := by rw [nI_1]; exact vp_in_nI (by omega) (by omega)
  have v2 : vp_in (nI i + (2 : Int32)) L := by rw [show (2 : Int32) = nI 2 by decide, nI_add]; exact vp_in_nI (by omega) (by omega)
  have v3 : vp_in (nI i + (3 : Int32)) L := by rw [show (3 : Int32) = nI 3 by decide, nI_add]; exact vp_in_nI (by omega) (by omega)
  refine lv_aload_n hx hb dL_law_747 rfl (lv_at hl 1 rfl) ?_
  refine lwCallI (D := D) (A1 := cA q) (wo := mW qm cI cI Im Fm hm) (va_runV (As := []) (rest := []) ⟨hx, hb, hml, hown, hts⟩ (c_X8_restore l D q cI cO hq  Ic Fc _ (j_restore (hm := hm) hR)) (cwV 0 hts gL_law_X8_restore rfl rfl rfl (by decide +kernel) ⟨Nat.le_of_ble_eq_true rfl, Nat.le_of_ble_eq_true rfl⟩) (lwPreV hE hsC e39 e40 e41 hK hPc hS) rfl rfl hl.1 rfl (lv_room (Nat.le_of_ble_eq_true rfl)) dL_law_748 ⟨Nat.le_of_ble_eq_true rfl, Nat.le_of_ble_eq_true rfl⟩) hS hsC hPm (lw_disC hne) (fun r u H locs hPc hPm hS h => ?_)
  obtain ⟨Ic2, Fc2⟩ := u
  have hPc : va_P D vwCl (cW q cI cO Ic2 Fc2) H := hPc
  refine lv_aload_n hx hb dL_law_751 rfl (lv_at hl 2 rfl) ?_
  refine lwCallI (D := D) (A1 := mA qm) (wo := cW q cI cO Ic2 Fc2) (va_runV (As := []) (rest := [.int r]) ⟨hx, hb, hml, hown, hts⟩ (c_X9_restore l D qm cI cI hqm  Im Fm hm _ h) (cwV 0 hts gL_law_X9_restore rfl rfl rfl (by decide +kernel) ⟨Nat.le_of_ble_eq_true rfl, Nat.le_of_ble_eq_true rfl⟩) (gPreV (ci := 9) (q0 := 0) (mEokA (A := fun x : Nat => s.heap.size ≤ x)) trivial hKm hPm hS rfl mAt0) rfl rfl hl.1 rfl (lv_room (Nat.le_of_ble_eq_true rfl)) dL_law_752 ⟨Nat.le_of_ble_eq_true rfl, Nat.le_of_ble_eq_true rfl⟩) hS hsM hPc (lw_disM hne) (fun r2 u H locs hPm hPc hS h => ?_)
  obtain ⟨Im2, Fm2, hm2⟩ := u
  have hPm : va_P D vwCl (mW qm cI cI Im2 Fm2 hm2) H := hPm
  exact lv_icmp_eq (tgt := 797) hx hb dL_law_755 (by decide) (fun _ => K Ic2 Fc2 Im2 Fm2 hm2 _ _ hPc hPm hS (RR_up h.2.2)) (fun z => absurd h.1 z)
set_option maxHeartbeats 4000000 in
set_option maxRecDepth 100000 in
theorem lw_c_count {p : Program} {l : Launch} {e : Env} {s : State} {m : MethodId} {below : List Frame} {meth : Method} {c : Code} {b L : Nat} {xs : Nat → Int32} {D : va_G} {q qm tq : Nat → Nat} {cI cO : ClassId} (X : lwX p s m meth c b L xs D q qm tq cI cO) {k i : Nat} (hi : i + 4 ≤ L) (hL : L ≤ 2048) (hk : k < 100000) {Ic Im : Nat → Int32} {Fc Fm : Nat → Nat → Int32} {hm : Int64} (hR : RR k Ic Fc Im Fm) {H : Heap} {locs : List Loc} {ls : Array Slot} (hPc : va_P D vwCl (cW q cI cO Ic Fc) H) (hPm : va_P D vwCl (mW qm cI cI Im Fm hm) H) (hS : va_S (fun x : Nat => s.heap.size ≤ x) s.heap H locs) (hl : lv_has ls 4 [(0, .ref b), (1, .ref (q 0)), (2, .ref (qm 0)), (3, .int (nI i))]) (K : ∀ (Ic : Nat → Int32) (Fc : Nat → Nat → Int32) (Im : Nat → Int32) (Fm : Nat → Nat → Int32) (hm : Int64) (H : Heap) (locs : List Loc), va_P D vwCl (cW q cI cO Ic Fc) H → va_P D vwCl (mW qm cI cI Im Fm hm) H → va_S (fun x : Nat => s.heap.size ≤ x) s.heap H locs → RR (k + 1) Ic Fc Im Fm → W p l e room_1 s m #[Value.ref b] below meth c H locs 65 250119 (lw_Z below #[Value.ref b] s) (F0 m 797 ls [])) : W p l e room_1 s m #[Value.ref b] below meth c H locs 65 250119 (lw_Z below #[Value.ref b] s) (F0 m 760 ls []) := by
  obtain ⟨⟨hx, hb, hr, hml, hown, hts0, hX, hbl, hlocks, hgv⟩, hK, hE, ⟨e39, e40, e41⟩, hq, hqm, hAc, hAm, hne⟩ := X
  have hts : ∀ w ∈ wsL_law, w.before #[Value.ref b] s = true := fun w h => hts0 w (wsL_law_in w h)
  have hown : s.vm.findClass RL = some m.cls := hown
  have hbA : ¬ (fun x : Nat => s.heap.size ≤ x) b := Nat.not_le.mpr hbl
  have hKm : va_K D vwCl (mTys cI) s := hK.sub [0] rfl
  have hsC := lw_subC hAc
  have hsM := lw_subM hAm
  have v0 : vp_in (nI i) L := vp_in_nI (by omega) (by omega)
  have v1 : vp_in (nI i + (1 : Int32)) L := by rw [nI_1]; exact vp_in_nI (by omega) (by omega)
  have v2 : vp_in (nI i + (2 : Int32)) L := by rw [show (2 : Int32) = nI 2 by decide, nI_add]; exact vp_in_nI (by omega) (by omega)
  have v3 : vp_in (nI i + (3 : Int32)) L := by rw [show (3 : Int32) = nI 3 by decide, nI_add]; exact vp_in_nI (by omega) (by omega)
  refine lv_aload_n hx hb dL_law_760 rfl (lv_at hl 1 rfl) ?_
  refine lv_aload_n hx hb dL_law_761 rfl (lv_at hl 0 rfl) ?_
  refine lv_iload_n hx hb dL_law_762 rfl (lv_at hl 3 rfl) ?_
  refine lv_iconst (v := (1 : Int32)) hx hb dL_law_763 (by decide) ?_
  refine lv_iadd hx hb dL_law_764 ?_
  refine va_sld hx hb hX hbl hbA hS v1 dL_law_765 ?_
  refine lwCallI (D := D) (A1 := cA q) (wo := mW qm cI cI Im Fm hm) (va_runV (As := [.int (xs (nI i + (1 : Int32)).toNatClampNeg)]) (rest := []) ⟨hx, hb, hml, hown, hts⟩ (c_X8_count l D q cI cO hq (xs (nI i + (1 : Int32)).toNatClampNeg) Ic Fc _ (j_count (hm := hm) hR)) (cwV 1 hts gL_law_X8_count rfl rfl rfl (by decide +kernel) ⟨Nat.le_of_ble_eq_true rfl, Nat.le_of_ble_eq_true rfl⟩) (lwPreV hE hsC e39 e40 e41 hK hPc hS) rfl rfl hl.1 rfl (lv_room (Nat.le_of_ble_eq_true rfl)) dL_law_766 ⟨Nat.le_of_ble_eq_true rfl, Nat.le_of_ble_eq_true rfl⟩) hS hsC hPm (lw_disC hne) (fun r u H locs hPc hPm hS h => ?_)
  have hPc : va_P D vwCl (cW q cI cO Ic Fc) H := hPc
  refine lv_aload_n hx hb dL_law_769 rfl (lv_at hl 2 rfl) ?_
  refine lv_aload_n hx hb dL_law_770 rfl (lv_at hl 0 rfl) ?_
  refine lv_iload_n hx hb dL_law_771 rfl (lv_at hl 3 rfl) ?_
  refine lv_iconst (v := (1 : Int32)) hx hb dL_law_772 (by decide) ?_
  refine lv_iadd hx hb dL_law_773 ?_
  refine va_sld hx hb hX hbl hbA hS v1 dL_law_774 ?_
  refine lwCallI (D := D) (A1 := mA qm) (wo := cW q cI cO Ic Fc) (va_runV (As := [.int (xs (nI i + (1 : Int32)).toNatClampNeg)]) (rest := [.int r]) ⟨hx, hb, hml, hown, hts⟩ (c_X9_count l D qm cI cI hqm (xs (nI i + (1 : Int32)).toNatClampNeg) Im Fm hm _ h) (cwV 1 hts gL_law_X9_count rfl rfl rfl (by decide +kernel) ⟨Nat.le_of_ble_eq_true rfl, Nat.le_of_ble_eq_true rfl⟩) (gPreV (ci := 9) (q0 := 0) (mEokA (A := fun x : Nat => s.heap.size ≤ x)) trivial hKm hPm hS rfl mAt0) rfl rfl hl.1 rfl (lv_room (Nat.le_of_ble_eq_true rfl)) dL_law_775 ⟨Nat.le_of_ble_eq_true rfl, Nat.le_of_ble_eq_true rfl⟩) hS hsM hPc (lw_disM hne) (fun r2 u H locs hPm hPc hS h => ?_)
  have hPm : va_P D vwCl (mW qm cI cI Im Fm hm) H := hPm
  exact lv_icmp_eq (tgt := 797) hx hb dL_law_778 (by decide) (fun _ => K Ic Fc Im Fm hm _ _ hPc hPm hS (RR_up hR)) (fun z => absurd h z)
set_option maxHeartbeats 4000000 in
set_option maxRecDepth 100000 in
theorem lw_c_digest {p : Program} {l : Launch} {e : Env} {s : State} {m : MethodId} {below : List Frame} {meth : Method} {c : Code} {b L : Nat} {xs : Nat → Int32} {D : va_G} {q qm tq : Nat → Nat} {cI cO : ClassId} (X : lwX p s m meth c b L xs D q qm tq cI cO) {k i : Nat} (hi : i + 4 ≤ L) (hL : L ≤ 2048) (hk : k < 100000) {Ic Im : Nat → Int32} {Fc Fm : Nat → Nat → Int32} {hm : Int64} (hR : RR k Ic Fc Im Fm) {H : Heap} {locs : List Loc} {ls : Array Slot} (hPc : va_P D vwCl (cW q cI cO Ic Fc) H) (hPm : va_P D vwCl (mW qm cI cI Im Fm hm) H) (hS : va_S (fun x : Nat => s.heap.size ≤ x) s.heap H locs) (hl : lv_has ls 4 [(0, .ref b), (1, .ref (q 0)), (2, .ref (qm 0)), (3, .int (nI i))]) (K : ∀ (Ic : Nat → Int32) (Fc : Nat → Nat → Int32) (Im : Nat → Int32) (Fm : Nat → Nat → Int32) (hm : Int64) (H : Heap) (locs : List Loc), va_P D vwCl (cW q cI cO Ic Fc) H → va_P D vwCl (mW qm cI cI Im Fm hm) H → va_S (fun x : Nat => s.heap.size ≤ x) s.heap H locs → RR (k + 1) Ic Fc Im Fm → W p l e room_1 s m #[Value.ref b] below meth c H locs 65 250119 (lw_Z below #[Value.ref b] s) (F0 m 797 ls [])) : W p l e room_1 s m #[Value.ref b] below meth c H locs 65 250119 (lw_Z below #[Value.ref b] s) (F0 m 783 ls []) := by
  obtain ⟨⟨hx, hb, hr, hml, hown, hts0, hX, hbl, hlocks, hgv⟩, hK, hE, ⟨e39, e40, e41⟩, hq, hqm, hAc, hAm, hne⟩ := X
  have hts : ∀ w ∈ wsL_law, w.before #[Value.ref b] s = true := fun w h => hts0 w (wsL_law_in w h)
  have hown : s.vm.findClass RL = some m.cls := hown
  have hbA : ¬ (fun x : Nat => s.heap.size ≤ x) b := Nat.not_le.mpr hbl
  have hKm : va_K D vwCl (mTys cI) s := hK.sub [0] rfl
  have hsC := lw_subC hAc
  have hsM := lw_subM hAm
  have v0 : vp_in (nI i) L := vp_in_nI (by omega) (by omega)
  have v1 : vp_in (nI i + (1 : Int32)) L := by rw [nI_1]; exact vp_in_nI (by omega) (by omega)
  have v2 : vp_in (nI i + (2 : Int32)) L := by rw [show (2 : Int32) = nI 2 by decide, nI_add]; exact vp_in_nI (by omega) (by omega)
  have v3 : vp_in (nI i + (3 : Int32)) L := by rw [show (3 : Int32) = nI 3 by decide, nI_add]; exact vp_in_nI (by omega) (by omega)
  refine lv_aload_n hx hb dL_law_783 rfl (lv_at hl 1 rfl) ?_
  refine lwCallL (D := D) (A1 := cA q) (wo := mW qm cI cI Im Fm hm) (va_runV (As := []) (rest := []) ⟨hx, hb, hml, hown, hts⟩ (c_X8_digest l D q cI cO hq  Ic Fc _ (j_digest (hm := hm) hR)) (cwV 0 hts gL_law_X8_digest rfl rfl rfl (by decide +kernel) ⟨Nat.le_of_ble_eq_true rfl, Nat.le_of_ble_eq_true rfl⟩) (lwPreV hE hsC e39 e40 e41 hK hPc hS) rfl rfl hl.1 rfl (lv_room (Nat.le_of_ble_eq_true rfl)) dL_law_784 ⟨Nat.le_of_ble_eq_true rfl, Nat.le_of_ble_eq_true rfl⟩) hS hsC hPm (lw_disC hne) (fun r u H locs hPc hPm hS h => ?_)
  obtain ⟨Ic2, Fc2⟩ := u
  have hPc : va_P D vwCl (cW q cI cO Ic2 Fc2) H := hPc
  refine lv_aload_n hx hb dL_law_787 rfl (lv_at hl 2 rfl) ?_
  refine lwCallL (D := D) (A1 := mA qm) (wo := cW q cI cO Ic2 Fc2) (va_runV (As := []) (rest := [.long r]) ⟨hx, hb, hml, hown, hts⟩ (c_X9_digest l D qm cI cI hqm  Im Fm hm _ h) (cwV 0 hts gL_law_X9_digest rfl rfl rfl (by decide +kernel) ⟨Nat.le_of_ble_eq_true rfl, Nat.le_of_ble_eq_true rfl⟩) (gPreV (ci := 9) (q0 := 0) (mEokA (A := fun x : Nat => s.heap.size ≤ x)) trivial hKm hPm hS rfl mAt0) rfl rfl hl.1 rfl (lv_room (Nat.le_of_ble_eq_true rfl)) dL_law_788 ⟨Nat.le_of_ble_eq_true rfl, Nat.le_of_ble_eq_true rfl⟩) hS hsM hPc (lw_disM hne) (fun r2 u H locs hPm hPc hS h => ?_)
  obtain ⟨Im2, Fm2, hm2⟩ := u
  have hPm : va_P D vwCl (mW qm cI cI Im2 Fm2 hm2) H := hPm
  refine W.lcmp hx hb dL_law_791 ?_
  exact lv_if_eq (tgt := 797) hx hb dL_law_792 (by decide) (fun _ => K Ic2 Fc2 Im2 Fm2 hm2 _ _ hPc hPm hS (RR_up h.2)) (fun z => absurd (lw_cmp h.1) z)
