/-! what holds at the law's entry -/
theorem over_spec {args : Array Value} {s : State} (h : (Cond.arrayOver (.array .int)).before args s = true) : ∃ comp c k, s.vm.findClass "[I" = some comp ∧ s.vm.classes[c]? = some k ∧ k.kind = .array comp (.array .int) ∧ s.vm.findClass "[[I" = some c := by
  simp only [Cond.before, Cond.holds, Cond.value, beq_iff_eq] at h
  rw [show (FieldType.array .int).toString = "[I" from rfl] at h
  cases hc : s.vm.findClass "[I" with
  | none => rw [hc] at h; simp at h
  | some comp =>
    rw [hc] at h
    simp only [Option.bind_some, Option.bind_eq_some_iff, Option.map_eq_some_iff] at h
    obtain ⟨c, hi, k, hk, hb⟩ := h
    obtain ⟨hlt, hp, -⟩ := Array.findIdx?_eq_some_iff_getElem.mp hi
    rw [show s.vm.classes[c] = k from (Array.getElem?_eq_some_iff.mp hk).2] at hp
    refine ⟨comp, c, k, rfl, hk, ?_, ?_⟩
    · cases hkind : k.kind with
      | array x ty =>
        rw [hkind] at hb hp
        simp at hb hp
        rw [hp, hb.1]
      | _ => rw [hkind] at hb; simp at hb
    · cases hkind : k.kind with
      | array x ty =>
        rw [hkind] at hb
        simp at hb
        exact hb.2
      | _ => rw [hkind] at hb; simp at hb
theorem lw_tys {args : Array Value} {s : State} (h1 : (Cond.arrayClass .int).before args s = true) (h2 : (Cond.arrayOver (.array .int)).before args s = true) : ∃ cI cO : ClassId, oaK cI cO s ∧ ∀ (k : Nat) (q : ClassId × FieldType), (cTys cI cO)[k]? = some q → ArrOfT s q.1 q.2 ∧ va_RA s q.1 q.2 := by
  obtain ⟨cI, kI, comp, a1, a2, a3⟩ := Cond.arrayClass_spec h1
  obtain ⟨cI2, cO, kO, b1, b2, b3, b4⟩ := over_spec h2
  have e : cI2 = cI := Option.some.inj (b1.symm.trans a1)
  subst e
  refine ⟨cI2, cO, ⟨kO, b2, b3⟩, fun k q hk => ?_⟩
  match k, hk with
  | 0, hk =>
    cases hk
    exact ⟨fun n z => ⟨fun k h => (by cases h), kI, a2, comp, a3⟩, a1⟩
  | 1, hk =>
    cases hk
    exact ⟨fun n z => ⟨fun k h => (by cases h), kO, b2, cI2, b3⟩, b4⟩
  | k + 2, hk => simp [cTys] at hk
theorem lw_cls {args : Array Value} {s : State} (hts : ∀ w ∈ lw_tbl, w.before args s = true) : ∃ D : va_G, ∀ (k : Nat) (q : vw_C), vwCl[k]? = some q → u_Kn s q.1 q.2.1 q.2.2 (D.1 k) (D.2 k) := by
  obtain ⟨c0, i0, k0⟩ := u_known (C := RX0) (T := TX0) (N := 2) (n := 2) hts wsX00_pl (hts _ pl_inst0)
  obtain ⟨c1, i1, k1⟩ := u_known (C := RX1) (T := TX1) (N := 2) (n := 2) hts wsX10_pl (hts _ pl_inst1)
  obtain ⟨c2, i2, k2⟩ := u_known (C := RX2) (T := TX2) (N := 4) (n := 4) hts wsX20_pl (hts _ pl_inst2)
  obtain ⟨c3, i3, k3⟩ := u_known (C := RX3) (T := TX3) (N := 12) (n := 12) hts wsX30_pl (hts _ pl_inst3)
  obtain ⟨c4, i4, k4⟩ := u_known (C := RX4) (T := TX4) (N := 6) (n := 6) hts wsX40_pl (hts _ pl_inst4)
  obtain ⟨c5, i5, k5⟩ := u_known (C := RX5) (T := TX5) (N := 3) (n := 3) hts wsX50_pl (hts _ pl_inst5)
  obtain ⟨c6, i6, k6⟩ := u_known (C := RX6) (T := TX6) (N := 3) (n := 3) hts wsX60_pl (hts _ pl_inst6)
  obtain ⟨c7, i7, k7⟩ := u_known (C := RX7) (T := TX7) (N := 1) (n := 1) hts wsX70_pl (hts _ pl_inst7)
  obtain ⟨c8, i8, k8⟩ := u_known (C := RX8) (T := TX8) (N := 11) (n := 11) hts wsX80_pl (hts _ pl_inst8)
  obtain ⟨c9, i9, k9⟩ := u_known (C := RX9) (T := TX9) (N := 44) (n := 44) hts wsX90_pl (hts _ pl_inst9)
  refine ⟨(fun k => ([c0, c1, c2, c3, c4, c5, c6, c7, c8, c9] : List ClassId).getD k 0, fun k => ([i0, i1, i2, i3, i4, i5, i6, i7, i8, i9] : List (Nat → Nat)).getD k (fun _ => 0)), fun k q hk => ?_⟩
  match k, hk with
  | 0, hk => cases hk; exact k0
  | 1, hk => cases hk; exact k1
  | 2, hk => cases hk; exact k2
  | 3, hk => cases hk; exact k3
  | 4, hk => cases hk; exact k4
  | 5, hk => cases hk; exact k5
  | 6, hk => cases hk; exact k6
  | 7, hk => cases hk; exact k7
  | 8, hk => cases hk; exact k8
  | 9, hk => cases hk; exact k9
  | k + 10, hk => simp [vwCl] at hk
theorem lw_nest {args : Array Value} {s : State} (hts : ∀ w ∈ lw_tbl, w.before args s = true) : cNest s :=
  ⟨fun x hx => va_Nw.of rfl (hts _ (cNF_pl _ (List.mem_map.mpr ⟨x, hx, rfl⟩))), fun x hx => va_Nw.of rfl (hts _ (cNM_pl _ (List.mem_map.mpr ⟨x, hx, rfl⟩)))⟩
set_option maxRecDepth 20000 in
theorem lw_tabs {args : Array Value} {s : State} (hts : ∀ w ∈ lw_tbl, w.before args s = true) (hgv : (Jvm.Cond.and given_1 narrow_1).before args s = true) : ∃ tq : Nat → Nat, gTab (fun q => s.heap.size ≤ q) "HarpPedals$Settings" "NATURAL_TONES" (tq 39) 7 tabN s ∧ gTab (fun q => s.heap.size ≤ q) "HarpPedals$Settings" "WEIGHTS" (tq 40) 7 tabW s ∧ gTab (fun q => s.heap.size ≤ q) "HarpPedals$Seen" "KINDS_THAT_COULD" (tq 41) 4 tabK s := by
  have hs := flat_of_before _ hgv
  have hA : ∀ a : Nat, a < s.heap.size → ¬ (fun q : Nat => s.heap.size ≤ q) a := fun a h z => absurd h (Nat.not_lt.mpr z)
  obtain ⟨t0, e0, h0⟩ := va_Tof (tm := .static "HarpPedals$Settings" "NATURAL_TONES" "[I") (ty := .int) (N := 7) (f := fun i => .int (tabN i)) (A := fun q : Nat => s.heap.size ≤ q) (by decide) (hs _ (by decide +kernel)) (va_eqt (z := 7) (hs _ (by decide +kernel))) (fun j hj => by
    rcases seven hj with rfl | rfl | rfl | rfl | rfl | rfl | rfl
    · exact va_eqt (z := 2) (hs _ (by decide +kernel))
    · exact va_eqt (z := 0) (hs _ (by decide +kernel))
    · exact va_eqt (z := 11) (hs _ (by decide +kernel))
    · exact va_eqt (z := 4) (hs _ (by decide +kernel))
    · exact va_eqt (z := 5) (hs _ (by decide +kernel))
    · exact va_eqt (z := 7) (hs _ (by decide +kernel))
    · exact va_eqt (z := 9) (hs _ (by decide +kernel))) hA
  obtain ⟨t1, e1, h1⟩ := va_Tof (tm := .static "HarpPedals$Settings" "WEIGHTS" "[I") (ty := .int) (N := 7) (f := fun i => .int (tabW i)) (A := fun q : Nat => s.heap.size ≤ q) (by decide) (hs _ (by decide +kernel)) (va_eqt (z := 7) (hs _ (by decide +kernel))) (fun j hj => by
    rcases seven hj with rfl | rfl | rfl | rfl | rfl | rfl | rfl
    · exact va_eqt (z := 729) (hs _ (by decide +kernel))
    · exact va_eqt (z := 243) (hs _ (by decide +kernel))
    · exact va_eqt (z := 81) (hs _ (by decide +kernel))
    · exact va_eqt (z := 27) (hs _ (by decide +kernel))
    · exact va_eqt (z := 9) (hs _ (by decide +kernel))
    · exact va_eqt (z := 3) (hs _ (by decide +kernel))
    · exact va_eqt (z := 1) (hs _ (by decide +kernel))) hA
  obtain ⟨t2, e2, h2⟩ := va_Tof (tm := .static "HarpPedals$Seen" "KINDS_THAT_COULD" "[I") (ty := .int) (N := 4) (f := fun i => .int (tabK i)) (A := fun q : Nat => s.heap.size ≤ q) (by decide) (hs _ (by decide +kernel)) (va_eqt (z := 4) (hs _ (by decide +kernel))) (fun j hj => by
    rcases (show j = 0 ∨ j = 1 ∨ j = 2 ∨ j = 3 by omega) with rfl | rfl | rfl | rfl
    · exact va_eqt (z := 29) (hs _ (by decide +kernel))
    · exact va_eqt (z := 11) (hs _ (by decide +kernel))
    · exact va_eqt (z := 7) (hs _ (by decide +kernel))
    · exact va_eqt (z := 15) (hs _ (by decide +kernel))) hA
  exact ⟨fun k => if k = 39 then t0 else if k = 40 then t1 else t2, ⟨va_Zref (hts _ pl_st0) (hts _ pl_in0) e0 hA, h0⟩, ⟨va_Zref (hts _ pl_st1) (hts _ pl_in1) e1 hA, h1⟩, ⟨va_Zref (hts _ pl_st2) (hts _ pl_in2) e2 hA, h2⟩⟩
theorem lw_env {args : Array Value} {s : State} (hts : ∀ w ∈ lw_tbl, w.before args s = true) (hgv : (Jvm.Cond.and given_1 narrow_1).before args s = true) : ∃ (D : va_G) (cI cO : ClassId) (tq : Nat → Nat), va_K D vwCl (cTys cI cO) s ∧ pEnv tq cI cO (fun q => s.heap.size ≤ q) s := by
  obtain ⟨D, hD⟩ := lw_cls hts
  obtain ⟨cI, cO, hO, hT⟩ := lw_tys (hts _ pl_arr) (hts _ pl_over)
  obtain ⟨tq, t1, t2, t3⟩ := lw_tabs hts hgv
  exact ⟨D, cI, cO, tq, ⟨hD, hT⟩, lw_nest hts, t1, t2, t3, hO⟩
/-- the class's own environment at any later state -/
theorem cEnv_of {q tq : Nat → Nat} {cI cO : ClassId} {A : Nat → Prop} {U : State} (h : pEnv tq cI cO A U) (hsub : ∀ x, cA q x → A x) (e39 : q 39 = tq 39) (e40 : q 40 = tq 40) (e41 : q 41 = tq 41) : cEnv q U := by
  obtain ⟨h1, h2, h3, h4, h5⟩ := h
  refine ⟨h1, ?_, ?_, ?_⟩
  · unfold cTab
    rw [e39]
    exact ⟨h2.1.narrow hsub, h2.2.narrow hsub⟩
  · unfold cTab
    rw [e40]
    exact ⟨h3.1.narrow hsub, h3.2.narrow hsub⟩
  · unfold cTab
    rw [e41]
    exact ⟨h4.1.narrow hsub, h4.2.narrow hsub⟩
theorem lwPreV {s : State} {H : Heap} {locs : List Loc} {D : va_G} {q tq : Nat → Nat} {cI cO : ClassId} {A : Nat → Prop} {I : Nat → Int32} {F : Nat → Nat → Int32} {As : List Value} (hE : pEnv tq cI cO A s) (hsub : ∀ x, cA q x → A x) (e39 : q 39 = tq 39) (e40 : q 40 = tq 40) (e41 : q 41 = tq 41) (hK : va_K D vwCl (cTys cI cO) s) (hP : va_P D vwCl (cW q cI cO I F) H) (hS : va_S A s.heap H locs) : PreV s H RX8 (q 0) (gPre D (cTys cI cO) (cW q cI cO I F) (cEnv q) (.ref (q 0) :: As)) As :=
  ⟨gBlind cEok, va_recv hK hP (ci := 8) (q0 := 0) rfl cAt0, fun U hU hW => ⟨rfl, by rw [hU]; exact hP, va_K.moved hW.alike hK, cEnv_of (pEok.2 s U hW (by rw [hU]; exact hS.1) (fun x h1 h2 => by rw [hU]; exact hS.2.1 x h1 h2) hE) hsub e39 e40 e41⟩⟩
section LWC
variable {p : Program} {l : Launch} {e : Env} {R : Room} {s : State} {m : MethodId} {args : Array Value} {below : List Frame} {meth : Method} {c : Code} {H : Heap} {locs : List Loc} {cells slots : Nat} {Q : State → Prop} {pc : Nat} {ls : Array Slot} {rest st0 : List Value} {D : va_G} {A1 A : Nat → Prop} {H0 : Heap} {av : Array Value} {S : Type} {Wd : S → va_W} {wo : va_W}
theorem lwCallI {post : Int32 → S → Prop} (hr : va_Run p l e R s m args below meth c H locs cells slots 0 0 (F0 m pc ls st0) rest (va_Qi post (gB D Wd) A1 av) A1) (hS : va_S A H0 H locs) (hsub : ∀ x, A1 x → A x) (hPo : va_P D vwCl wo H) (hdis : ∀ (k : Nat) (x : Nat × va_E), wo[k]? = some x → ¬ A1 x.1)
    (kk : ∀ (r : Int32) (u : S) (H1 : Heap) (locs1 : List Loc), va_P D vwCl (Wd u) H1 → va_P D vwCl wo H1 → va_S A H0 H1 locs1 → post r u → W p l e R s m args below meth c H1 locs1 cells slots Q (F0 m (pc + 3) ls (.int r :: rest))) : W p l e R s m args below meth c H locs cells slots Q (F0 m pc ls st0) :=
  va_calli hr hS (fun q _ h => hsub q h) hsub (fun r u t H1 locs1 ht _ hw hB _ hk1 hS1 => kk r u H1 locs1 (by rw [← ht]; exact hB) (hPo.kept (fun k x hx => hk1 x.1 ((hPo k x hx).lt) (hdis k x hx))) hS1 hw)
theorem lwCallL {post : Int64 → S → Prop} (hr : va_Run p l e R s m args below meth c H locs cells slots 0 0 (F0 m pc ls st0) rest (va_Ql post (gB D Wd) A1 av) A1) (hS : va_S A H0 H locs) (hsub : ∀ x, A1 x → A x) (hPo : va_P D vwCl wo H) (hdis : ∀ (k : Nat) (x : Nat × va_E), wo[k]? = some x → ¬ A1 x.1)
    (kk : ∀ (r : Int64) (u : S) (H1 : Heap) (locs1 : List Loc), va_P D vwCl (Wd u) H1 → va_P D vwCl wo H1 → va_S A H0 H1 locs1 → post r u → W p l e R s m args below meth c H1 locs1 cells slots Q (F0 m (pc + 3) ls (.long r :: rest))) : W p l e R s m args below meth c H locs cells slots Q (F0 m pc ls st0) :=
  va_calll hr hS (fun q _ h => hsub q h) hsub (fun r u t H1 locs1 ht _ hw hB _ hk1 hS1 => kk r u H1 locs1 (by rw [← ht]; exact hB) (hPo.kept (fun k x hx => hk1 x.1 ((hPo k x hx).lt) (hdis k x hx))) hS1 hw)
end LWC
