/-! the law's loop, its start, the claim -/
theorem lw_gt {L i : Nat} (hL : L ≤ 2048) (hi : i < 5000) : (Int32.ofNat L - (4 : Int32)) < nI i ↔ L < i + 4 := by
  have e : (Int32.ofNat L - (4 : Int32)).toInt = (L : Int) - 4 := pk_sub_toInt (a := L) (b := 4) (by omega) (by omega)
  rw [Int32.lt_iff_toInt_lt, e, nI_toInt (by omega)]
  omega
set_option maxHeartbeats 4000000 in
set_option maxRecDepth 100000 in
theorem lw_exit {p : Program} {l : Launch} {e : Env} {s : State} {m : MethodId} {below : List Frame} {meth : Method} {c : Code} {b L : Nat} {xs : Nat → Int32} {D : va_G} {q qm tq : Nat → Nat} {cI cO : ClassId} (hL : L ≤ 2048) (X : lwX p s m meth c b L xs D q qm tq cI cO) {i : Nat} (hi : L < i + 4) (hi2 : i < 5000) {H : Heap} {locs : List Loc} {ls : Array Slot} (hS : va_S (fun x : Nat => s.heap.size ≤ x) s.heap H locs) (hl : lv_has ls 4 [(0, .ref b), (1, .ref (q 0)), (2, .ref (qm 0)), (3, .int (nI i))]) : W p l e room_1 s m #[Value.ref b] below meth c H locs 65 250119 (lw_Z below #[Value.ref b] s) (F0 m 18 ls []) := by
  obtain ⟨⟨hx, hb, hr, hml, hown, hts0, hX, hbl, hlocks, hgv⟩, -⟩ := X
  have hbA : ¬ (fun x : Nat => s.heap.size ≤ x) b := Nat.not_le.mpr hbl
  refine lv_iload_n hx hb dL_law_18 rfl (lv_at hl 3 rfl) ?_
  refine lv_aload_n hx hb dL_law_19 rfl (lv_at hl 0 rfl) ?_
  refine va_slen hx hb hX hbl hbA hS dL_law_20 ?_
  refine lv_iconst (v := (4 : Int32)) hx hb dL_law_21 (by decide) ?_
  refine lv_isub hx hb dL_law_22 ?_
  refine lv_icmp_gt (tgt := 803) hx hb dL_law_23 (by decide) (fun _ => ?_) (fun z => absurd ((lw_gt hL hi2).mpr hi) z)
  refine lv_iconst (v := 1) hx hb dL_law_803 (by decide) ?_
  refine va_forget (fun q hq => hS.2.2 q hq) ?_
  refine W.widen (k := 600000) (n := 7302250) (Nat.le_of_ble_eq_true rfl) (Nat.le_of_ble_eq_true rfl) ?_
  exact lw_ret hx hb hr hlocks dL_law_804
set_option maxHeartbeats 4000000 in
set_option maxRecDepth 100000 in
theorem lw_turn {p : Program} {l : Launch} {e : Env} {s : State} {m : MethodId} {below : List Frame} {meth : Method} {c : Code} {b L : Nat} {xs : Nat → Int32} {D : va_G} {q qm tq : Nat → Nat} {cI cO : ClassId} (hL : L ≤ 2048) (X : lwX p s m meth c b L xs D q qm tq cI cO) {k i : Nat} (hi : i + 4 ≤ L) (hk : k < 100000) {Ic Im : Nat → Int32} {Fc Fm : Nat → Nat → Int32} {hm : Int64} (hR : RR k Ic Fc Im Fm) {H : Heap} {locs : List Loc} {ls : Array Slot} (hPc : va_P D vwCl (cW q cI cO Ic Fc) H) (hPm : va_P D vwCl (mW qm cI cI Im Fm hm) H) (hS : va_S (fun x : Nat => s.heap.size ≤ x) s.heap H locs) (hl : lv_has ls 4 [(0, .ref b), (1, .ref (q 0)), (2, .ref (qm 0)), (3, .int (nI i))]) (K : ∀ (Ic : Nat → Int32) (Fc : Nat → Nat → Int32) (Im : Nat → Int32) (Fm : Nat → Nat → Int32) (hm : Int64) (H : Heap) (locs : List Loc), va_P D vwCl (cW q cI cO Ic Fc) H → va_P D vwCl (mW qm cI cI Im Fm hm) H → va_S (fun x : Nat => s.heap.size ≤ x) s.heap H locs → RR (k + 1) Ic Fc Im Fm → W p l e room_1 s m #[Value.ref b] below meth c H locs 65 250119 (lw_Z below #[Value.ref b] s) (F0 m 797 ls [])) : W p l e room_1 s m #[Value.ref b] below meth c H locs 65 250119 (lw_Z below #[Value.ref b] s) (F0 m 18 ls []) := by
  obtain ⟨⟨hx, hb, hr, hml, hown, hts0, hX, hbl, hlocks, hgv⟩, -⟩ := id X
  have hbA : ¬ (fun x : Nat => s.heap.size ≤ x) b := Nat.not_le.mpr hbl
  refine lv_iload_n hx hb dL_law_18 rfl (lv_at hl 3 rfl) ?_
  refine lv_aload_n hx hb dL_law_19 rfl (lv_at hl 0 rfl) ?_
  refine va_slen hx hb hX hbl hbA hS dL_law_20 ?_
  refine lv_iconst (v := (4 : Int32)) hx hb dL_law_21 (by decide) ?_
  refine lv_isub hx hb dL_law_22 ?_
  refine lv_icmp_gt (tgt := 803) hx hb dL_law_23 (by decide) (fun z => absurd ((lw_gt hL (by omega)).mp z) (by omega)) (fun _ => ?_)
  refine lv_aload_n hx hb dL_law_26 rfl (lv_at hl 0 rfl) ?_
  refine lv_iload_n hx hb dL_law_27 rfl (lv_at hl 3 rfl) ?_
  refine va_sld hx hb hX hbl hbA hS (vp_in_nI (show i < L by omega) (by omega)) dL_law_28 ?_
  refine lv_bipush (v := (31 : Int32)) hx hb dL_law_29 (by decide) ?_
  refine lv_iand hx hb dL_law_31 ?_
  generalize (xs (nI i).toNatClampNeg &&& (31 : Int32)) = x
  by_cases c_0 : x = (0 : Int32)
  · refine lv_tableIn (tgt := 152) (off := 120) hx hb dL_law_32 (by rw [c_0]; decide) (by rw [c_0]; decide) (by rw [c_0]; rfl) (by decide) ?_
    exact lw_c_letter X hi hL hk hR hPc hPm hS hl K
  by_cases c_1 : x = (1 : Int32)
  · refine lv_tableIn (tgt := 175) (off := 143) hx hb dL_law_32 (by rw [c_1]; decide) (by rw [c_1]; decide) (by rw [c_1]; rfl) (by decide) ?_
    exact lw_c_blank X hi hL hk hR hPc hPm hS hl K
  by_cases c_2 : x = (2 : Int32)
  · refine lv_tableIn (tgt := 188) (off := 156) hx hb dL_law_32 (by rw [c_2]; decide) (by rw [c_2]; decide) (by rw [c_2]; rfl) (by decide) ?_
    exact lw_c_fault X hi hL hk hR hPc hPm hS hl K
  by_cases c_3 : x = (3 : Int32)
  · refine lv_tableIn (tgt := 201) (off := 169) hx hb dL_law_32 (by rw [c_3]; decide) (by rw [c_3]; decide) (by rw [c_3]; rfl) (by decide) ?_
    exact lw_c_part X hi hL hk hR hPc hPm hS hl K
  by_cases c_4 : x = (4 : Int32)
  · refine lv_tableIn (tgt := 214) (off := 182) hx hb dL_law_32 (by rw [c_4]; decide) (by rw [c_4]; decide) (by rw [c_4]; rfl) (by decide) ?_
    exact lw_c_chord X hi hL hk hR hPc hPm hS hl K
  by_cases c_5 : x = (5 : Int32)
  · refine lv_tableIn (tgt := 247) (off := 215) hx hb dL_law_32 (by rw [c_5]; decide) (by rw [c_5]; decide) (by rw [c_5]; rfl) (by decide) ?_
    exact lw_c_as X hi hL hk hR hPc hPm hS hl K
  by_cases c_6 : x = (6 : Int32)
  · refine lv_tableIn (tgt := 280) (off := 248) hx hb dL_law_32 (by rw [c_6]; decide) (by rw [c_6]; decide) (by rw [c_6]; rfl) (by decide) ?_
    exact lw_c_tone X hi hL hk hR hPc hPm hS hl K
  by_cases c_7 : x = (7 : Int32)
  · refine lv_tableIn (tgt := 313) (off := 281) hx hb dL_law_32 (by rw [c_7]; decide) (by rw [c_7]; decide) (by rw [c_7]; rfl) (by decide) ?_
    exact lw_c_press X hi hL hk hR hPc hPm hS hl K
  by_cases c_8 : x = (8 : Int32)
  · refine lv_tableIn (tgt := 346) (off := 314) hx hb dL_law_32 (by rw [c_8]; decide) (by rw [c_8]; decide) (by rw [c_8]; rfl) (by decide) ?_
    exact lw_c_put X hi hL hk hR hPc hPm hS hl K
  by_cases c_9 : x = (9 : Int32)
  · refine lv_tableIn (tgt := 389) (off := 357) hx hb dL_law_32 (by rw [c_9]; decide) (by rw [c_9]; decide) (by rw [c_9]; rfl) (by decide) ?_
    exact lw_c_take X hi hL hk hR hPc hPm hS hl K
  by_cases c_10 : x = (10 : Int32)
  · refine lv_tableIn (tgt := 412) (off := 380) hx hb dL_law_32 (by rw [c_10]; decide) (by rw [c_10]; decide) (by rw [c_10]; rfl) (by decide) ?_
    exact lw_c_swap X hi hL hk hR hPc hPm hS hl K
  by_cases c_11 : x = (11 : Int32)
  · refine lv_tableIn (tgt := 445) (off := 413) hx hb dL_law_32 (by rw [c_11]; decide) (by rw [c_11]; decide) (by rw [c_11]; rfl) (by decide) ?_
    exact lw_c_change X hi hL hk hR hPc hPm hS hl K
  by_cases c_12 : x = (12 : Int32)
  · refine lv_tableIn (tgt := 478) (off := 446) hx hb dL_law_32 (by rw [c_12]; decide) (by rw [c_12]; decide) (by rw [c_12]; rfl) (by decide) ?_
    exact lw_c_shift X hi hL hk hR hPc hPm hS hl K
  by_cases c_13 : x = (13 : Int32)
  · refine lv_tableIn (tgt := 501) (off := 469) hx hb dL_law_32 (by rw [c_13]; decide) (by rw [c_13]; decide) (by rw [c_13]; rfl) (by decide) ?_
    exact lw_c_plan X hi hL hk hR hPc hPm hS hl K
  by_cases c_14 : x = (14 : Int32)
  · refine lv_tableIn (tgt := 524) (off := 492) hx hb dL_law_32 (by rw [c_14]; decide) (by rw [c_14]; decide) (by rw [c_14]; rfl) (by decide) ?_
    exact lw_c_setting X hi hL hk hR hPc hPm hS hl K
  by_cases c_15 : x = (15 : Int32)
  · refine lv_tableIn (tgt := 547) (off := 515) hx hb dL_law_32 (by rw [c_15]; decide) (by rw [c_15]; decide) (by rw [c_15]; rfl) (by decide) ?_
    exact lw_c_reach X hi hL hk hR hPc hPm hS hl K
  by_cases c_16 : x = (16 : Int32)
  · refine lv_tableIn (tgt := 570) (off := 538) hx hb dL_law_32 (by rw [c_16]; decide) (by rw [c_16]; decide) (by rw [c_16]; rfl) (by decide) ?_
    exact lw_c_shifted X hi hL hk hR hPc hPm hS hl K
  by_cases c_17 : x = (17 : Int32)
  · refine lv_tableIn (tgt := 593) (off := 561) hx hb dL_law_32 (by rw [c_17]; decide) (by rw [c_17]; decide) (by rw [c_17]; rfl) (by decide) ?_
    exact lw_c_leastShift X hi hL hk hR hPc hPm hS hl K
  by_cases c_18 : x = (18 : Int32)
  · refine lv_tableIn (tgt := 606) (off := 574) hx hb dL_law_32 (by rw [c_18]; decide) (by rw [c_18]; decide) (by rw [c_18]; rfl) (by decide) ?_
    exact lw_c_free X hi hL hk hR hPc hPm hS hl K
  by_cases c_19 : x = (19 : Int32)
  · refine lv_tableIn (tgt := 619) (off := 587) hx hb dL_law_32 (by rw [c_19]; decide) (by rw [c_19]; decide) (by rw [c_19]; rfl) (by decide) ?_
    exact lw_c_see X hi hL hk hR hPc hPm hS hl K
  by_cases c_20 : x = (20 : Int32)
  · refine lv_tableIn (tgt := 678) (off := 646) hx hb dL_law_32 (by rw [c_20]; decide) (by rw [c_20]; decide) (by rw [c_20]; rfl) (by decide) ?_
    exact lw_c_forget X hi hL hk hR hPc hPm hS hl K
  by_cases c_21 : x = (21 : Int32)
  · refine lv_tableIn (tgt := 691) (off := 659) hx hb dL_law_32 (by rw [c_21]; decide) (by rw [c_21]; decide) (by rw [c_21]; rfl) (by decide) ?_
    exact lw_c_drawn X hi hL hk hR hPc hPm hS hl K
  by_cases c_22 : x = (22 : Int32)
  · refine lv_tableIn (tgt := 734) (off := 702) hx hb dL_law_32 (by rw [c_22]; decide) (by rw [c_22]; decide) (by rw [c_22]; rfl) (by decide) ?_
    exact lw_c_image X hi hL hk hR hPc hPm hS hl K
  by_cases c_23 : x = (23 : Int32)
  · refine lv_tableIn (tgt := 747) (off := 715) hx hb dL_law_32 (by rw [c_23]; decide) (by rw [c_23]; decide) (by rw [c_23]; rfl) (by decide) ?_
    exact lw_c_restore X hi hL hk hR hPc hPm hS hl K
  by_cases c_24 : x = (24 : Int32)
  · refine lv_tableIn (tgt := 760) (off := 728) hx hb dL_law_32 (by rw [c_24]; decide) (by rw [c_24]; decide) (by rw [c_24]; rfl) (by decide) ?_
    exact lw_c_count X hi hL hk hR hPc hPm hS hl K
  by_cases c_25 : x = (25 : Int32)
  · refine lv_tableIn (tgt := 783) (off := 751) hx hb dL_law_32 (by rw [c_25]; decide) (by rw [c_25]; decide) (by rw [c_25]; rfl) (by decide) ?_
    exact lw_c_digest X hi hL hk hR hPc hPm hS hl K
  have t_0 := lv_neT (a := 0) c_0 rfl
  have t_1 := lv_neT (a := 1) c_1 rfl
  have t_2 := lv_neT (a := 2) c_2 rfl
  have t_3 := lv_neT (a := 3) c_3 rfl
  have t_4 := lv_neT (a := 4) c_4 rfl
  have t_5 := lv_neT (a := 5) c_5 rfl
  have t_6 := lv_neT (a := 6) c_6 rfl
  have t_7 := lv_neT (a := 7) c_7 rfl
  have t_8 := lv_neT (a := 8) c_8 rfl
  have t_9 := lv_neT (a := 9) c_9 rfl
  have t_10 := lv_neT (a := 10) c_10 rfl
  have t_11 := lv_neT (a := 11) c_11 rfl
  have t_12 := lv_neT (a := 12) c_12 rfl
  have t_13 := lv_neT (a := 13) c_13 rfl
  have t_14 := lv_neT (a := 14) c_14 rfl
  have t_15 := lv_neT (a := 15) c_15 rfl
  have t_16 := lv_neT (a := 16) c_16 rfl
  have t_17 := lv_neT (a := 17) c_17 rfl
  have t_18 := lv_neT (a := 18) c_18 rfl
  have t_19 := lv_neT (a := 19) c_19 rfl
  have t_20 := lv_neT (a := 20) c_20 rfl
  have t_21 := lv_neT (a := 21) c_21 rfl
  have t_22 := lv_neT (a := 22) c_22 rfl
  have t_23 := lv_neT (a := 23) c_23 rfl
  have t_24 := lv_neT (a := 24) c_24 rfl
  have t_25 := lv_neT (a := 25) c_25 rfl
  refine lv_tableOut (tgt := 797) hx hb dL_law_32 (by omega) (by decide) ?_
  exact K Ic Fc Im Fm hm H locs hPc hPm hS (RR_up hR)
set_option maxHeartbeats 4000000 in
set_option maxRecDepth 100000 in
theorem lw_loop {p : Program} {l : Launch} {e : Env} {s : State} {m : MethodId} {below : List Frame} {meth : Method} {c : Code} {b L : Nat} {xs : Nat → Int32} {D : va_G} {q qm tq : Nat → Nat} {cI cO : ClassId} (hL : L ≤ 2048) (X : lwX p s m meth c b L xs D q qm tq cI cO) : ∀ (n k i : Nat) (Ic Im : Nat → Int32) (Fc Fm : Nat → Nat → Int32) (hm : Int64) (H : Heap) (locs : List Loc) (ls : Array Slot), i = 4 * k → i ≤ L + 3 → L < i + 4 + 4 * n → RR k Ic Fc Im Fm → va_P D vwCl (cW q cI cO Ic Fc) H → va_P D vwCl (mW qm cI cI Im Fm hm) H → va_S (fun x : Nat => s.heap.size ≤ x) s.heap H locs → lv_has ls 4 [(0, .ref b), (1, .ref (q 0)), (2, .ref (qm 0)), (3, .int (nI i))] → W p l e room_1 s m #[Value.ref b] below meth c H locs 65 250119 (lw_Z below #[Value.ref b] s) (F0 m 18 ls []) := by
  obtain ⟨⟨hx, hb, hr, hml, hown, hts0, hX, hbl, hlocks, hgv⟩, -⟩ := id X
  intro n
  induction n with
  | zero =>
    intro k i Ic Im Fc Fm hm H locs ls h1 h2 h3 hR hPc hPm hS hl
    exact lw_exit hL X (by omega) (by omega) hS hl
  | succ n ih =>
    intro k i Ic Im Fc Fm hm H locs ls h1 h2 h3 hR hPc hPm hS hl
    by_cases hi : i + 4 ≤ L
    · refine lw_turn hL X hi (by omega) hR hPc hPm hS hl (fun Ic Fc Im Fm hm H locs hPc hPm hS hR => ?_)
      refine lv_iinc (v := nI (i + 4)) (lv' := [(3, .int (nI (i + 4))), (0, .ref b), (1, .ref (q 0)), (2, .ref (qm 0))]) hx hb dL_law_797 hl (k := 3) rfl (by rw [← nI_add]; rfl) (by decide) rfl (fun ls hl => ?_)
      refine lv_goto (tgt := 18) hx hb dL_law_800 (by decide) ?_
      exact ih (k + 1) (i + 4) Ic Im Fc Fm hm H locs ls (by omega) (by omega) (by omega) hR hPc hPm hS (lv_sub hl [1, 2, 3, 0] rfl)
    · exact lw_exit hL X (by omega) (by omega) hS hl
