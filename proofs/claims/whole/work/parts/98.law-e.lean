/-! from the entry -/
theorem RR_init {F : Nat → Nat → Int32} (hM : mTab F) : RR 0 cI0 cF0 mI0 F := by
  refine ⟨0, 0, 0, 0, 0, 0, ⟨by omega, by omega, by omega, by omega, Nat.le_refl 0, by omega, ⟨rfl, rfl, rfl, rfl, fun k hk => absurd hk (by omega)⟩, ⟨rfl, rfl, fun k hk => absurd hk (by omega)⟩, ⟨rfl, rfl, fun k hk => absurd hk (by omega)⟩, ⟨rfl, rfl, rfl, rfl⟩, ⟨Or.inl rfl, Or.inl ⟨rfl, by decide⟩⟩, fun s hs => ?_, hM⟩, Or.inl rfl, Or.inl rfl, fun h => absurd h (by omega)⟩
  show sRow 2187 s = hasR s 7
  exact fa_fill_in hs
set_option maxHeartbeats 8000000 in
set_option maxRecDepth 100000 in
theorem whole_start {p : Program} {e : Env} {s : State} {m : MethodId} {below : List Frame} {meth : Method} {c : Code} (l : Launch) (hflags : l.flags = flags0) {b L : Nat} {xs : Nat → Int32} (hL : L ≤ 2048) (C0 : lw_At p s m meth c b L xs) : W p l e room_1 s m #[Value.ref b] below meth c s.heap [] 0 0 (lw_Z below #[Value.ref b] s) (entryFrame m ([Value.ref b] : List Value).toArray 4) := by
  obtain ⟨hx, hb, hr, hml, hown, hts0, hX, hbl, hlocks, hgv⟩ := id C0
  have hts : ∀ w ∈ wsL_law, w.before #[Value.ref b] s = true := fun w h => hts0 w (wsL_law_in w h)
  have hown : s.vm.findClass RL = some m.cls := hown
  obtain ⟨D, cI, cO, tq, hK, hE⟩ := lw_env hts0 hgv
  have hKm : va_K D vwCl (mTys cI) s := hK.sub [0] rfl
  have hA : ∀ x : Nat, s.heap.size ≤ x → (fun x : Nat => s.heap.size ≤ x) x := fun _ h => h
  have hS : va_S (fun x : Nat => s.heap.size ≤ x) s.heap s.heap [] := va_S.rf
  have hP : va_P D vwCl [] s.heap := fun k x h => by simp at h
  have hD : va_D (fun x : Nat => s.heap.size ≤ x) [] := ⟨fun i j x y h => by simp at h, fun k x h => by simp at h⟩
  have hl := lv_entry ([.ref b]) (n := 4) (Nat.le_of_ble_eq_true rfl)
  rw [lg_entry_eq]
  generalize (lg_sl ([.ref b]) ++ List.replicate (4 - (lg_sl ([.ref b])).length) Slot.unset).toArray = ls at hl ⊢
  have hl : lv_has ls 4 [(0, .ref b)] := hl
  refine va_new (ci := 8) (fs := [.null, .null, .null, .null, .null, .null, .null, .null, .null, .int 0, .int 0]) (C := RX8) (T := TX8) (N := 11) hx hb hts0 wsX80_pl tyX8 tyX8_ok hown (hts _ (List.mem_of_getElem? (l := wsL_law) (i := 0) rfl)) (hts _ (List.mem_of_getElem? (l := wsL_law) (i := 1) rfl)) (hts _ (List.mem_of_getElem? (l := wsL_law) (i := 2) rfl)) hK hP hD hS hA rfl (fun j hj => by rcases (show j = 0 ∨ j = 1 ∨ j = 2 ∨ j = 3 ∨ j = 4 ∨ j = 5 ∨ j = 6 ∨ j = 7 ∨ j = 8 ∨ j = 9 ∨ j = 10 by omega) with rfl | rfl | rfl | rfl | rfl | rfl | rfl | rfl | rfl | rfl | rfl <;> rfl) (Nat.le_of_ble_eq_true rfl) (Nat.le_of_ble_eq_true rfl) dL_law_0 (fun h0 H hP hD hS => ?_)
  have hP : va_P D vwCl [(h0, .inr (8, [.null, .null, .null, .null, .null, .null, .null, .null, .null, .int 0, .int 0]))] H := hP
  have hD : va_D (fun x : Nat => s.heap.size ≤ x) [(h0, .inr (8, [.null, .null, .null, .null, .null, .null, .null, .null, .null, .int 0, .int 0]))] := hD
  refine W.widen (k := 1) (n := 11) (Nat.le_of_ble_eq_true rfl) (Nat.le_of_ble_eq_true rfl) ?_
  refine lv_dup hx hb dL_law_3 rfl ?_
  have hFc := va_free (wc := [(h0, .inr (8, [.null, .null, .null, .null, .null, .null, .null, .null, .null, .int 0, .int 0]))]) hD hS hA [0] rfl
  refine va_callv (va_runI (As := []) (rest := [.ref h0]) ⟨hx, hb, hml, hown, hts⟩ (k_X8_init l D tq cI cO (fun x : Nat => s.heap.size ≤ x) h0 H.size hFc) (cwI 0 hts gL_law_X8_init rfl rfl rfl (hts _ (List.mem_of_getElem? (l := wsL_law) (i := 2) rfl)) (hts _ (List.mem_of_getElem? (l := wsL_law) (i := 6) rfl)) (hts _ (List.mem_of_getElem? (l := wsL_law) (i := 7) rfl)) rfl (by decide +kernel) ⟨Nat.le_of_ble_eq_true rfl, Nat.le_of_ble_eq_true rfl⟩) (iPreS (A := fun x : Nat => s.heap.size ≤ x) pEok hE hK hP hD hS (fun _ h => h)) rfl rfl hl.1 rfl (lv_room (Nat.le_of_ble_eq_true rfl)) dL_law_4 ⟨Nat.le_of_ble_eq_true rfl, Nat.le_of_ble_eq_true rfl⟩) hS (fun q _ h => hFc q h) hFc (fun r t H1 locs ht hvm hw hB hz1 hk1 hS => ?_)
  obtain ⟨hPc, hDc⟩ := hB
  rw [ht] at hPc
  have hPc : va_P D vwCl (cW (cq h0 tq r) cI cO cI0 cF0) H1 := hPc
  have hDc : va_D (fun x : Nat => s.heap.size ≤ x) (cW (cq h0 tq r) cI cO cI0 cF0) := ⟨hDc.1, fun k x hx => hFc _ (hDc.2 k x hx)⟩
  refine W.widen (k := 39) (n := 26453) (Nat.le_of_ble_eq_true rfl) (Nat.le_of_ble_eq_true rfl) ?_
  refine lv_astore_n (lv' := [(1, .ref h0), (0, .ref b)]) hx hb dL_law_7 rfl hl (by decide) rfl (fun ls hl => ?_)
  refine va_new (ci := 9) (fs := [.null, .null, .null, .null, .null, .null, .null, .null, .null, .null, .null, .int 0, .int 0, .int 0, .null, .null, .int 0, .int 0, .int 0, .null, .null, .int 0, .null, .null, .null, .null, .int 0, .int 0, .int 0, .null, .null, .int 0, .int 0, .null, .int 0, .int 0, .int 0, .int 0, .int 0, .int 0, .null, .null, .null, .long 0]) (C := RX9) (T := TX9) (N := 44) hx hb hts0 wsX90_pl tyX9 tyX9_ok hown (hts _ (List.mem_of_getElem? (l := wsL_law) (i := 3) rfl)) (hts _ (List.mem_of_getElem? (l := wsL_law) (i := 4) rfl)) (hts _ (List.mem_of_getElem? (l := wsL_law) (i := 5) rfl)) hK hPc hDc hS hA rfl (fun j hj => by rcases (show j = 0 ∨ j = 1 ∨ j = 2 ∨ j = 3 ∨ j = 4 ∨ j = 5 ∨ j = 6 ∨ j = 7 ∨ j = 8 ∨ j = 9 ∨ j = 10 ∨ j = 11 ∨ j = 12 ∨ j = 13 ∨ j = 14 ∨ j = 15 ∨ j = 16 ∨ j = 17 ∨ j = 18 ∨ j = 19 ∨ j = 20 ∨ j = 21 ∨ j = 22 ∨ j = 23 ∨ j = 24 ∨ j = 25 ∨ j = 26 ∨ j = 27 ∨ j = 28 ∨ j = 29 ∨ j = 30 ∨ j = 31 ∨ j = 32 ∨ j = 33 ∨ j = 34 ∨ j = 35 ∨ j = 36 ∨ j = 37 ∨ j = 38 ∨ j = 39 ∨ j = 40 ∨ j = 41 ∨ j = 42 ∨ j = 43 by omega) with rfl | rfl | rfl | rfl | rfl | rfl | rfl | rfl | rfl | rfl | rfl | rfl | rfl | rfl | rfl | rfl | rfl | rfl | rfl | rfl | rfl | rfl | rfl | rfl | rfl | rfl | rfl | rfl | rfl | rfl | rfl | rfl | rfl | rfl | rfl | rfl | rfl | rfl | rfl | rfl | rfl | rfl | rfl | rfl <;> rfl) (Nat.le_of_ble_eq_true rfl) (Nat.le_of_ble_eq_true rfl) dL_law_8 (fun g0 H hP hD hS => ?_)
  refine W.widen (k := 40) (n := 26497) (Nat.le_of_ble_eq_true rfl) (Nat.le_of_ble_eq_true rfl) ?_
  have hlen : (cW (cq h0 tq r) cI cO cI0 cF0).length = 39 := by unfold cW; rw [List.length_map, List.length_range]
  have hPc : va_P D vwCl (cW (cq h0 tq r) cI cO cI0 cF0) H := fun k x hx => hP k x (by rw [List.getElem?_append_left (List.getElem?_eq_some_iff.mp hx).1]; exact hx)
  have h39 : (cW (cq h0 tq r) cI cO cI0 cF0 ++ [(g0, .inr (9, [.null, .null, .null, .null, .null, .null, .null, .null, .null, .null, .null, .int 0, .int 0, .int 0, .null, .null, .int 0, .int 0, .int 0, .null, .null, .int 0, .null, .null, .null, .null, .int 0, .int 0, .int 0, .null, .null, .int 0, .int 0, .null, .int 0, .int 0, .int 0, .int 0, .int 0, .int 0, .null, .null, .null, .long 0]))])[39]? = some (g0, .inr (9, [.null, .null, .null, .null, .null, .null, .null, .null, .null, .null, .null, .int 0, .int 0, .int 0, .null, .null, .int 0, .int 0, .int 0, .null, .null, .int 0, .null, .null, .null, .null, .int 0, .int 0, .int 0, .null, .null, .int 0, .int 0, .null, .int 0, .int 0, .int 0, .int 0, .int 0, .int 0, .null, .null, .null, .long 0])) := by rw [List.getElem?_append_right (Nat.le_of_eq hlen), hlen]; rfl
  have hPn : va_P D vwCl [(g0, .inr (9, [.null, .null, .null, .null, .null, .null, .null, .null, .null, .null, .null, .int 0, .int 0, .int 0, .null, .null, .int 0, .int 0, .int 0, .null, .null, .int 0, .null, .null, .null, .null, .int 0, .int 0, .int 0, .null, .null, .int 0, .int 0, .null, .int 0, .int 0, .int 0, .int 0, .int 0, .int 0, .null, .null, .null, .long 0]))] H := fun k x hx => by
    have hk : k < 1 := (List.getElem?_eq_some_iff.mp hx).1
    rw [show k = 0 by omega] at hx
    cases hx
    exact hP 39 _ h39
  have hDn : va_D (fun x : Nat => s.heap.size ≤ x) [(g0, .inr (9, [.null, .null, .null, .null, .null, .null, .null, .null, .null, .null, .null, .int 0, .int 0, .int 0, .null, .null, .int 0, .int 0, .int 0, .null, .null, .int 0, .null, .null, .null, .null, .int 0, .int 0, .int 0, .null, .null, .int 0, .int 0, .null, .int 0, .int 0, .int 0, .int 0, .int 0, .int 0, .null, .null, .null, .long 0]))] := ⟨fun i j x y hi hj _ => by
    have h1 : i < 1 := (List.getElem?_eq_some_iff.mp hi).1
    have h2 : j < 1 := (List.getElem?_eq_some_iff.mp hj).1
    omega, fun k x hx => by
    have hk : k < 1 := (List.getElem?_eq_some_iff.mp hx).1
    rw [show k = 0 by omega] at hx
    cases hx
    exact hD.2 39 _ h39⟩
  have hg0 : ∀ k, k < 39 → cq h0 tq r k ≠ g0 := fun k hk h => by
    have := hD.1 k 39 _ _ (by rw [List.getElem?_append_left (by rw [hlen]; exact hk)]; exact cW_at k hk) h39 h
    omega
  have hFm := va_free (wc := [(g0, .inr (9, [.null, .null, .null, .null, .null, .null, .null, .null, .null, .null, .null, .int 0, .int 0, .int 0, .null, .null, .int 0, .int 0, .int 0, .null, .null, .int 0, .null, .null, .null, .null, .int 0, .int 0, .int 0, .null, .null, .int 0, .int 0, .null, .int 0, .int 0, .int 0, .int 0, .int 0, .int 0, .null, .null, .null, .long 0]))]) hDn hS hA [0] rfl
  refine lv_dup hx hb dL_law_11 rfl ?_
  refine va_callv (va_runI (As := []) (rest := [.ref g0]) ⟨hx, hb, hml, hown, hts⟩ (k_X9_init l D cI g0 H.size) (cwI 0 hts gL_law_X9_init rfl rfl rfl (hts _ (List.mem_of_getElem? (l := wsL_law) (i := 5) rfl)) (hts _ (List.mem_of_getElem? (l := wsL_law) (i := 104) rfl)) (hts _ (List.mem_of_getElem? (l := wsL_law) (i := 105) rfl)) rfl (by decide +kernel) ⟨Nat.le_of_ble_eq_true rfl, Nat.le_of_ble_eq_true rfl⟩) (iPreS (A := fun x : Nat => s.heap.size ≤ x) (mEokA (A := fun x : Nat => s.heap.size ≤ x)) trivial hKm hPn hDn hS (fun _ h => h)) rfl rfl hl.1 rfl (lv_room (Nat.le_of_ble_eq_true rfl)) dL_law_12 ⟨Nat.le_of_ble_eq_true rfl, Nat.le_of_ble_eq_true rfl⟩) hS (fun q _ h => hFm q h) hFm (fun u t H2 locs ht hvm hw hB hz1 hk1 hS => ?_)
  obtain ⟨r2, F2⟩ := u
  obtain ⟨hPm, hDm⟩ := hB
  rw [ht] at hPm
  have hPm : va_P D vwCl (mW (mq g0 r2) cI cI mI0 F2 0) H2 := hPm
  have hT : mTab F2 := hw
  have hDm : va_D (va_A [(g0, .inr (9, [.null, .null, .null, .null, .null, .null, .null, .null, .null, .null, .null, .int 0, .int 0, .int 0, .null, .null, .int 0, .int 0, .int 0, .null, .null, .int 0, .null, .null, .null, .null, .int 0, .int 0, .int 0, .null, .null, .int 0, .int 0, .null, .int 0, .int 0, .int 0, .int 0, .int 0, .int 0, .null, .null, .null, .long 0]))] H.size) (mW (mq g0 r2) cI cI mI0 F2 0) := hDm
  have far : ∀ j, j < 26 → mq g0 r2 j = g0 ∨ H.size ≤ mq g0 r2 j := fun j hj => by
    rcases hDm.2 j _ (mW_at j hj) with ⟨k, e9, h⟩ | h
    · have hk : k < 1 := (List.getElem?_eq_some_iff.mp h).1
      rw [show k = 0 by omega] at h
      have := congrArg Prod.fst (Option.some.inj h)
      exact Or.inl this.symm
    · exact Or.inr h
  have near : ∀ i, i < 39 → cq h0 tq r i < H.size := fun i hi => (hPc i _ (cW_at i hi)).lt
  have hPc : va_P D vwCl (cW (cq h0 tq r) cI cO cI0 cF0) H2 := hPc.kept (fun k x hx => by
    have hk : k < 39 := by have := (List.getElem?_eq_some_iff.mp hx).1; rw [hlen] at this; exact this
    refine hk1 x.1 ((hPc k x hx).lt) (fun z => ?_)
    rw [cW_at k hk] at hx
    cases hx
    rcases z with ⟨k2, e9, h⟩ | h
    · have hk2 : k2 < 1 := (List.getElem?_eq_some_iff.mp h).1
      rw [show k2 = 0 by omega] at h
      have := congrArg Prod.fst (Option.some.inj h)
      exact hg0 k hk this.symm
    · have := near k hk
      have h : H.size ≤ cq h0 tq r k := h
      omega)
  refine W.widen (k := 65) (n := 250119) (Nat.le_of_ble_eq_true rfl) (Nat.le_of_ble_eq_true rfl) ?_
  refine lv_astore_n (lv' := [(2, .ref g0), (1, .ref h0), (0, .ref b)]) hx hb dL_law_15 rfl hl (by decide) rfl (fun ls hl => ?_)
  refine lv_iconst (v := (0 : Int32)) hx hb dL_law_16 (by decide) ?_
  refine lv_istore_n (lv' := [(3, .int 0), (2, .ref g0), (1, .ref h0), (0, .ref b)]) hx hb dL_law_17 rfl hl (by decide) rfl (fun ls hl => ?_)
  have X : lwX p s m meth c b L xs D (cq h0 tq r) (mq g0 r2) tq cI cO := ⟨C0, hK, hE, ⟨rfl, rfl, rfl⟩, fun i j hi hj h => hDc.1 i j _ _ (cW_at i hi) (cW_at j hj) h, fun i j hi hj h => hDm.1 i j _ _ (mW_at i hi) (mW_at j hj) h, fun i hi => hDc.2 i _ (cW_at i hi), fun j hj => hFm _ (hDm.2 j _ (mW_at j hj)), fun i j hi hj h => by
    rcases far j hj with z | z
    · exact hg0 i hi (h.trans z)
    · have := near i hi
      omega⟩
  exact lw_loop hL X 512 0 0 cI0 mI0 cF0 F2 0 H2 _ ls rfl (by omega) (by omega) (RR_init hT) hPc hPm hS (lv_sub hl [3, 2, 1, 0] rfl)
