/-! Settings(), HarpPedals() -/
theorem va_P.stay {D : va_G} {w : va_W} {H H1 : Heap} (h : va_P D vwCl w H) (hk : ∀ q : Nat, q < H.size → H1[q]? = H[q]?) : va_P D vwCl w H1 := h.kept (fun k x hx => hk x.1 ((h k x hx).lt))
def sRow (j : Nat) : Nat → Int32 := fa_fill (fun s => hasR s 7) (fun _ => 0) j
set_option maxHeartbeats 4000000 in
set_option maxRecDepth 100000 in
theorem k_X7_init (l : Launch) (D : va_G) (tq : Nat → Nat) (cI cO : ClassId) (A0 : Nat → Prop) (h0 : Nat) (sz : Nat) (hA0 : ∀ q, va_A [(h0, .inr (7, [.null]))] sz q → A0 q) : Met l yX7_init wsX7_init ({ frames := 2, cells := 1, slots := 2187, locals := 43 } : Room) (iPre D (cTys cI cO) [(h0, .inr (7, [.null]))] (pEnv tq cI cO A0) sz [.ref h0]) (va_Qv (fun _ : Nat => True) (fun u t => va_P D vwCl ((fun q1 : Nat => [(h0, .inr (7, [.ref q1])), (q1, .inl (cI, 2187, .inl (sRow 2187)))]) u) t.heap ∧ va_D (va_A [(h0, .inr (7, [.null]))] sz) ((fun q1 : Nat => [(h0, .inr (7, [.ref q1])), (q1, .inl (cI, 2187, .inl (sRow 2187)))]) u)) (va_A [(h0, .inr (7, [.null]))] sz)) 1 2187 (va_A [(h0, .inr (7, [.null]))] sz) := by
  refine gMetC (Wd := fun q1 : Nat => [(h0, .inr (7, [.ref q1])), (q1, .inl (cI, 2187, .inl (sRow 2187)))]) (by decide) rfl rfl (Nat.le_of_ble_eq_true rfl) ?_
  intro p e R s m args below meth c Q ls A hR hAe hx hb hml hin hown hts hK hE hsz hP hD hA hl hret
  have hAA : ∀ q, A q → A0 q := fun q h => hA0 q (by rw [hAe]; exact h)
  have hown : s.vm.findClass RX7 = some m.cls := hown
  have hl : lv_has ls 2 [(0, .ref h0)] := hl
  have hS : va_S A s.heap s.heap [] := va_S.rf
  have L : ∀ (q1 : Nat) (n j : Nat) (H : Heap) (locs : List Loc) (ls : Array Slot), j + n = 2187 → va_P D vwCl [(h0, .inr (7, [.ref q1])), (q1, .inl (cI, 2187, .inl (sRow j)))] H → va_D A [(h0, .inr (7, [.ref q1])), (q1, .inl (cI, 2187, .inl (sRow j)))] → va_S A s.heap H locs → lv_has ls 2 [(1, .int (nI j)), (0, .ref h0)] → W p l e R s m args below meth c H locs 1 2187 Q (F0 m 15 ls []) := by
    intro q1 n
    induction n with
    | zero =>
      intro j H locs ls hj hP hD hS hl
      have ej : j = 2187 := by omega
      subst ej
      refine lv_iload_n hx hb dX7_init_15 rfl (lv_at hl 0 rfl) ?_
      refine lv_sipush (v := (2187 : Int32)) hx hb dX7_init_16 (by decide) ?_
      refine lv_icmp_ge (tgt := 38) hx hb dX7_init_19 (by decide) (fun _ => ?_) (fun z => absurd ((le_lit (c := 2187) (by decide) (by decide) (by decide)).mpr (Nat.le_refl 2187)) z)
      exact hret q1 _ _ _ _ dX7_init_38 hP hD hS
    | succ n ih =>
      intro j H locs ls hj hP hD hS hl
      refine lv_iload_n hx hb dX7_init_15 rfl (lv_at hl 0 rfl) ?_
      refine lv_sipush (v := (2187 : Int32)) hx hb dX7_init_16 (by decide) ?_
      refine lv_icmp_ge (tgt := 38) hx hb dX7_init_19 (by decide) (fun z => absurd ((le_lit (c := 2187) (by decide) (by omega) (by decide)).mp z) (by omega)) (fun _ => ?_)
      refine lv_aload_n hx hb dX7_init_22 rfl (lv_at hl 1 rfl) ?_
      refine va_get (D := D) (ci := 7) (v := .ref q1) (C := RX7) (T := TX7) (N := 1) hx hb hts (fun _ h9 => List.mem_cons_of_mem _ (List.mem_append_right _ h9)) hown hK hP 0 rfl rfl 0 (by decide) (hts _ (List.mem_of_getElem? (l := wsX7_init) (i := 5) rfl)) (fun _ h9 => h9) rfl dX7_init_23 ?_
      refine lv_iload_n hx hb dX7_init_26 rfl (lv_at hl 0 rfl) ?_
      refine lv_iload_n hx hb dX7_init_27 rfl (lv_at hl 0 rfl) ?_
      refine va_calli (va_runS (As := [.int (nI j)]) (rest := [.int (nI j), .ref q1]) ⟨hx, hb, hml, hown, hts⟩ (k_X7_tonesOfPedals l D tq cI cO A0 (fun _ => False) (fun _ z => z.elim) (nI j) (fun _ => 0) (fun _ _ => 0) (fun r => r = hasR j 7) (s_tonesOf (by omega) rfl)) (va_cwS 1 hts gX7_init_X7_tonesOfPedals rfl rfl rfl (by decide +kernel) ⟨by subst hR; exact Nat.le_of_ble_eq_true rfl, by subst hR; exact Nat.le_of_ble_eq_true rfl⟩) (gPreS (pEok2 hAA) hE hK (fun k x hx => by cases hx) hS) rfl rfl hl.1 rfl (lv_room (Nat.le_of_ble_eq_true rfl)) dX7_init_28 ⟨by subst hR; exact Nat.le_of_ble_eq_true rfl, by subst hR; exact Nat.le_of_ble_eq_true rfl⟩) hS (fun _ _ z => z.elim) (fun _ z => z.elim) (fun r u t H1 locs ht hvm hw hB hz1 hk1 hS => ?_)
      have hP : va_P D vwCl [(h0, .inr (7, [.ref q1])), (q1, .inl (cI, 2187, .inl (sRow j)))] H1 := hP.stay (fun q hq => hk1 q hq (fun z => z))
      refine va_iast (D := D) hx hb hK hP hD hS 1 0 rfl rfl (vp_in_nI (show j < 2187 by omega) (by decide)) dX7_init_31 (fun H locs hP hD hS => ?_)
      have ew : upd (sRow j) (nI j).toNatClampNeg r = sRow (j + 1) := by
        rw [nI_clamp (by omega), hw]
        exact fa_fill_succ (fun s => hasR s 7) (fun _ => 0) j
      rw [ew] at hP hD
      have hP : va_P D vwCl [(h0, .inr (7, [.ref q1])), (q1, .inl (cI, 2187, .inl (sRow (j + 1))))] H := hP
      have hD : va_D A [(h0, .inr (7, [.ref q1])), (q1, .inl (cI, 2187, .inl (sRow (j + 1))))] := hD
      refine lv_iinc (v := nI (j + 1)) (lv' := [(1, .int (nI (j + 1))), (0, .ref h0)]) hx hb dX7_init_32 hl (k := 0) rfl (by rw [← nI_1]; rfl) (by decide) rfl (fun ls hl => ?_)
      refine lv_goto (tgt := 15) hx hb dX7_init_35 (by decide) ?_
      exact ih (j + 1) H _ ls (by omega) hP hD hS hl
  refine lv_aload_n hx hb dX7_init_0 rfl (lv_at hl 0 rfl) ?_
  refine W.objInit hx hb hown (hts _ (List.mem_of_getElem? (l := wsX7_init) (i := 1) rfl)) (hts _ (List.mem_of_getElem? (l := wsX7_init) (i := 2) rfl)) (hts _ (List.mem_of_getElem? (l := wsX7_init) (i := 3) rfl)) rfl (by rw [hml]; exact hl.1) rfl dX7_init_1 (by subst hR; exact Nat.le_of_ble_eq_true rfl) (by subst hR; exact Nat.le_of_ble_eq_true rfl) ?_
  refine W.eq (g2 := F0 m 4 ls []) rfl ?_
  refine lv_aload_n hx hb dX7_init_4 rfl (lv_at hl 0 rfl) ?_
  refine lv_sipush (v := (2187 : Int32)) hx hb dX7_init_5 (by decide) ?_
  refine gNewa (cI := cI) hx hb (hts _ (List.mem_of_getElem? (l := wsX7_init) (i := 4) rfl)) hK 0 rfl hP hD hS hA (by decide) rfl (Nat.le_of_ble_eq_true rfl) (by subst hR; exact Nat.le_of_ble_eq_true rfl) (by subst hR; exact Nat.le_of_ble_eq_true rfl) dX7_init_8 (fun q1 H hP hD hS => ?_)
  have hP : va_P D vwCl [(h0, .inr (7, [.null])), (q1, .inl (cI, 2187, .inl (fun _ => 0)))] H := hP
  have hD : va_D A [(h0, .inr (7, [.null])), (q1, .inl (cI, 2187, .inl (fun _ => 0)))] := hD
  refine W.widen (k := 1) (n := 2187) (Nat.le_of_ble_eq_true rfl) (Nat.le_of_ble_eq_true rfl) ?_
  refine va_putF (D := D) (ci := 7) (v := .ref q1) (ty := .array .int) (C := RX7) (T := TX7) (N := 1) hx hb hts (fun _ h9 => List.mem_cons_of_mem _ (List.mem_append_right _ h9)) tyX7 tyX7_ok nmX7 hown hK hP hD hS 0 rfl rfl 0 (by decide) (hts _ (List.mem_of_getElem? (l := wsX7_init) (i := 5) rfl)) (fun _ h9 => h9) rfl hin rfl (by decide +kernel) rfl rfl (Nat.le_of_ble_eq_true rfl) dX7_init_10 (fun H locs hP hD hS => ?_)
  have hP : va_P D vwCl [(h0, .inr (7, [.ref q1])), (q1, .inl (cI, 2187, .inl (fun _ => 0)))] H := hP
  have hD : va_D A [(h0, .inr (7, [.ref q1])), (q1, .inl (cI, 2187, .inl (fun _ => 0)))] := hD
  refine lv_iconst (v := (0 : Int32)) hx hb dX7_init_13 (by decide) ?_
  refine lv_istore_n (lv' := [(1, .int 0), (0, .ref h0)]) hx hb dX7_init_14 rfl hl (by decide) rfl (fun ls hl => ?_)
  exact L q1 2187 0 H _ ls (by omega) hP hD hS hl
