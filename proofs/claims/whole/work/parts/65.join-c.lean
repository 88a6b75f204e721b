/-! joint: as, tone, press, change, swap -/
theorem rngK {a : Int32} {Ic Im : Nat → Int32} {Fc Fm : Nat → Nat → Int32} : (∃ y, y < 5 ∧ a = nI y ∧ (∀ post, post 1 → w_X8_isKind a Ic Fc post) ∧ ∀ hm post, post 1 → w_X9_in a.toInt64 0 4 Im Fm hm post) ∨ ((∀ post, post 0 → w_X8_isKind a Ic Fc post) ∧ ∀ hm post, post 0 → w_X9_in a.toInt64 0 4 Im Fm hm post) := by
  unfold w_X8_isKind
  exact rng (N := 5) (H := 4) (hi := 4) (n := 5) (by omega) (by decide) (by decide) (by decide)
theorem rngP {a : Int32} {Ic Im : Nat → Int32} {Fc Fm : Nat → Nat → Int32} : (∃ y, y < 7 ∧ a = nI y ∧ (∀ post, post 1 → w_X8_isPedal a Ic Fc post) ∧ ∀ hm post, post 1 → w_X9_in a.toInt64 0 6 Im Fm hm post) ∨ ((∀ post, post 0 → w_X8_isPedal a Ic Fc post) ∧ ∀ hm post, post 0 → w_X9_in a.toInt64 0 6 Im Fm hm post) := by
  unfold w_X8_isPedal
  exact rng (N := 7) (H := 6) (hi := 6) (n := 7) (by omega) (by decide) (by decide) (by decide)
theorem rngS {a : Int32} {Ic Im : Nat → Int32} {Fc Fm : Nat → Nat → Int32} : (∃ y, y < 3 ∧ a = nI y ∧ (∀ post, post 1 → w_X8_isPosition a Ic Fc post) ∧ ∀ hm post, post 1 → w_X9_in a.toInt64 0 2 Im Fm hm post) ∨ ((∀ post, post 0 → w_X8_isPosition a Ic Fc post) ∧ ∀ hm post, post 0 → w_X9_in a.toInt64 0 2 Im Fm hm post) := by
  unfold w_X8_isPosition
  exact rng (N := 3) (H := 2) (hi := 2) (n := 3) (by omega) (by decide) (by decide) (by decide)
theorem j_as {i : Nat} {a a2 : Int32} {Ic Im : Nat → Int32} {Fc Fm : Nat → Nat → Int32} {hm : Int64} (h : RR i Ic Fc Im Fm) : w_X8_as a a2 Ic Fc (fun r => w_X9_as a a2 Im Fm hm (fun r2 => r = r2)) := by
  obtain ⟨n, b, g, w, p, s, hB, hC⟩ := h
  obtain ⟨hn, hb, hg, hw, hp, hs, ⟨c8, m3, c7, m4, hPR⟩, -, -, -, -, hT, hM⟩ := id hB
  unfold w_X8_as w_X9_as
  rcases has_cases (a := a) (Fc := Fc) (Fm := Fm) hn c8 m3 with ⟨k, hk, e⟩ | ⟨q1, q2⟩
  · subst e
    refine s_has hn c8 hk ⟨fun _ => ?_, fun q => absurd q (by decide)⟩
    rcases rngK (a := a2) (Ic := Ic) (Im := Im) (Fc := Fc) (Fm := Fm) with ⟨y, hy, e2, r1, r2⟩ | ⟨r1, r2⟩
    · refine r1 _ ⟨fun _ => ⟨vp_in_nI (by omega) (by decide), fun v6 e6 => ?_⟩, fun q => absurd q (by decide)⟩
      rw [nI_clamp (by omega)] at e6
      have hkk := (hPR k hk).1.1
      rw [hkk] at e6
      have yes : w_X9_as (nI k) a2 Im Fm hm (fun r2 => nI k = r2) ∨ True := Or.inr trivial
      have fin : ∀ z : Bool, (z = true ↔ (a2 = 0 ∨ a2 = v6 ∨ (a2 = 2 ∧ v6 = 4))) → w_X9_isChord (nI k) Im Fm hm (fun (r2 : Int32) => ((¬ r2 = 0 → w_X9_in ((a2).toInt64) (0 : Int64) (4 : Int64) Im Fm hm (fun (r4 : Int32) => ((¬ r4 = 0 → ((a2 = 0 → w_X9_as_J55 (nI k) Im Fm hm (fun r2 => (if z = true then nI k else -1) = r2)) ∧ (¬ a2 = 0 → vp_in (nI k) 8 ∧ ((a2 = (Fm 14 (nI k).toNatClampNeg) → w_X9_as_J55 (nI k) Im Fm hm (fun r2 => (if z = true then nI k else -1) = r2)) ∧ (¬ a2 = (Fm 14 (nI k).toNatClampNeg) → ((¬ a2 = (2 : Int32) → w_X9_as_J59 (nI k) Im Fm hm (fun r2 => (if z = true then nI k else -1) = r2)) ∧ (a2 = (2 : Int32) → vp_in (nI k) 8 ∧ ((¬ (Fm 14 (nI k).toNatClampNeg) = (4 : Int32) → w_X9_as_J59 (nI k) Im Fm hm (fun r2 => (if z = true then nI k else -1) = r2)) ∧ ((Fm 14 (nI k).toNatClampNeg) = (4 : Int32) → w_X9_as_J55 (nI k) Im Fm hm (fun r2 => (if z = true then nI k else -1) = r2)))))))))) ∧ (r4 = 0 → (if z = true then nI k else -1) = (-102 : Int32))))) ∧ (r2 = 0 → (if z = true then nI k else -1) = (-101 : Int32)))) := by
        intro z hz
        refine m_isChord hn m3 hk ⟨fun _ => r2 _ _ ⟨fun _ => ?_, fun q => absurd q (by decide)⟩, fun q => absurd q (by decide)⟩
        unfold w_X9_as_J55 w_X9_as_J59 w_X9_as_J60
        rw [nI_clamp (by omega), ← e6]
        have hv : vp_in (nI k) 8 := vp_in_nI (by omega) (by decide)
        have y1 : (a2 = 0 ∨ a2 = v6 ∨ (a2 = 2 ∧ v6 = 4)) → (if z = true then nI k else -1) = nI k := fun q => if_pos (hz.mpr q)
        have y2 : ¬ (a2 = 0 ∨ a2 = v6 ∨ (a2 = 2 ∧ v6 = 4)) → (if z = true then nI k else -1) = -1 := fun q => if_neg (fun z => q (hz.mp z))
        refine ⟨fun q => ⟨fun z => absurd z (by decide), fun _ => y1 (Or.inl q)⟩, fun q => ⟨hv, fun q3 => ⟨fun z => absurd z (by decide), fun _ => y1 (Or.inr (Or.inl q3))⟩, fun q3 => ⟨fun q4 => ⟨fun _ => y2 (fun z => ?_), fun z => absurd rfl z⟩, fun q4 => ⟨hv, fun q5 => ⟨fun _ => y2 (fun z => ?_), fun z => absurd rfl z⟩, fun q5 => ⟨fun z => absurd z (by decide), fun _ => y1 (Or.inr (Or.inr ⟨q4, q5⟩))⟩⟩⟩⟩⟩
        · rcases z with z | z | ⟨z, -⟩
          · exact q z
          · exact q3 z
          · exact q4 z
        · rcases z with z | z | ⟨-, z⟩
          · exact q z
          · exact q3 z
          · exact q5 z
      unfold w_X8_as_J55 w_X8_as_J59 w_X8_as_J60
      have t1 := fin true
      have t2 := fin false
      rw [if_pos rfl] at t1
      rw [if_neg (by decide)] at t2
      refine ⟨fun q => ⟨fun z => absurd z (by decide), fun _ => t1 ⟨fun _ => Or.inl q, fun _ => rfl⟩⟩, fun q => ⟨fun q3 => ⟨fun z => absurd z (by decide), fun _ => t1 ⟨fun _ => Or.inr (Or.inl q3), fun _ => rfl⟩⟩, fun q3 => ⟨fun q4 => ⟨fun _ => t2 ⟨fun z => absurd z (by decide), fun z => ?_⟩, fun z => absurd rfl z⟩, fun q4 => ?_⟩⟩⟩
      · rcases z with z | z | ⟨z, -⟩
        · exact absurd z q
        · exact absurd z q3
        · exact absurd z q4
      · unfold w_X8_isHeld
        have n2 : ¬ v6 = 2 := fun z => q3 (q4.trans z.symm)
        refine ⟨fun z => absurd z n2, fun _ => ⟨fun q5 => ⟨fun _ => ⟨fun _ => t2 ⟨fun z => absurd z (by decide), fun z => ?_⟩, fun z => absurd rfl z⟩, fun z => absurd rfl z⟩, fun q5 => ⟨fun z => absurd z (by decide), fun _ => ⟨fun z => absurd z (by decide), fun _ => t1 ⟨fun _ => Or.inr (Or.inr ⟨q4, q5⟩), fun _ => rfl⟩⟩⟩⟩⟩
        rcases z with z | z | ⟨-, z⟩
        · exact absurd z q
        · exact absurd z q3
        · exact absurd z q5
    · exact r1 _ ⟨fun q => absurd rfl q, fun _ => m_isChord hn m3 hk ⟨fun _ => r2 _ _ ⟨fun q => absurd rfl q, fun _ => rfl⟩, fun q => absurd q (by decide)⟩⟩
  · exact q1 _ ⟨fun q => absurd rfl q, fun _ => q2 _ _ ⟨fun q => absurd rfl q, fun _ => rfl⟩⟩
theorem m_toneOf {p d : Nat} {I : Nat → Int32} {F : Nat → Nat → Int32} {hs : Int64} {post : Int32 → Prop} (hM : mTab F) (hp : p < 7) (hd : d < 3) (h : post (nI (tn p d))) : w_X9_toneOf (nI p) (nI d) I F hs post := by
  have h1 := nt_lt p
  unfold w_X9_toneOf
  refine ⟨vp_in_nI hp (by decide), ?_⟩
  rw [nI_clamp (by omega), hM.2.1 p hp, nI_add, show (11 : Int32) = nI 11 by decide, nI_add, show (12 : Int32) = nI 12 by decide, pk_rem (by omega) (by omega) (by omega)]
  exact h
theorem j_tone {i : Nat} {a a2 : Int32} {Ic Im : Nat → Int32} {Fc Fm : Nat → Nat → Int32} {hm : Int64} (h : RR i Ic Fc Im Fm) : w_X8_tone a a2 Ic Fc (fun r => w_X9_tone a a2 Im Fm hm (fun r2 => r = r2)) := by
  obtain ⟨n, b, g, w, p, s, hB, hC⟩ := h
  obtain ⟨hn, hb, hg, hw, hp, hs, ⟨c8, m3, c7, m4, hPR⟩, -, -, -, -, hT, hM⟩ := id hB
  unfold w_X8_tone w_X9_tone
  rcases rngP (a := a) (Ic := Ic) (Im := Im) (Fc := Fc) (Fm := Fm) with ⟨y, hy, e, r1, r2⟩ | ⟨r1, r2⟩
  · refine r1 _ ⟨fun _ => ?_, fun q => absurd q (by decide)⟩
    rcases rngS (a := a2) (Ic := Ic) (Im := Im) (Fc := Fc) (Fm := Fm) with ⟨d, hd, e2, t1, t2⟩ | ⟨t1, t2⟩
    · refine t1 _ ⟨fun q => absurd q (by decide), fun _ => ?_⟩
      subst e
      subst e2
      exact s_tone hy hd (r2 _ _ ⟨fun _ => t2 _ _ ⟨fun q => absurd q (by decide), fun _ => m_toneOf hM hy hd rfl⟩, fun q => absurd q (by decide)⟩)
    · exact t1 _ ⟨fun _ => r2 _ _ ⟨fun _ => t2 _ _ ⟨fun _ => rfl, fun q => absurd rfl q⟩, fun q => absurd q (by decide)⟩, fun q => absurd rfl q⟩
  · exact r1 _ ⟨fun q => absurd rfl q, fun _ => r2 _ _ ⟨fun q => absurd rfl q, fun _ => rfl⟩⟩
theorem nI_set {b p d : Nat} (hb : b < 2187) (hp : p < 7) (hd : d < 3) : nI b + (nI d - nI (pos b p)) * nI (wt p) = nI (setP b p d) := by
  have h := congrArg nI (setP_add b p d)
  rw [← nI_add, ← nI_add, ← pk_mul, ← pk_mul] at h
  grind
theorem j_press {i : Nat} {a a2 : Int32} {Ic Im : Nat → Int32} {Fc Fm : Nat → Nat → Int32} {hm : Int64} (h : RR i Ic Fc Im Fm) : w_X8_press a a2 Ic Fc (fun r Ic2 Fc2 => w_X9_press a a2 Im Fm hm (fun r2 Im2 Fm2 hm2 => r = r2 ∧ hm2 = hm ∧ RR i Ic2 Fc2 Im2 Fm2)) := by
  have h0 := h
  obtain ⟨n, b, g, w, p, s, hB, hC⟩ := h
  obtain ⟨hn, hb, hg, hw, hp, hs, ⟨c8, m3, c7, m4, hPR⟩, -, -, -, -, hT, hM⟩ := id hB
  unfold w_X8_press w_X9_press
  rcases rngP (a := a) (Ic := Ic) (Im := Im) (Fc := Fc) (Fm := Fm) with ⟨y, hy, e, r1, r2⟩ | ⟨r1, r2⟩
  · refine r1 _ ⟨fun _ => ?_, fun q => absurd q (by decide)⟩
    rcases rngS (a := a2) (Ic := Ic) (Im := Im) (Fc := Fc) (Fm := Fm) with ⟨d, hd, e2, t1, t2⟩ | ⟨t1, t2⟩
    · refine t1 _ ⟨fun _ => ?_, fun q => absurd q (by decide)⟩
      rw [c8, nI_is0 (by omega)]
      refine ⟨fun hn0 => ?_, fun hn0 => r2 _ _ ⟨fun _ => t2 _ _ ⟨fun _ => m_lacks0 m3 hn (fun z => absurd hn0 (by omega)) (fun _ => ⟨fun q => absurd q (by decide), fun _ => ⟨rfl, rfl, h0⟩⟩), fun q => absurd q (by decide)⟩, fun q => absurd q (by decide)⟩⟩
      have hn1 : 0 < n := by omega
      subst e
      subst e2
      unfold w_X7_moved
      rw [c7]
      refine s_pos hb hy ⟨vp_in_nI hy (by decide), fun I7 e7 => ?_⟩
      rw [tabW_at hy, nI_set hb hy hd] at e7
      have hs2 := setP_lt (s := b) hy hb hd
      unfold w_X3_makeStale_9
      intro I8 e8 I9 e9
      have v7 : I9 7 = nI (setP b y d) := by rw [e9, pk_un (by decide), e8, pk_un (by decide), e7, pk_us]
      have k1 : ∀ j, j ≠ 7 → j ≠ 15 → j ≠ 16 → I9 j = Ic j := fun j h1 h2 h3 => by rw [e9, pk_un h3, e8, pk_un h2, e7, pk_un h1]
      rw [v7]
      refine s_number hs2 (r2 _ _ ⟨fun _ => t2 _ _ ⟨fun _ => m_lacks0 m3 hn (fun _ => ⟨fun _ => ?_, fun q => absurd rfl q⟩) (fun z => absurd hn1 (by omega)), fun q => absurd q (by decide)⟩, fun q => absurd q (by decide)⟩)
      rw [m4]
      refine m_pos hM hb hy ⟨vp_in_nI hy (by decide), fun J8 g8 J9 g9 => ?_⟩
      rw [nI_clamp (by omega), hM.1 y hy, nI_set hb hy hd] at g8
      have w4 : J9 4 = nI (setP b y d) := by rw [g9, pk_un (by decide), g8, pk_us]
      have k2 : ∀ j, j ≠ 4 → j ≠ 6 → J9 j = Im j := fun j h1 h2 => by rw [g9, pk_un h2, g8, pk_un h1]
      rw [w4]
      refine m_told hM hs2 ⟨rfl, rfl, n, setP b y d, g, w, p, s, RR_stale hB hn hs2 ⟨by rw [k1 8 (by decide) (by decide) (by decide)]; exact c8, by rw [k2 3 (by decide) (by decide)]; exact m3, v7, w4, hPR⟩ (fun j hj => k1 j (fun z => by subst z; exact absurd hj (by decide)) (fun z => by subst z; exact absurd hj (by decide)) (fun z => by subst z; exact absurd hj (by decide))) (fun _ _ => rfl) (fun j hj => k2 j (fun z => by subst z; exact absurd hj (by decide)) (fun z => by subst z; exact absurd hj (by decide))) (fun _ _ => rfl), RC_stale (by rw [e9, pk_un (by decide), e8, pk_us]) (by rw [e9, pk_us]) (by rw [g9, pk_us])⟩
    · exact t1 _ ⟨fun q => absurd rfl q, fun _ => r2 _ _ ⟨fun _ => t2 _ _ ⟨fun q => absurd rfl q, fun _ => ⟨rfl, rfl, h0⟩⟩, fun q => absurd q (by decide)⟩⟩
  · exact r1 _ ⟨fun q => absurd rfl q, fun _ => r2 _ _ ⟨fun q => absurd rfl q, fun _ => ⟨rfl, rfl, h0⟩⟩⟩
theorem j_change {i : Nat} {a a2 : Int32} {Ic Im : Nat → Int32} {Fc Fm : Nat → Nat → Int32} {hm : Int64} (h : RR i Ic Fc Im Fm) : w_X8_change a a2 Ic Fc (fun r Ic2 Fc2 => w_X9_change a a2 Im Fm hm (fun r2 Im2 Fm2 hm2 => r = r2 ∧ hm2 = hm ∧ RR i Ic2 Fc2 Im2 Fm2)) := by
  have h0 := h
  obtain ⟨n, b, g, w, p, s, hB, hC⟩ := h
  obtain ⟨hn, hb, hg, hw, hp, hs, ⟨c8, m3, c7, m4, hPR⟩, -, -, -, -, hT, hM⟩ := id hB
  unfold w_X8_change w_X9_change
  rcases has_cases (a := a) (Fc := Fc) (Fm := Fm) hn c8 m3 with ⟨k, hk, e⟩ | ⟨q1, q2⟩
  · subst e
    refine s_has hn c8 hk ⟨fun _ => ?_, fun q => absurd q (by decide)⟩
    have hv : vp_in (nI k) 8 := vp_in_nI (by omega) (by decide)
    rcases rngK (a := a2) (Ic := Ic) (Im := Im) (Fc := Fc) (Fm := Fm) with ⟨y, hy, e2, r1, r2⟩ | ⟨r1, r2⟩
    · refine r1 _ ⟨fun _ => ⟨hv, fun v5 e5 => ⟨hv, fun F6 e6 => ?_⟩⟩, fun q => absurd q (by decide)⟩
      unfold w_X3_makeStale_9
      intro I7 e7 I8 e8
      refine m_isChord hn m3 hk ⟨fun _ => r2 _ _ ⟨fun _ => ⟨hv, fun v9 e9 => ⟨hv, fun F10 e10 J7 g7 => ?_⟩⟩, fun q => absurd q (by decide)⟩, fun q => absurd q (by decide)⟩
      rw [nI_clamp (by omega)] at e5 e6 e9 e10
      have k1 : ∀ j, j ≠ 15 → j ≠ 16 → I8 j = Ic j := fun j h2 h3 => by rw [e8, pk_un h3, e7, pk_un h2]
      have k2 : ∀ j, j ≠ 6 → J7 j = Im j := fun j h2 => by rw [g7, pk_un h2]
      have f1 : ∀ j, j ≠ 17 → F6 j = Fc j := fun j hj => by rw [e6, upF_n _ _ hj]
      have f2 : ∀ j, j ≠ 14 → F10 j = Fm j := fun j hj => by rw [e10, upF_n _ _ hj]
      refine ⟨by rw [e5, e9, (hPR k hk).1.1], rfl, n, b, g, w, p, s, RR_stale hB hn hb ⟨by rw [k1 8 (by decide) (by decide)]; exact c8, by rw [k2 3 (by decide)]; exact m3, by rw [k1 7 (by decide) (by decide)]; exact c7, by rw [k2 4 (by decide)]; exact m4, fun j hj => ?_⟩ (fun j hj => k1 j (fun z => by subst z; exact absurd hj (by decide)) (fun z => by subst z; exact absurd hj (by decide))) (fun j hj => f1 j (fun z => by subst z; exact absurd hj (by decide))) (fun j hj => k2 j (fun z => by subst z; exact absurd hj (by decide))) (fun j hj => f2 j (fun z => by subst z; exact absurd hj (by decide))), RC_stale (by rw [e8, pk_un (by decide), e7, pk_us]) (by rw [e8, pk_us]) (by rw [g7, pk_us])⟩
      rw [f1 18 (by decide), f2 15 (by decide), e6, e10, upF_s, upF_s]
      obtain ⟨⟨z1, z2⟩, z3⟩ := hPR j hj
      by_cases ej : j = k
      · subst ej
        rw [pk_us, pk_us]
        exact ⟨⟨rfl, z2⟩, z3⟩
      · rw [pk_un ej, pk_un ej]
        exact ⟨⟨z1, z2⟩, z3⟩
    · exact r1 _ ⟨fun q => absurd rfl q, fun _ => m_isChord hn m3 hk ⟨fun _ => r2 _ _ ⟨fun q => absurd rfl q, fun _ => ⟨rfl, rfl, h0⟩⟩, fun q => absurd q (by decide)⟩⟩
  · exact q1 _ ⟨fun q => absurd rfl q, fun _ => q2 _ _ ⟨fun q => absurd rfl q, fun _ => ⟨rfl, rfl, h0⟩⟩⟩
