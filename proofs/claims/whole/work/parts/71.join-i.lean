/-! joint: restore, shift -/
theorem j_restore {i : Nat} {Ic Im : Nat → Int32} {Fc Fm : Nat → Nat → Int32} {hm : Int64} (h : RR i Ic Fc Im Fm) : w_X8_restore Ic Fc (fun r Ic2 Fc2 => w_X9_restore Im Fm hm (fun r2 Im2 Fm2 hm2 => r = r2 ∧ hm2 = hm ∧ RR i Ic2 Fc2 Im2 Fm2)) := by
  have h0 := h
  obtain ⟨n, b, g, w, p, s, hB, hC⟩ := h
  obtain ⟨hn, hb, hg, hw, hp, hs, ⟨c8, m3, c7, m4, hPR⟩, hPg, ⟨c11, m11, hSR⟩, ⟨c0, m5, c1, m10⟩, hKp, hT⟩ := id hB
  unfold w_X8_restore w_X9_restore
  have hKp0 := hKp
  rcases hKp with ⟨hk1, ⟨q1, q2⟩ | ⟨q1, n', b', w', y1, y2, y3, y4, x10, x15, x9, x16, x12, x17, yPR, ySR⟩⟩
  · exact ⟨fun q => absurd q1 q, fun _ => ⟨fun q => absurd q q2, fun _ => ⟨rfl, rfl, h0⟩⟩⟩
  · refine ⟨fun _ => ?_, fun q => absurd q (by rw [x10, nI_is0 (by omega)]; omega)⟩
    unfold w_X2_become_4_5 w_X6_become_6_7 w_X3_makeStale_9
    intro I1 e1 I2 e2 F3 e3 F4 e4 I5 e5 F6 e6 F7 e7 I8 e8 I9 e9
    refine ⟨fun _ => m_copy_23_14 (fun G1 a1 a2 => m_copy_24_15 (fun G2 b1 b2 => m_copy_25_22 (fun G3 d1 d2 J11 t11 J12 t12 J13 t13 J14 t14 => ?_))), fun q => absurd q1 q⟩
    have k1 : ∀ j, j ≠ 7 → j ≠ 8 → j ≠ 11 → j ≠ 15 → j ≠ 16 → I9 j = Ic j := fun j h1 h2 h3 h4 h5 => by rw [e9, pk_un h5, e8, pk_un h4, e5, pk_un h3, e2, pk_un h2, e1, pk_un h1]
    have k2 : ∀ j, j ≠ 3 → j ≠ 4 → j ≠ 11 → j ≠ 6 → J14 j = Im j := fun j h1 h2 h3 h4 => by rw [t14, pk_un h4, t13, pk_un h3, t12, pk_un h2, t11, pk_un h1]
    have f1 : ∀ r, r ≠ 17 → r ≠ 18 → r ≠ 21 → r ≠ 22 → F7 r = Fc r := fun r h1 h2 h3 h4 => by rw [e7, upF_n _ _ h4, e6, upF_n _ _ h3, e4, upF_n _ _ h2, e3, upF_n _ _ h1]
    have f2 : ∀ r, r ≠ 14 → r ≠ 15 → r ≠ 22 → G3 r = Fm r := fun r h1 h2 h3 => by rw [d1 r h3, b1 r h2, a1 r h1]
    have v8 : I9 8 = nI n' := by rw [e9, pk_un (by decide), e8, pk_un (by decide), e5, pk_un (by decide), e2, pk_us, e1, pk_un (by decide)]; exact x10
    have w3 : J14 3 = nI n' := by rw [t14, pk_un (by decide), t13, pk_un (by decide), t12, pk_un (by decide), t11, pk_us]; exact x15
    refine ⟨by rw [v8, w3], rfl, n', b', g, w', p, s, ⟨y2, y3, hg, y4, hp, hs, ⟨v8, w3, ?_, ?_, ?_⟩, ?_, ⟨?_, ?_, ?_⟩, ?_, ?_, ?_⟩, RC_stale (by rw [e9, pk_un (by decide), e8, pk_us]) (by rw [e9, pk_us]) (by rw [t14, pk_us])⟩
    · rw [e9, pk_un (by decide), e8, pk_un (by decide), e5, pk_un (by decide), e2, pk_un (by decide), e1, pk_us]; exact x9
    · rw [t14, pk_un (by decide), t13, pk_un (by decide), t12, pk_us, t11, pk_un (by decide)]; exact x16
    · refine PR_of (fun k hk => ?_) (fun k hk => ?_) (fun k hk => ?_) (fun k hk => ?_) yPR
      · rw [e7, upF_n _ _ (by decide), e6, upF_n _ _ (by decide), e4, upF_n _ _ (by decide), e3, upF_s]
        exact cpy0 (by show k < 8; omega)
      · rw [e7, upF_n _ _ (by decide), e6, upF_n _ _ (by decide), e4, upF_s, e3, upF_n _ _ (by decide)]
        exact cpy0 (by show k < 8; omega)
      · rw [d1 14 (by decide), b1 14 (by decide)]
        exact a2 k (by omega)
      · rw [d1 15 (by decide), b2 k (by omega), a1 24 (by decide)]
    · unfold RPage
      rw [k1 2 (by decide) (by decide) (by decide) (by decide) (by decide), k2 0 (by decide) (by decide) (by decide) (by decide), f1 14 (by decide) (by decide) (by decide) (by decide), f2 11 (by decide) (by decide) (by decide)]
      exact hPg
    · rw [e9, pk_un (by decide), e8, pk_un (by decide), e5, pk_us, e2, pk_un (by decide), e1, pk_un (by decide)]; exact x12
    · rw [t14, pk_un (by decide), t13, pk_us, t12, pk_un (by decide), t11, pk_un (by decide)]; exact x17
    · refine SR_of y4 (fun k hk => ?_) (fun k hk => ?_) (fun k hk => ?_) ySR
      · rw [e7, upF_n _ _ (by decide), e6, upF_s, e4, upF_n _ _ (by decide), e3, upF_n _ _ (by decide)]
        exact cpy0 hk
      · rw [e7, upF_s, e6, upF_n _ _ (by decide), e4, upF_n _ _ (by decide), e3, upF_n _ _ (by decide)]
        exact cpy0 hk
      · rw [d2 k hk, b1 25 (by decide), a1 25 (by decide)]
    · unfold RCnt
      rw [k1 0 (by decide) (by decide) (by decide) (by decide) (by decide), k1 1 (by decide) (by decide) (by decide) (by decide) (by decide), k2 5 (by decide) (by decide) (by decide) (by decide), k2 10 (by decide) (by decide) (by decide) (by decide)]
      exact ⟨c0, m5, c1, m10⟩
    · unfold RKept
      rw [k1 10 (by decide) (by decide) (by decide) (by decide) (by decide), k1 9 (by decide) (by decide) (by decide) (by decide) (by decide), k1 12 (by decide) (by decide) (by decide) (by decide) (by decide), k2 14 (by decide) (by decide) (by decide) (by decide), k2 5 (by decide) (by decide) (by decide) (by decide), k2 15 (by decide) (by decide) (by decide) (by decide), k2 16 (by decide) (by decide) (by decide) (by decide), k2 17 (by decide) (by decide) (by decide) (by decide), f1 19 (by decide) (by decide) (by decide) (by decide), f1 20 (by decide) (by decide) (by decide) (by decide), f1 23 (by decide) (by decide) (by decide) (by decide), f1 24 (by decide) (by decide) (by decide) (by decide), f2 23 (by decide) (by decide) (by decide), f2 24 (by decide) (by decide) (by decide), f2 25 (by decide) (by decide) (by decide)]
      exact hKp0
    · unfold RTab mTab
      rw [f1 25 (by decide) (by decide) (by decide) (by decide), f2 1 (by decide) (by decide) (by decide), f2 2 (by decide) (by decide) (by decide), f2 3 (by decide) (by decide) (by decide), f2 8 (by decide) (by decide) (by decide), f2 9 (by decide) (by decide) (by decide), f2 10 (by decide) (by decide) (by decide)]
      exact hT
theorem rs_lt (x y : Int32) : ∃ t, t < 4096 ∧ rs x y = nI t := by
  unfold rs
  exact pk_andE _ 12 (by decide)
theorem s_raise {n : Nat} {y : Int32} {I : Nat → Int32} {F : Nat → Nat → Int32} {post : (Nat → Int32) → (Nat → Nat → Int32) → Prop} (hn : n ≤ 8) (h8 : I 8 = nI n) (hp : ∀ F2, (∀ r, r ≠ 18 → F2 r = F r) → (∀ x, x < n → F2 18 x = rs (F 18 x) y) → post I F2) : w_X2_raise_4 y I F post := by
  unfold w_X2_raise_4
  refine gL_inv (fun j v => v.1 = nI j ∧ v.2.1 = I ∧ (∀ r, r ≠ 18 → v.2.2 r = F r) ∧ ∀ x, x < n → v.2.2 18 x = if x < j then rs (F 18 x) y else F 18 x) n ?_ ?_ ⟨rfl, rfl, fun _ _ => rfl, fun x hx => (if_neg (by omega)).symm⟩
  · rintro j hj ⟨x1, J, L⟩ ⟨g1, g2, g3, g4⟩ again hag
    dsimp only at g1 g2 g3 g4 ⊢
    subst g1
    subst g2
    unfold w_X2_raise_4_B2 w_X8_raised
    rw [h8]
    have hv : vp_in (nI j) 8 := vp_in_nI (by omega) (by decide)
    refine ⟨fun q => absurd ((nI_leI (a := n) (b := j) (by omega) (by omega)).mp q) (by omega), fun _ => ⟨hv, hv, fun F3 e3 => hag _ ⟨nI_1 j, rfl, fun r hr => ?_, fun x hx => ?_⟩⟩⟩
    · show F3 r = F r
      rw [e3, upF_n _ _ hr]
      exact g3 r hr
    · show F3 18 x = _
      rw [e3, upF_s, nI_clamp (by omega)]
      by_cases e : x = j
      · subst e
        have n1 : ¬ x < x := by omega
        have n2 : x < x + 1 := by omega
        rw [pk_us, g4 x hx, if_neg n1, if_pos n2]
        rfl
      · rw [pk_un e, g4 x hx]
        by_cases e2 : x < j
        · have n2 : x < j + 1 := by omega
          rw [if_pos e2, if_pos n2]
        · have n2 : ¬ x < j + 1 := by omega
          rw [if_neg e2, if_neg n2]
  · rintro ⟨x1, J, L⟩ ⟨g1, g2, g3, g4⟩ again
    dsimp only at g1 g2 g3 g4 ⊢
    subst g1
    subst g2
    unfold w_X2_raise_4_B2
    rw [h8]
    exact ⟨fun _ => hp L g3 (fun x hx => by rw [g4 x hx, if_pos hx]), fun q => absurd (Int32.le_refl _) q⟩
theorem m_raise {n : Nat} {y : Int32} {I : Nat → Int32} {F : Nat → Nat → Int32} {hs : Int64} {kk : Int32 → (Nat → Int32) → (Nat → Nat → Int32) → Int64 → Prop} (hn : n ≤ 8) (h8 : I 3 = nI n) (hp : ∀ z F2, (∀ r, r ≠ 15 → F2 r = F r) → (∀ x, x < n → F2 15 x = rs (F 15 x) y) → kk z I F2 hs) : gL (fun ag v => w_X9_shift_B27 y kk (fun b0 b1 b2 b3 => ag (b0, b1, b2, b3)) v.1 v.2.1 v.2.2.1 v.2.2.2) ((0 : Int32), I, F, hs) := by
  refine gL_inv (fun j v => v.1 = nI j ∧ v.2.1 = I ∧ v.2.2.2 = hs ∧ (∀ r, r ≠ 15 → v.2.2.1 r = F r) ∧ ∀ x, x < n → v.2.2.1 15 x = if x < j then rs (F 15 x) y else F 15 x) n ?_ ?_ ⟨rfl, rfl, rfl, fun _ _ => rfl, fun x hx => (if_neg (by omega)).symm⟩
  · rintro j hj ⟨x1, J, L, hz⟩ ⟨g1, g2, gz, g3, g4⟩ again hag
    dsimp only at g1 g2 gz g3 g4 ⊢
    subst g1
    subst g2
    subst gz
    unfold w_X9_shift_B27 w_X9_shiftedTones
    rw [h8]
    have hv : vp_in (nI j) 8 := vp_in_nI (by omega) (by decide)
    refine ⟨fun q => absurd ((nI_leI (a := n) (b := j) (by omega) (by omega)).mp q) (by omega), fun _ => ⟨hv, hv, fun F3 e3 => hag _ ⟨nI_1 j, rfl, rfl, fun r hr => ?_, fun x hx => ?_⟩⟩⟩
    · show F3 r = F r
      rw [e3, upF_n _ _ hr]
      exact g3 r hr
    · show F3 15 x = _
      rw [e3, upF_s, nI_clamp (by omega)]
      by_cases e : x = j
      · subst e
        have n1 : ¬ x < x := by omega
        have n2 : x < x + 1 := by omega
        rw [pk_us, g4 x hx, if_neg n1, if_pos n2]
        rfl
      · rw [pk_un e, g4 x hx]
        by_cases e2 : x < j
        · have n2 : x < j + 1 := by omega
          rw [if_pos e2, if_pos n2]
        · have n2 : ¬ x < j + 1 := by omega
          rw [if_neg e2, if_neg n2]
  · rintro ⟨x1, J, L, hz⟩ ⟨g1, g2, gz, g3, g4⟩ again
    dsimp only at g1 g2 gz g3 g4 ⊢
    subst g1
    subst g2
    subst gz
    unfold w_X9_shift_B27
    rw [h8]
    exact ⟨fun _ => hp _ L g3 (fun x hx => by rw [g4 x hx, if_pos hx]), fun q => absurd (Int32.le_refl _) q⟩
theorem j_shift {i : Nat} {a : Int32} {Ic Im : Nat → Int32} {Fc Fm : Nat → Nat → Int32} {hm : Int64} (h : RR i Ic Fc Im Fm) : w_X8_shift a Ic Fc (fun r Ic2 Fc2 => w_X9_shift a Im Fm hm (fun r2 Im2 Fm2 hm2 => r = r2 ∧ hm2 = hm ∧ RR i Ic2 Fc2 Im2 Fm2)) := by
  have h0 := h
  obtain ⟨n, b, g, w, p, s, hB, hC⟩ := h
  obtain ⟨hn, hb, hg, hw, hp, hs, ⟨c8, m3, c7, m4, hPR⟩, -, -, -, -, hT, hM⟩ := id hB
  unfold w_X8_shift w_X9_shift
  rcases shift_cases (a := a) (Ic := Ic) (Im := Im) (Fc := Fc) (Fm := Fm) with ⟨y, hy, e, q1, q2⟩ | ⟨q1, q2⟩
  · refine q1 _ ⟨fun _ => ?_, fun q => absurd q (by decide)⟩
    rw [c8, nI_is0 (by omega)]
    refine ⟨fun hn0 => ?_, fun hn0 => q2 _ _ ⟨fun _ => m_lacks0 m3 hn (fun z => absurd hn0 (by omega)) (fun _ => ⟨fun q => absurd q (by decide), fun _ => ⟨rfl, rfl, h0⟩⟩), fun q => absurd q (by decide)⟩⟩
    have hn1 : 0 < n := by omega
    refine s_raise hn c8 (fun F2 f1 f18 => ?_)
    unfold w_X3_makeStale_9
    intro I7 d7 I8 d8
    have k1 : ∀ j, j ≠ 15 → j ≠ 16 → I8 j = Ic j := fun j h2 h3 => by rw [d8, pk_un h3, d7, pk_un h2]
    refine s_fewest0 hn hb (by rw [k1 8 (by decide) (by decide)]; exact c8) (by rw [k1 7 (by decide) (by decide)]; exact c7) (by rw [f1 25 (by decide)]; exact hT) (Or.inl (by rw [d8, pk_un (by decide), d7, pk_us])) (fun I2 F3 a1 a2 a3 => q2 _ _ ⟨fun _ => m_lacks0 m3 hn (fun _ => ⟨fun _ => m_raise hn m3 (fun z G2 f2 f15 J12 t12 => ?_), fun q => absurd rfl q⟩) (fun z => absurd hn1 (by omega)), fun q => absurd q (by decide)⟩)
    have k2 : ∀ j, j ≠ 6 → J12 j = Im j := fun j h2 => by rw [t12, pk_un h2]
    have hPR2 : PR n (F2 17) (F2 18) (G2 14) (G2 15) := by
      intro x hx
      rw [f1 17 (by decide), f2 14 (by decide), f18 x hx, f15 x hx, (hPR x hx).1.1, (hPR x hx).1.2]
      exact ⟨⟨rfl, rfl⟩, rs_lt _ _⟩
    have hB2 : RB i n b g w p s I8 F2 J12 G2 := RR_stale hB hn hb ⟨by rw [k1 8 (by decide) (by decide)]; exact c8, by rw [k2 3 (by decide)]; exact m3, by rw [k1 7 (by decide) (by decide)]; exact c7, by rw [k2 4 (by decide)]; exact m4, hPR2⟩ (fun j hj => k1 j (fun z => by subst z; exact absurd hj (by decide)) (fun z => by subst z; exact absurd hj (by decide))) (fun j hj => f1 j (fun z => by subst z; exact absurd hj (by decide))) (fun j hj => k2 j (fun z => by subst z; exact absurd hj (by decide))) (fun j hj => f2 j (fun z => by subst z; exact absurd hj (by decide)))
    have hC2 : RCac n b I8 F2 J12 G2 := RC_stale (by rw [d8, pk_un (by decide), d7, pk_us]) (by rw [d8, pk_us]) (by rw [t12, pk_us])
    exact m_plan0 (mTab_of (fun r hr => f2 r (by omega)) hM) hn hn1 (by rw [k2 3 (by decide)]; exact m3) (by rw [k2 4 (by decide)]; exact m4) hb (hC2.2.2 hn1) (fun I3 F4 b1 b2 b3 => ⟨fewI_congr 0 b (PR_EQ hPR2), rfl, RR_plan hB2 hC2 a1 a2 a3 b1 b2 (fun _ => b3)⟩)
  · exact q1 _ ⟨fun q => absurd rfl q, fun _ => q2 _ _ ⟨fun q => absurd rfl q, fun _ => ⟨rfl, rfl, h0⟩⟩⟩
