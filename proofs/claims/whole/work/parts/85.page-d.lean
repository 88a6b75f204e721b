/-! joint: fault, part -/
theorem RR_up {i : Nat} {Ic Im : Nat → Int32} {Fc Fm : Nat → Nat → Int32} (h : RR i Ic Fc Im Fm) : RR (i + 1) Ic Fc Im Fm := by
  obtain ⟨n, b, g, w, p, s, ⟨hn, hb, hg, hw, hp, hr⟩, hC⟩ := h
  exact ⟨n, b, g, w, p, s, ⟨hn, hb, hg, hw, by omega, hr⟩, hC⟩
theorem RR_read {i n b g w p s : Nat} {Ic Ic2 : Nat → Int32} {Fc Fc2 : Nat → Nat → Int32} {Im Im2 : Nat → Int32} {Fm Fm2 : Nat → Nat → Int32} (h : RB i n b g w p s Ic Fc Im Fm) (hc : RCac n b Ic Fc Im Fm) (a1 : kI [3, 4, 5, 6] Ic Ic2) (a2 : kF [15, 16] Fc Fc2) (b1 : kI [1, 2] Im Im2) (b2 : kF [12, 13] Fm Fm2) : RR i Ic2 Fc2 Im2 Fm2 :=
  ⟨n, b, g, w, p, s, RB_keep h (sI_of a1 (by decide)) (sF_of a2 (by decide)) (sI_of b1 (by decide)) (sF_of b2 (by decide)), cacheF_keep (sI_of a1 (by decide)) (sF_of a2 (by decide)) hc.1, cacheB_keep (sI_of a1 (by decide)) (sF_of a2 (by decide)) hc.2.1, fun z => cacheM_keep (sI_of b1 (by decide)) (sF_of b2 (by decide)) (hc.2.2 z)⟩
theorem pg_codes {g : Nat} {Ic Im : Nat → Int32} {Fc Fm : Nat → Nat → Int32} (h : RPage g Ic Fc Im Fm) : ∃ G : Nat → Nat, (∀ x, x < g → Fc 14 x = nI (G x) ∧ G x ≤ 126) ∧ ∀ x, x < g → Fm 11 x = nI (G x) ∧ G x ≤ 126 := by
  obtain ⟨-, -, h3⟩ := h
  refine ⟨fun x => (Fc 14 x).toNatClampNeg, fun x hx => ?_, fun x hx => ?_⟩
  · obtain ⟨e, c, c1, c2, c3⟩ := h3 x hx
    show Fc 14 x = nI (Fc 14 x).toNatClampNeg ∧ (Fc 14 x).toNatClampNeg ≤ 126
    rw [c3, nI_clamp (by omega)]
    exact ⟨rfl, c2⟩
  · obtain ⟨e, c, c1, c2, c3⟩ := h3 x hx
    show Fm 11 x = nI (Fc 14 x).toNatClampNeg ∧ (Fc 14 x).toNatClampNeg ≤ 126
    rw [← e, c3, nI_clamp (by omega)]
    exact ⟨rfl, c2⟩
theorem j_fault {i : Nat} {Ic Im : Nat → Int32} {Fc Fm : Nat → Nat → Int32} {hm : Int64} (h : RR i Ic Fc Im Fm) : w_X8_fault Ic Fc (fun r Ic2 Fc2 => w_X9_fault Im Fm hm (fun r2 Im2 Fm2 hm2 => r = r2 ∧ hm2 = hm ∧ RR i Ic2 Fc2 Im2 Fm2)) := by
  obtain ⟨n, b, g, w, p, s, hB, hC⟩ := h
  obtain ⟨hn, hb, hg, hw, hp, hs, hPt, hPg, hSn, hCn, hKp, hT⟩ := id hB
  obtain ⟨G, g1, g2⟩ := pg_codes hPg
  obtain ⟨j, st, hj, hst, he⟩ := pg_stop G g
  unfold w_X8_fault w_X9_fault
  exact s_readBy hg g1 hPg.1 hj hst he (fun I2 F2 a1 a2 a3 => m_faultOf hg g2 hPg.2.1 hj hst he (fun I3 F3 b1 b2 b3 => ⟨rfl, rfl, RR_read hB hC a1 a2 b1 b2⟩))
theorem m_partLoop {G : Nat → Nat} {g : Nat} {I : Nat → Int32} {F : Nat → Nat → Int32} {hs : Int64} {kk : Int32 → (Nat → Int32) → (Nat → Nat → Int32) → Int64 → Prop} (hg7 : 7 ≤ g) (hG : ∀ x, x < g → F 11 x = nI (G x) ∧ G x ≤ 126) (hd : ∀ x, x < 7 → 48 ≤ G x) (h4 : I 4 = 0)
    (hp : ∀ y I2, (∀ j, j ≠ 4 → I2 j = I j) → I2 4 = nI (pg_bg G 7) → kk y I2 F hs) : gL (fun ag v => w_X9_part_B29 kk (fun b0 b1 b2 b3 => ag (b0, b1, b2, b3)) v.1 v.2.1 v.2.2.1 v.2.2.2) ((0 : Int32), I, F, hs) := by
  refine gL_inv (fun i v => v.1 = nI i ∧ (∀ j, j ≠ 4 → v.2.1 j = I j) ∧ v.2.1 4 = nI (pg_bg G i) ∧ v.2.2.1 = F ∧ v.2.2.2 = hs) 7 ?_ ?_ ⟨rfl, fun _ _ => rfl, h4, rfl, rfl⟩
  · rintro i hi ⟨x1, J, L, z⟩ ⟨g1, gI, g4, gF, gz⟩ again hag
    dsimp only at g1 gI g4 gF gz ⊢
    subst g1 gF gz
    unfold w_X9_part_B29
    refine ⟨fun q => absurd ((le_lit (c := 7) (by decide) (by omega) (by omega)).mp q) (by omega), fun _ => ⟨vp_in_nI (by omega) (by decide), fun I2 e2 => hag _ ⟨nI_1 i, fun j hj => ?_, ?_, rfl, rfl⟩⟩⟩
    · show I2 j = I j
      rw [e2, pk_un hj]
      exact gI j hj
    · show I2 4 = nI (3 * pg_bg G i + (G i - 48))
      have := hd i hi
      rw [e2, pk_us, g4, nI_clamp (by omega), (hG i (by omega)).1, show (3 : Int32) = nI 3 by decide, pk_mul, nI_add, show (48 : Int32) = nI 48 by decide, pk_sub (by omega)]
      exact congrArg nI (by omega)
  · rintro ⟨x1, J, L, z⟩ ⟨g1, gI, g4, gF, gz⟩ again
    dsimp only at g1 gI g4 gF gz ⊢
    subst g1 gF gz
    unfold w_X9_part_B29
    exact ⟨fun _ => hp _ J gI g4, fun q => absurd (by decide) q⟩
theorem j_part {i : Nat} {Ic Im : Nat → Int32} {Fc Fm : Nat → Nat → Int32} {hm : Int64} (hi : i < 1000000) (h : RR i Ic Fc Im Fm) : w_X8_part Ic Fc (fun r Ic2 Fc2 => w_X9_part Im Fm hm (fun r2 Im2 Fm2 hm2 => r = r2 ∧ hm2 = hm ∧ RR (i + 1) Ic2 Fc2 Im2 Fm2)) := by
  obtain ⟨n, b, g, w, p, s, hB, hC⟩ := h
  obtain ⟨hn, hb, hg, hw, hp, hs, hPt, hPg, hSn, ⟨c0, m5, c1, m10⟩, ⟨hk1, hk2⟩, hT, hM⟩ := id hB
  obtain ⟨G, g1, g2⟩ := pg_codes hPg
  obtain ⟨j, st, hj, hst, he⟩ := pg_stop G g
  have hP := pg_rsP j st hst
  obtain ⟨m, hh, K, T⟩ := st
  obtain ⟨p1, p2, p3, p4, p5, p6, p7, p8, p9⟩ := hP
  dsimp only at p1 p2 p3 p4 p5 p6 p7 p8
  unfold w_X8_part w_X9_part
  refine s_readBy hg g1 hPg.1 hj hst he (fun I2 F2 a1 a2 a3 => ?_)
  obtain ⟨d3, d4, d4', d5, d6, dT⟩ := a3
  dsimp only at d4 d4' d6 dT
  have i2 : I2 2 = nI g := by rw [a1 2 (by decide)]; exact hPg.1
  rw [i2, nI_ltI (by omega) (by omega)]
  have fail : (j < g ∨ hh < 2) → w_X9_faultOf Im Fm hm (fun (r3 : Int32) (I4 : Nat → Int32) (F5 : Nat → Nat → Int32) (hs6 : Int64) => ((r3 < (I4 0) → ((-103 : Int32) = (-103 : Int32) ∧ hs6 = hm ∧ RR (i + 1) I2 F2 I4 F5)) ∧ (¬ r3 < (I4 0) → (((2 : Int32) ≤ (I4 2) → ∀ I9 : Nat → Int32, I9 = upd I4 4 (0 : Int32) → gL (fun ag v => w_X9_part_B29  (fun (y10 : Int32) (I11 : Nat → Int32) (F12 : Nat → Nat → Int32) (hs13 : Int64) => ∀ I14 : Nat → Int32, I14 = upd I11 3 (I11 1) → w_X9_copy_12_14 I14 F12 hs13 (fun (I15 : Nat → Int32) (F16 : Nat → Nat → Int32) (hs17 : Int64) => w_X9_copy_13_15 I15 F16 hs17 (fun (I18 : Nat → Int32) (F19 : Nat → Nat → Int32) (hs20 : Int64) => ∀ I21 : Nat → Int32, I21 = upd I18 11 (0 : Int32) → ∀ I22 : Nat → Int32, I22 = upd I21 5 ((I21 5) + (1 : Int32)) → ∀ I23 : Nat → Int32, I23 = upd I22 0 (0 : Int32) → ∀ I24 : Nat → Int32, I24 = upd I23 6 (1 : Int32) → ((-103 : Int32) = (I24 3) ∧ hs20 = hm ∧ RR (i + 1) I2 F2 I24 F19)))) (fun b0 b1 b2 b3 => ag (b0, b1, b2, b3)) v.1 v.2.1 v.2.2.1 v.2.2.2) ((0 : Int32), I9, F5, hs6)) ∧ (¬ (2 : Int32) ≤ (I4 2) → ((-103 : Int32) = (-103 : Int32) ∧ hs6 = hm ∧ RR (i + 1) I2 F2 I4 F5)))))) := by
    intro hf
    refine m_faultOf hg g2 hPg.2.1 hj hst he (fun I3 F3 b1 b2 b3 => ?_)
    have fin : (-103 : Int32) = (-103 : Int32) ∧ hm = hm ∧ RR (i + 1) I2 F2 I3 F3 := ⟨rfl, rfl, RR_up (RR_read hB hC a1 a2 b1 b2)⟩
    have j0 : I3 0 = nI g := by rw [b1 0 (by decide)]; exact hPg.2.1
    rw [j0, nI_ltI (by omega) (by omega)]
    refine ⟨fun _ => fin, fun q => ⟨fun q2 => ?_, fun _ => fin⟩⟩
    exfalso
    rw [(b3 (by omega)).2.1] at q2
    have q2' := (le_lit (c := 2) (n := hh) (by decide) (by omega) (by omega)).mp q2
    omega
  refine ⟨fun q => fail (Or.inl q), fun q => ?_⟩
  have ejg : j = g := by omega
  unfold w_X5_isWhole_2
  refine ⟨fun q4 => ⟨fun z => absurd rfl z, fun _ => fail (Or.inr ?_)⟩, fun q4 => ?_⟩
  · by_cases z : hh = 0
    · omega
    · exact absurd (d4' z) q4
  have e0 : hh ≠ 0 := fun z => by rw [d4 z] at q4; exact absurd q4 (by decide)
  obtain ⟨m0, pc⟩ := p5 e0
  refine pg_last m0 p1 d6 ?_
  rw [(dT (m - 1) (by omega)).2, nI_is0 (by have := p8 (m - 1) (by omega); omega)]
  refine ⟨fun z => ⟨fun y => absurd rfl y, fun _ => fail (Or.inr ?_)⟩, fun z => ⟨fun _ => ?_, fun y => absurd y (by decide)⟩⟩
  · apply Classical.byContradiction
    intro y
    have := (p7 (by omega)).2.2.1
    have := Nat.two_pow_pos (G (j - 1) - 97)
    omega
  have h2 : 2 ≤ hh := by
    by_cases y : hh = 1
    · exact absurd (p6 y) z
    · omega
  have j9 : 8 < j := by
    apply Classical.byContradiction
    intro y
    have := (p3 (by omega)).2
    omega
  unfold w_X2_become_4_3 w_X3_makeStale_9 w_X6_clear_6 w_X2_clear_5 w_X1_clear_1
  intro I7 e7 I8 e8 F9 e9 F10 e10 I11 e11 I12 e12 v13 e13 I14 e14 I15 e15 I16 e16 v17 e17 I18 e18 I19 e19
  refine m_faultOf hg g2 hPg.2.1 hj hst he (fun I3 F3 b1 b2 b3 => ?_)
  obtain ⟨y1, y2, yT⟩ := b3 ejg
  dsimp only at y1 y2 yT
  have j0 : I3 0 = nI g := by rw [b1 0 (by decide)]; exact hPg.2.1
  rw [j0, nI_ltI (by omega) (by omega), y2, le_lit (c := 2) (by decide) (by omega) (by omega)]
  refine ⟨fun q => absurd q (by omega), fun _ => ⟨fun _ J9 t9 => ?_, fun q => absurd h2 q⟩⟩
  refine m_partLoop (G := G) (g := g) (by omega) (fun x hx => by rw [b2 11 (by decide)]; exact g2 x hx) (fun x hx => (p9 x (by omega) hx).1) (by rw [t9, pk_us]) (fun y J1 u1 u4 J14 t14 => m_copy_12_14 (fun L1 l1 l2 => m_copy_13_15 (fun L2 l3 l4 J21 t21 J22 t22 J23 t23 J24 t24 => ?_)))
  have k1 : ∀ j, j ≠ 7 → j ≠ 8 → j ≠ 15 → j ≠ 16 → j ≠ 11 → j ≠ 9 → j ≠ 10 → j ≠ 2 → j ≠ 0 → j ∉ [3, 4, 5, 6] → I19 j = Ic j := fun j h1 h2 h3 h4 h5 h6 h7 h8 h9 h10 => by rw [e19, pk_un h9, e18, pk_un h8, e16, pk_un h7, e15, pk_un h6, e14, pk_un h5, e12, pk_un h4, e11, pk_un h3, e8, pk_un h2, e7, pk_un h1]; exact a1 j h10
  have k2 : ∀ j, j ≠ 4 → j ≠ 3 → j ≠ 11 → j ≠ 5 → j ≠ 0 → j ≠ 6 → j ∉ [1, 2] → J24 j = Im j := fun j h1 h2 h3 h4 h5 h6 h7 => by rw [t24, pk_un h6, t23, pk_un h5, t22, pk_un h4, t21, pk_un h3, t14, pk_un h2, u1 j h1, t9, pk_un h1]; exact b1 j h7
  have f1 : ∀ r, r ≠ 17 → r ≠ 18 → r ∉ [15, 16] → F10 r = Fc r := fun r h1 h2 h3 => by rw [e10, upF_n _ _ h2, e9, upF_n _ _ h1]; exact a2 r h3
  have f2 : ∀ r, r ≠ 14 → r ≠ 15 → r ∉ [12, 13] → L2 r = Fm r := fun r h1 h2 h3 => by rw [l3 r h2, l1 r h1]; exact b2 r h3
  have v8 : I19 8 = nI m := by
    rw [e19, pk_un (by decide), e18, pk_un (by decide), e16, pk_un (by decide), e15, pk_un (by decide), e14, pk_un (by decide), e12, pk_un (by decide), e11, pk_un (by decide), e8, pk_us, e7, pk_un (by decide)]
    exact d6
  have v7 : I19 7 = nI (pg_bg G 7) := by
    rw [e19, pk_un (by decide), e18, pk_un (by decide), e16, pk_un (by decide), e15, pk_un (by decide), e14, pk_un (by decide), e12, pk_un (by decide), e11, pk_un (by decide), e8, pk_un (by decide), e7, pk_us, d5, show min j 7 = 7 by omega]
  have w3 : J24 3 = nI m := by
    rw [t24, pk_un (by decide), t23, pk_un (by decide), t22, pk_un (by decide), t21, pk_un (by decide), t14, pk_us, u1 1 (by decide), t9, pk_un (by decide)]
    exact y1
  have w4 : J24 4 = nI (pg_bg G 7) := by
    rw [t24, pk_un (by decide), t23, pk_un (by decide), t22, pk_un (by decide), t21, pk_un (by decide), t14, pk_un (by decide)]
    exact u4
  have v0 : I19 0 = nI (p + 1) := by
    rw [e19, pk_us, e18, pk_un (by decide), e16, pk_un (by decide), e15, pk_un (by decide), e14, pk_un (by decide), e12, pk_un (by decide), e11, pk_un (by decide), e8, pk_un (by decide), e7, pk_un (by decide), a1 0 (by decide), c0, nI_1]
  have w5 : J24 5 = nI (p + 1) := by
    rw [t24, pk_un (by decide), t23, pk_un (by decide), t22, pk_us, t21, pk_un (by decide), t14, pk_un (by decide), u1 5 (by decide), t9, pk_un (by decide), b1 5 (by decide), m5, nI_1]
  have w14 : J24 14 = Im 14 := k2 14 (by decide) (by decide) (by decide) (by decide) (by decide) (by decide) (by decide)
  have ne : ¬ J24 14 = J24 5 := by
    rw [w14, w5]
    rcases hk1 with z | ⟨e, z1, z2⟩
    · rw [z]
      intro y
      have := congrArg Int32.toInt y
      rw [nI_toInt (by omega), show (-1 : Int32).toInt = -1 by decide] at this
      omega
    · rw [z2]
      intro y
      have := (nI_eq (by omega) (by omega)).mp y
      omega
  have bl := pg_bgL (G := G) 7 (fun x hx => p9 x (by omega) hx)
  refine ⟨by rw [v8, w3], rfl, m, pg_bg G 7, 0, 0, p + 1, s, ⟨p1, bl, by omega, by omega, by omega, hs, ⟨v8, w3, v7, w4, ?_⟩, ⟨?_, ?_, fun k hk => absurd hk (by omega)⟩, ⟨?_, ?_, fun k hk => absurd hk (by omega)⟩, ⟨v0, w5, ?_, ?_⟩, ⟨?_, Or.inl ⟨?_, ne⟩⟩, ?_, ?_⟩, RC_stale ?_ ?_ ?_⟩
  · intro k hk
    have ek : F10 17 k = nI (K k) := by
      rw [e10, upF_n _ _ (by decide), e9, upF_s]
      rw [show va_cpy (F2 15) (F2 17) ((0 : Int32)).toNatClampNeg ((0 : Int32)).toNatClampNeg ((8 : Int32)).toNatClampNeg k = F2 15 k from cpy0 (by show k < 8; omega)]
      exact (dT k hk).1
    have et : F10 18 k = nI (T k) := by
      rw [e10, upF_s, e9, upF_n _ _ (by decide)]
      rw [show va_cpy (F2 16) (upF F2 17 _ 18) ((0 : Int32)).toNatClampNeg ((0 : Int32)).toNatClampNeg ((8 : Int32)).toNatClampNeg k = F2 16 k from cpy0 (by show k < 8; omega)]
      exact (dT k hk).2
    have el : L2 14 k = nI (K k) := by
      rw [l3 14 (by decide), l2 k (by omega)]
      exact (yT k hk).1
    have em : L2 15 k = nI (T k) := by
      rw [l4 k (by omega), l1 13 (by decide)]
      exact (yT k hk).2
    rw [ek, et, el, em]
    exact ⟨⟨rfl, rfl⟩, T k, p8 k hk, rfl⟩
  · rw [e19, pk_un (by decide), e18, pk_us]; rfl
  · rw [t24, pk_un (by decide), t23, pk_us]; rfl
  · rw [e19, pk_un (by decide), e18, pk_un (by decide), e16, pk_un (by decide), e15, pk_un (by decide), e14, pk_us]; rfl
  · rw [t24, pk_un (by decide), t23, pk_un (by decide), t22, pk_un (by decide), t21, pk_us]; rfl
  · rw [k1 1 (by decide) (by decide) (by decide) (by decide) (by decide) (by decide) (by decide) (by decide) (by decide) (by decide)]; exact c1
  · rw [k2 10 (by decide) (by decide) (by decide) (by decide) (by decide) (by decide) (by decide)]; exact m10
  · rw [w14]
    rcases hk1 with z | ⟨e, z1, z2⟩
    · exact Or.inl z
    · exact Or.inr ⟨e, by omega, z2⟩
  · rw [e19, pk_un (by decide), e18, pk_un (by decide), e16, pk_us]
  · rw [f1 25 (by decide) (by decide) (by decide)]; exact hT
  · exact mTab_of (fun r hr => f2 r (by omega) (by omega) (by simp; omega)) hM
  · rw [e19, pk_un (by decide), e18, pk_un (by decide), e16, pk_un (by decide), e15, pk_un (by decide), e14, pk_un (by decide), e12, pk_un (by decide), e11, pk_us]
  · rw [e19, pk_un (by decide), e18, pk_un (by decide), e16, pk_un (by decide), e15, pk_un (by decide), e14, pk_un (by decide), e12, pk_us]
  · rw [t24, pk_us]
