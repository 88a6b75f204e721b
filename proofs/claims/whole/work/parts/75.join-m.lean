/-! joint: chord, count -/
theorem j_chord {i : Nat} {a a2 : Int32} {Ic Im : Nat → Int32} {Fc Fm : Nat → Nat → Int32} {hm : Int64} (h : RR i Ic Fc Im Fm) : w_X8_chord a a2 Ic Fc (fun r => w_X9_chord a a2 Im Fm hm (fun r2 Im2 Fm2 hm2 => r = r2 ∧ hm2 = hm ∧ RR i Ic Fc Im2 Fm2)) := by
  have h0 := h
  obtain ⟨n, b, g, w, p, s, hB, hC⟩ := h
  obtain ⟨hn, hb, hg, hw, hp, hs, ⟨c8, m3, c7, m4, hPR⟩, hPg, ⟨c11, m11, hSR⟩, hCn, hKp, hT, hM⟩ := id hB
  unfold w_X8_chord w_X9_chord
  rcases has_cases (a := a) (Fc := Fc) (Fm := Fm) hn c8 m3 with ⟨k, hk, e⟩ | ⟨q1, q2⟩
  · subst e
    have hv : vp_in (nI k) 8 := vp_in_nI (by omega) (by decide)
    obtain ⟨⟨z1, z2⟩, -⟩ := hPR k hk
    refine s_has hn c8 hk ⟨fun _ => ?_, fun q => absurd q (by decide)⟩
    unfold w_X9_tellChord
    rw [nI_clamp (by omega)]
    refine ⟨fun e => ⟨hv, ?_⟩, fun e => ⟨hv, ?_⟩, fun e => ⟨hv, hv, ?_⟩, fun e => ⟨hv, hv, ?_⟩, fun e => ?_, fun e => ?_, fun n0 n1 n2 n3 n4 n5 => ?_⟩
    · subst e
      exact m_isChord hn m3 hk ⟨fun q => absurd q (by decide), fun _ => ⟨fun _ => ⟨hv, z1, rfl, h0⟩, fun x => absurd x (by decide), fun x => absurd x (by decide), fun x => absurd x (by decide), fun x => absurd x (by decide), fun x => absurd x (by decide), fun x => absurd rfl x⟩⟩
    · subst e
      exact m_isChord hn m3 hk ⟨fun q => absurd q (by decide), fun _ => ⟨fun x => absurd x (by decide), fun _ => ⟨hv, z2, rfl, h0⟩, fun x => absurd x (by decide), fun x => absurd x (by decide), fun x => absurd x (by decide), fun x => absurd x (by decide), fun _ x => absurd rfl x⟩⟩
    · subst e
      exact s_many hT (m_isChord hn m3 hk ⟨fun q => absurd q (by decide), fun _ => ⟨fun x => absurd x (by decide), fun x => absurd x (by decide), fun _ => m_fitting hM hn hk m3 m4 hb (hC.2.2 (by omega)) (fun I2 F2 f b1 b2 b3 ef => ⟨fun _ => ⟨by rw [ef, z1, z2], rfl, RR_plan hB hC (fun _ _ => rfl) (fun _ _ => rfl) hC.1 b1 b2 (fun _ => b3)⟩, fun x => absurd rfl x⟩), fun x => absurd x (by decide), fun x => absurd x (by decide), fun x => absurd x (by decide), fun _ _ x => absurd rfl x⟩⟩)
    · subst e
      refine s_leastFit hT (fun fc ec => m_isChord hn m3 hk ⟨fun q => absurd q (by decide), fun _ => ⟨fun x => absurd x (by decide), fun x => absurd x (by decide), fun x => absurd x (by decide), fun _ => m_fitting hM hn hk m3 m4 hb (hC.2.2 (by omega)) (fun I2 F2 f b1 b2 b3 ef => ⟨fun x => absurd x (by decide), fun _ => ⟨?_, rfl, RR_plan hB hC (fun _ _ => rfl) (fun _ _ => rfl) hC.1 b1 b2 (fun _ => b3)⟩⟩), fun x => absurd x (by decide), fun x => absurd x (by decide), fun _ _ _ x => absurd rfl x⟩⟩)
      have : f = fc := by rw [ef, ec, z1, z2]
      rw [this]
    · subst e
      exact s_sorts hw c11 (m_isChord hn m3 hk ⟨fun q => absurd q (by decide), fun _ => ⟨fun x => absurd x (by decide), fun x => absurd x (by decide), fun x => absurd x (by decide), fun x => absurd x (by decide), fun _ => m_sorts hw m11 hSR ⟨rfl, rfl, h0⟩, fun x => absurd x (by decide), fun _ _ _ _ x => absurd rfl x⟩⟩)
    · subst e
      exact s_ask hw c11 (fun t ht et => m_isChord hn m3 hk ⟨fun q => absurd q (by decide), fun _ => ⟨fun x => absurd x (by decide), fun x => absurd x (by decide), fun x => absurd x (by decide), fun x => absurd x (by decide), fun x => absurd x (by decide), fun _ => m_ask hw m11 hSR ht et ⟨rfl, rfl, h0⟩, fun _ _ _ _ _ x => absurd rfl x⟩⟩)
    · exact m_isChord hn m3 hk ⟨fun q => absurd q (by decide), fun _ => ⟨fun x => absurd x n0, fun x => absurd x n1, fun x => absurd x n2, fun x => absurd x n3, fun x => absurd x n4, fun x => absurd x n5, fun _ _ _ _ _ _ => ⟨rfl, rfl, h0⟩⟩⟩
  · exact q1 _ ⟨fun q => absurd rfl q, fun _ => q2 _ _ ⟨fun _ => ⟨rfl, rfl, h0⟩, fun q => absurd rfl q⟩⟩
def orN (T : Nat → Int32) : Nat → Int32
  | 0 => 0
  | j + 1 => orN T j ||| T j
theorem orN_congr {T T2 : Nat → Int32} : ∀ n, (∀ i, i < n → T i = T2 i) → orN T n = orN T2 n
  | 0, _ => rfl
  | n + 1, h => by
    show orN T n ||| T n = orN T2 n ||| T2 n
    rw [orN_congr n (fun i hi => h i (by omega)), h n (by omega)]
theorem orN_lt {T : Nat → Int32} : ∀ n, (∀ i, i < n → ∃ t, t < 4096 ∧ T i = nI t) → ∃ t, t < 4096 ∧ orN T n = nI t
  | 0, _ => ⟨0, by omega, rfl⟩
  | n + 1, h => by
    obtain ⟨t, ht, e⟩ := orN_lt n (fun i hi => h i (by omega))
    obtain ⟨u, hu, e2⟩ := h n (by omega)
    refine ⟨t ||| u, Nat.or_lt_two_pow (n := 12) ht hu, ?_⟩
    show orN T n ||| T n = _
    rw [e, e2, fa_or]
theorem s_tonesAll {n : Nat} {I : Nat → Int32} {F : Nat → Nat → Int32} {post : Int32 → Prop} (hn : n ≤ 8) (h8 : I 8 = nI n) (h : post (orN (F 18) n)) : w_X2_tonesOfAll_4 I F post := by
  unfold w_X2_tonesOfAll_4
  refine gL_inv (fun j v => v.2 = nI j ∧ v.1 = orN (F 18) j) n ?_ ?_ ⟨rfl, rfl⟩
  · rintro j hj ⟨x1, x2⟩ ⟨g2, g1⟩ again hag
    dsimp only at g1 g2 ⊢
    subst g1
    subst g2
    unfold w_X2_tonesOfAll_4_B4
    rw [h8, nI_clamp (by omega)]
    exact ⟨fun q => absurd ((nI_leI (a := n) (b := j) (by omega) (by omega)).mp q) (by omega), fun _ => ⟨vp_in_nI (by omega) (by decide), fun v2 e2 => hag _ ⟨nI_1 j, e2⟩⟩⟩
  · rintro ⟨x1, x2⟩ ⟨g2, g1⟩ again
    dsimp only at g1 g2 ⊢
    subst g1
    subst g2
    unfold w_X2_tonesOfAll_4_B4
    rw [h8]
    exact ⟨fun _ => h, fun q => absurd (Int32.le_refl _) q⟩
theorem m_tonesAll {n t : Nat} {I : Nat → Int32} {F : Nat → Nat → Int32} {hs : Int64} {post : Int32 → Prop} (hn : n ≤ 8) (h8 : I 3 = nI n) (ht : t < 4096) (e : orN (F 15) n = nI t) (h : post (nI (pcn t 12))) : w_X9_tonesAll I F hs post := by
  unfold w_X9_tonesAll
  refine gL_inv (fun j v => v.2 = nI j ∧ v.1 = orN (F 15) j) n ?_ ?_ ⟨rfl, rfl⟩
  · rintro j hj ⟨x1, x2⟩ ⟨g2, g1⟩ again hag
    dsimp only at g1 g2 ⊢
    subst g1
    subst g2
    unfold w_X9_tonesAll_B4
    rw [h8, nI_clamp (by omega)]
    exact ⟨fun q => absurd ((nI_leI (a := n) (b := j) (by omega) (by omega)).mp q) (by omega), fun _ => ⟨vp_in_nI (by omega) (by decide), fun v2 e2 => hag _ ⟨nI_1 j, e2⟩⟩⟩
  · rintro ⟨x1, x2⟩ ⟨g2, g1⟩ again
    dsimp only at g1 g2 ⊢
    subst g1
    subst g2
    unfold w_X9_tonesAll_B4
    rw [h8, e]
    exact ⟨fun _ => m_ones ht h, fun q => absurd (Int32.le_refl _) q⟩
theorem j_count {i : Nat} {a : Int32} {Ic Im : Nat → Int32} {Fc Fm : Nat → Nat → Int32} {hm : Int64} (h : RR i Ic Fc Im Fm) : w_X8_count a Ic Fc (fun r => w_X9_count a Im Fm hm (fun r2 => r = r2)) := by
  obtain ⟨n, b, g, w, p, s, hB, hC⟩ := h
  obtain ⟨hn, hb, hg, hw, hp, hs, ⟨c8, m3, c7, m4, hPR⟩, ⟨c2, m0, hPg⟩, ⟨c11, m11, hSR⟩, ⟨c0, m5, c1, m10⟩, hKp, hT, hM⟩ := id hB
  unfold w_X8_count w_X9_count w_X9_countOf
  refine ⟨fun e => ?_, fun e => ?_, fun e => ?_, fun e => ?_, fun e => ?_, fun e => ?_, fun e => ?_, fun n0 n1 n2 n3 n4 n5 n6 => ?_⟩
  · subst e
    exact ⟨fun _ => by rw [c8, m3], fun x => absurd x (by decide), fun x => absurd x (by decide), fun x => absurd x (by decide), fun x => absurd x (by decide), fun x => absurd x (by decide), fun x => absurd x (by decide), fun x => absurd rfl x⟩
  · subst e
    have go : ∀ r : Int32, (0 < n → r = nI (tellN b 7)) → (n = 0 → r = -1) → (((1 : Int32) = (0 : Int32) → r = Im 3) ∧ ((1 : Int32) = (1 : Int32) → w_X9_lacks Im Fm hm (fun (r2 : Int32) => ((r2 = 0 → w_X9_told (Im 4) Im Fm hm (fun (r4 : Int32) => r = r4)) ∧ (¬ r2 = 0 → r = (-1 : Int32))))) ∧ ((1 : Int32) = (2 : Int32) → w_X9_tonesAll Im Fm hm (fun (r5 : Int32) => r = r5)) ∧ ((1 : Int32) = (3 : Int32) → r = Im 11) ∧ ((1 : Int32) = (4 : Int32) → r = Im 0) ∧ ((1 : Int32) = (5 : Int32) → r = Im 5) ∧ ((1 : Int32) = (6 : Int32) → r = Im 10) ∧ (¬ (1 : Int32) = (0 : Int32) → ¬ (1 : Int32) = (1 : Int32) → ¬ (1 : Int32) = (2 : Int32) → ¬ (1 : Int32) = (3 : Int32) → ¬ (1 : Int32) = (4 : Int32) → ¬ (1 : Int32) = (5 : Int32) → ¬ (1 : Int32) = (6 : Int32) → r = (-102 : Int32))) := by
      intro r h1 h2
      refine ⟨fun x => absurd x (by decide), fun _ => m_lacks0 m3 hn (fun z => ⟨fun _ => ?_, fun x => absurd rfl x⟩) (fun z => ⟨fun x => absurd x (by decide), fun _ => h2 z⟩), fun x => absurd x (by decide), fun x => absurd x (by decide), fun x => absurd x (by decide), fun x => absurd x (by decide), fun x => absurd x (by decide), fun _ x => absurd rfl x⟩
      rw [m4]
      exact m_told hM hb (h1 z)
    rw [c8, nI_is0 (by omega), c7]
    exact ⟨fun z => s_number hb (go _ (fun _ => rfl) (fun x => absurd x z)), fun z => go _ (fun x => absurd z (by omega)) (fun _ => rfl)⟩
  · subst e
    obtain ⟨t, ht, et⟩ := orN_lt (T := Fc 18) n (fun j hj => (hPR j hj).2)
    have et2 : orN (Fm 15) n = nI t := by rw [← et]; exact orN_congr n (fun j hj => (hPR j hj).1.2.symm)
    refine s_tonesAll hn c8 ?_
    rw [et]
    exact s_bits ht ⟨fun x => absurd x (by decide), fun x => absurd x (by decide), fun _ => m_tonesAll hn m3 ht et2 rfl, fun x => absurd x (by decide), fun x => absurd x (by decide), fun x => absurd x (by decide), fun x => absurd x (by decide), fun _ _ x => absurd rfl x⟩
  · subst e
    exact ⟨fun x => absurd x (by decide), fun x => absurd x (by decide), fun x => absurd x (by decide), fun _ => by rw [c11, m11], fun x => absurd x (by decide), fun x => absurd x (by decide), fun x => absurd x (by decide), fun _ _ _ x => absurd rfl x⟩
  · subst e
    exact ⟨fun x => absurd x (by decide), fun x => absurd x (by decide), fun x => absurd x (by decide), fun x => absurd x (by decide), fun _ => by rw [c2, m0], fun x => absurd x (by decide), fun x => absurd x (by decide), fun _ _ _ _ x => absurd rfl x⟩
  · subst e
    exact ⟨fun x => absurd x (by decide), fun x => absurd x (by decide), fun x => absurd x (by decide), fun x => absurd x (by decide), fun x => absurd x (by decide), fun _ => by rw [c0, m5], fun x => absurd x (by decide), fun _ _ _ _ _ x => absurd rfl x⟩
  · subst e
    exact ⟨fun x => absurd x (by decide), fun x => absurd x (by decide), fun x => absurd x (by decide), fun x => absurd x (by decide), fun x => absurd x (by decide), fun x => absurd x (by decide), fun _ => by rw [c1, m10], fun _ _ _ _ _ _ x => absurd rfl x⟩
  · exact ⟨fun x => absurd x n0, fun x => absurd x n1, fun x => absurd x n2, fun x => absurd x n3, fun x => absurd x n4, fun x => absurd x n5, fun x => absurd x n6, fun _ _ _ _ _ _ _ => rfl⟩
