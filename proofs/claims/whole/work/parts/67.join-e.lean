/-! joint: take -/
theorem m_remove {n k : Nat} {I : Nat → Int32} {F : Nat → Nat → Int32} {hs : Int64} {post : (Nat → Int32) → (Nat → Nat → Int32) → Int64 → Prop} (hn : n < 8) (hk : k ≤ n) (h8 : I 3 = nI n)
    (hp : ∀ F2, (∀ r, r ≠ 14 → r ≠ 15 → F2 r = F r) → (∀ x, x < n → F2 14 x = outR (F 14) k n x ∧ F2 15 x = outR (F 15) k n x) → post I F2 hs) : gL (fun ag v => w_X9_take_B34 (fun (y7 : Int32) (I8 : Nat → Int32) (F9 : Nat → Nat → Int32) (hs9 : Int64) => post I8 F9 hs9) (fun b0 b1 b2 b3 => ag (b0, b1, b2, b3)) v.1 v.2.1 v.2.2.1 v.2.2.2) (nI k, I, F, hs) := by
  refine gL_inv (fun j v => v.1 = nI (k + j) ∧ v.2.1 = I ∧ v.2.2.2 = hs ∧ (∀ r, r ≠ 14 → r ≠ 15 → v.2.2.1 r = F r) ∧ (∀ x, x < n → v.2.2.1 14 x = (if x < k + j then outR (F 14) k n x else F 14 x) ∧ v.2.2.1 15 x = (if x < k + j then outR (F 15) k n x else F 15 x)) ∧ v.2.2.1 14 n = F 14 n ∧ v.2.2.1 15 n = F 15 n) (n - k) ?_ ?_ ⟨rfl, rfl, rfl, fun _ _ _ => rfl, fun x hx => ?_, rfl, rfl⟩
  · rintro j hj ⟨x1, J, L, hz⟩ ⟨g1, g2, gz, g3, g4, g5⟩ again hag
    dsimp only at g1 g2 gz g3 g4 g5 ⊢
    subst g1
    subst g2
    subst gz
    unfold w_X9_take_B34
    rw [h8, show nI (k + j) + (1 : Int32) = nI (k + j + 1) from nI_1 _]
    have hv : vp_in (nI (k + j)) 8 := vp_in_nI (by omega) (by decide)
    have hv1 : vp_in (nI (k + j + 1)) 8 := vp_in_nI (by omega) (by decide)
    refine ⟨fun q => absurd ((nI_leI (a := n) (b := k + j) (by omega) (by omega)).mp q) (by omega), fun _ => ⟨hv1, hv, fun F2 e2 => ⟨hv1, hv, fun F3 e3 => hag _ ⟨rfl, rfl, rfl, ?_⟩⟩⟩⟩
    rw [nI_clamp (by omega)] at e2 e3
    rw [nI_clamp (by omega)] at e2 e3
    have f14 : F3 14 = upd (L 14) (k + j) (L 14 (k + j + 1)) := by rw [e3, upF_n _ _ (by decide), e2, upF_s]
    have f15 : F3 15 = upd (L 15) (k + j) (L 15 (k + j + 1)) := by rw [e3, upF_s, e2, upF_n _ _ (by decide)]
    have nx : ∀ x, x = k + j + 1 → L 14 x = F 14 x ∧ L 15 x = F 15 x := by
      intro x hx
      by_cases e : x = n
      · rw [e]; exact g5
      · have := g4 x (by omega)
        have n1 : ¬ x < k + j := by omega
        rw [if_neg n1, if_neg n1] at this
        exact this
    refine ⟨fun r h1 h2 => ?_, fun x hx => ?_, ?_⟩
    · show F3 r = F r
      rw [e3, upF_n _ _ h2, e2, upF_n _ _ h1]
      exact g3 r h1 h2
    · show F3 14 x = _ ∧ F3 15 x = _
      rw [f14, f15]
      by_cases e : x = k + j
      · subst e
        have n1 : k + j < k + (j + 1) := by omega
        have n2 : ¬ k + j < k := by omega
        have n3 : k + j < n := by omega
        rw [pk_us, pk_us, if_pos n1, if_pos n1]
        unfold outR
        rw [if_neg n2, if_neg n2, if_pos n3, if_pos n3]
        exact nx _ rfl
      · rw [pk_un e, pk_un e]
        have := g4 x hx
        by_cases e2 : x < k + j
        · have n1 : x < k + (j + 1) := by omega
          rw [if_pos e2, if_pos e2] at this
          rw [if_pos n1, if_pos n1]
          exact this
        · have n1 : ¬ x < k + (j + 1) := by omega
          rw [if_neg e2, if_neg e2] at this
          rw [if_neg n1, if_neg n1]
          exact this
    · show F3 14 n = _ ∧ F3 15 n = _
      have n1 : n ≠ k + j := by omega
      rw [f14, f15, pk_un n1, pk_un n1]
      exact g5
  · rintro ⟨x1, J, L, hz⟩ ⟨g1, g2, gz, g3, g4, g5⟩ again
    dsimp only at g1 g2 gz g3 g4 g5 ⊢
    subst g1
    subst g2
    subst gz
    unfold w_X9_take_B34
    rw [h8, show k + (n - k) = n by omega]
    refine ⟨fun _ => hp L g3 (fun x hx => ?_), fun q => absurd (Int32.le_refl _) q⟩
    have := g4 x hx
    have n1 : x < k + (n - k) := by omega
    rw [if_pos n1, if_pos n1] at this
    exact this
  · show F 14 x = _ ∧ F 15 x = _
    by_cases e2 : x < k + 0
    · rw [if_pos e2, if_pos e2]
      unfold outR
      have n1 : x < k := by omega
      rw [if_pos n1, if_pos n1]
      exact ⟨rfl, rfl⟩
    · rw [if_neg e2, if_neg e2]
      exact ⟨rfl, rfl⟩
theorem PR_out {n a : Nat} {Kc Tc Km Tm K2 T2 L2 S2 : Nat → Int32} (h : PR (n + 1) Kc Tc Km Tm) (h1 : ∀ x, x < n → K2 x = outR Kc a n x ∧ T2 x = outR Tc a n x) (h2 : ∀ x, x < n → L2 x = outR Km a n x ∧ S2 x = outR Tm a n x) : PR n K2 T2 L2 S2 := by
  intro x hx
  rw [(h1 x hx).1, (h1 x hx).2, (h2 x hx).1, (h2 x hx).2]
  unfold outR
  by_cases e : x < a
  · rw [if_pos e, if_pos e, if_pos e, if_pos e]
    exact h x (by omega)
  · rw [if_neg e, if_neg e, if_neg e, if_neg e, if_pos hx, if_pos hx, if_pos hx, if_pos hx]
    exact h (x + 1) (by omega)
theorem j_take {i : Nat} {a : Int32} {Ic Im : Nat → Int32} {Fc Fm : Nat → Nat → Int32} {hm : Int64} (h : RR i Ic Fc Im Fm) : w_X8_take a Ic Fc (fun r Ic2 Fc2 => w_X9_take a Im Fm hm (fun r2 Im2 Fm2 hm2 => r = r2 ∧ hm2 = hm ∧ RR i Ic2 Fc2 Im2 Fm2)) := by
  have h0 := h
  obtain ⟨n, b, g, w, p, s, hB, hC⟩ := h
  obtain ⟨hn, hb, hg, hw, hp, hs, ⟨c8, m3, c7, m4, hPR⟩, -, -, -, -, hT, hM⟩ := id hB
  unfold w_X8_take w_X9_take
  rcases has_cases (a := a) (Fc := Fc) (Fm := Fm) hn c8 m3 with ⟨k, hk, e⟩ | ⟨q1, q2⟩
  · subst e
    refine s_has hn c8 hk ⟨fun _ => ?_, fun q => absurd q (by decide)⟩
    have e1 : nI n = (1 : Int32) ↔ n = 1 := by
      rw [show (1 : Int32) = nI 1 by decide]
      exact nI_eq (by omega) (by omega)
    rw [c8, m3, e1]
    refine ⟨fun hn1 => ?_, fun hn1 => m_isChord hn m3 hk ⟨fun _ => ⟨fun q => absurd hn1 q, fun _ => ⟨rfl, rfl, h0⟩⟩, fun q => absurd q (by decide)⟩⟩
    unfold w_X2_remove_4
    refine s_has hn c8 hk ⟨fun _ I6 d6 => ?_, fun q => absurd q (by decide)⟩
    obtain ⟨n', rfl⟩ : ∃ n', n = n' + 1 := ⟨n - 1, by omega⟩
    have sub1 : nI (n' + 1) - (1 : Int32) = nI n' := by
      rw [show (1 : Int32) = nI 1 by decide, pk_sub (by omega)]
      exact congrArg nI (by omega)
    rw [c8, sub1] at d6
    refine s_remove (n := n') (by omega) (by omega) (by rw [d6, pk_us]) (fun F2 f1 f17 => ?_)
    unfold w_X3_makeStale_9
    intro I7 d7 I8 d8
    have k1 : ∀ j, j ≠ 8 → j ≠ 15 → j ≠ 16 → I8 j = Ic j := fun j h1 h2 h3 => by rw [d8, pk_un h3, d7, pk_un h2, d6, pk_un h1]
    have v8 : I8 8 = nI n' := by rw [d8, pk_un (by decide), d7, pk_un (by decide), d6, pk_us]
    refine m_isChord hn m3 hk ⟨fun _ => ⟨fun _ J7 t7 => ?_, fun q => absurd q hn1⟩, fun q => absurd q (by decide)⟩
    rw [sub1] at t7
    refine m_remove (n := n') (by omega) (by omega) (by rw [t7, pk_us]) (fun G2 f2 f14 J8 t8 => ?_)
    have k2 : ∀ j, j ≠ 3 → j ≠ 6 → J8 j = Im j := fun j h1 h2 => by rw [t8, pk_un h2, t7, pk_un h1]
    have w3 : J8 3 = nI n' := by rw [t8, pk_un (by decide), t7, pk_us]
    exact ⟨by rw [v8, w3], rfl, n', b, g, w, p, s, RR_stale hB (by omega) hb ⟨v8, w3, by rw [k1 7 (by decide) (by decide) (by decide)]; exact c7, by rw [k2 4 (by decide) (by decide)]; exact m4, PR_out hPR f17 f14⟩ (fun j hj => k1 j (fun z => by subst z; exact absurd hj (by decide)) (fun z => by subst z; exact absurd hj (by decide)) (fun z => by subst z; exact absurd hj (by decide))) (fun j hj => f1 j (fun z => by subst z; exact absurd hj (by decide)) (fun z => by subst z; exact absurd hj (by decide))) (fun j hj => k2 j (fun z => by subst z; exact absurd hj (by decide)) (fun z => by subst z; exact absurd hj (by decide))) (fun j hj => f2 j (fun z => by subst z; exact absurd hj (by decide)) (fun z => by subst z; exact absurd hj (by decide))), RC_stale (by rw [d8, pk_un (by decide), d7, pk_us]) (by rw [d8, pk_us]) (by rw [t8, pk_us])⟩
  · exact q1 _ ⟨fun q => absurd rfl q, fun _ => q2 _ _ ⟨fun q => absurd rfl q, fun _ => ⟨rfl, rfl, h0⟩⟩⟩
