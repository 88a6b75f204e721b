/-! joint: swap, take, put, shift -/
theorem PR_swap {n j k : Nat} {Kc Tc Km Tm : Nat → Int32} (h : PR n Kc Tc Km Tm) (hj : j < n) (hk : k < n) : PR n (upd (upd Kc j (Kc k)) k (Kc j)) (upd (upd Tc j (Tc k)) k (Tc j)) (upd (upd Km j (Km k)) k (Km j)) (upd (upd Tm j (Tm k)) k (Tm j)) := by
  intro x hx
  by_cases e1 : x = k
  · subst e1
    rw [pk_us, pk_us, pk_us, pk_us]
    exact h j hj
  · rw [pk_un e1, pk_un e1, pk_un e1, pk_un e1]
    by_cases e2 : x = j
    · subst e2
      rw [pk_us, pk_us, pk_us, pk_us]
      exact h k hk
    · rw [pk_un e2, pk_un e2, pk_un e2, pk_un e2]
      exact h x hx
theorem j_swap {i : Nat} {a a2 : Int32} {Ic Im : Nat → Int32} {Fc Fm : Nat → Nat → Int32} {hm : Int64} (h : RR i Ic Fc Im Fm) : w_X8_swap a a2 Ic Fc (fun r Ic2 Fc2 => w_X9_swap a a2 Im Fm hm (fun r2 Im2 Fm2 hm2 => r = r2 ∧ hm2 = hm ∧ RR i Ic2 Fc2 Im2 Fm2)) := by
  have h0 := h
  obtain ⟨n, b, g, w, p, s, hB, hC⟩ := h
  obtain ⟨hn, hb, hg, hw, hp, hs, ⟨c8, m3, c7, m4, hPR⟩, -, -, -, -, hT, hM⟩ := id hB
  unfold w_X8_swap w_X9_swap
  rcases has_cases (a := a) (Fc := Fc) (Fm := Fm) hn c8 m3 with ⟨j, hj, e⟩ | ⟨q1, q2⟩
  · subst e
    refine s_has hn c8 hj ⟨fun q => absurd q (by decide), fun _ => ?_⟩
    rcases has_cases (a := a2) (Fc := Fc) (Fm := Fm) hn c8 m3 with ⟨k, hk, e⟩ | ⟨q1, q2⟩
    · subst e
      refine s_has hn c8 hk ⟨fun q => absurd q (by decide), fun _ => ⟨fun hne => ?_, fun he => m_isChord hn m3 hj ⟨fun q => absurd q (by decide), fun _ => m_isChord hn m3 hk ⟨fun q => absurd q (by decide), fun _ => ⟨fun q => absurd he q, fun _ => ⟨rfl, rfl, h0⟩⟩⟩⟩⟩⟩
      have hjk : j ≠ k := fun z => hne (by rw [z])
      have hvj : vp_in (nI j) 8 := vp_in_nI (by omega) (by decide)
      have hvk : vp_in (nI k) 8 := vp_in_nI (by omega) (by decide)
      unfold w_X2_exchange_4
      refine s_has hn c8 hj ⟨fun q => absurd q (by decide), fun _ => s_has hn c8 hk ⟨fun _ => ⟨hvj, fun v5 e5 => ⟨hvk, hvj, fun F6 e6 => ⟨hvk, fun F7 e7 => ⟨hvj, fun v8 e8 => ⟨hvk, hvj, fun F9 e9 => ⟨hvk, fun F10 e10 => ?_⟩⟩⟩⟩⟩⟩, fun q => absurd q (by decide)⟩⟩
      rw [nI_clamp (by omega)] at e5 e6 e7 e8 e9 e10
      rw [nI_clamp (by omega)] at e6 e9
      have f1 : ∀ r, r ≠ 17 → r ≠ 18 → F10 r = Fc r := fun r h1 h2 => by rw [e10, upF_n _ _ h2, e9, upF_n _ _ h2, e7, upF_n _ _ h1, e6, upF_n _ _ h1]
      have f17 : F10 17 = upd (upd (Fc 17) j (Fc 17 k)) k (Fc 17 j) := by
        rw [e10, upF_n _ _ (by decide), e9, upF_n _ _ (by decide), e7, upF_s, e6, upF_s, e5]
      have x18 : F7 18 = Fc 18 := by rw [e7, upF_n _ _ (by decide), e6, upF_n _ _ (by decide)]
      have f18 : F10 18 = upd (upd (Fc 18) j (Fc 18 k)) k (Fc 18 j) := by
        rw [e10, upF_s, e9, upF_s, e8, x18]
      unfold w_X3_makeStale_9
      intro I7 d7 I8 d8
      have k1 : ∀ j, j ≠ 15 → j ≠ 16 → I8 j = Ic j := fun j h2 h3 => by rw [d8, pk_un h3, d7, pk_un h2]
      refine s_fewest0 hn hb (by rw [k1 8 (by decide) (by decide)]; exact c8) (by rw [k1 7 (by decide) (by decide)]; exact c7) (by rw [f1 25 (by decide) (by decide)]; exact hT) (Or.inl (by rw [d8, pk_un (by decide), d7, pk_us])) (fun I2 F2 a1 a2 a3 => m_isChord hn m3 hj ⟨fun q => absurd q (by decide), fun _ => m_isChord hn m3 hk ⟨fun q => absurd q (by decide), fun _ => ⟨fun _ => ⟨hvj, fun u6 g6 => ⟨hvj, fun u7 g7 => ⟨hvk, hvj, fun G8 g8 => ⟨hvk, hvj, fun G9 g9 => ⟨hvk, fun G10 g10 => ⟨hvk, fun G11 g11 J12 t12 => ?_⟩⟩⟩⟩⟩⟩, fun q => absurd q hne⟩⟩⟩)
      rw [nI_clamp (by omega)] at g6 g7 g8 g9 g10 g11
      rw [nI_clamp (by omega)] at g8 g9
      have f2 : ∀ r, r ≠ 14 → r ≠ 15 → G11 r = Fm r := fun r h1 h2 => by rw [g11, upF_n _ _ h2, g10, upF_n _ _ h1, g9, upF_n _ _ h2, g8, upF_n _ _ h1]
      have y15 : G8 15 = Fm 15 := by rw [g8, upF_n _ _ (by decide)]
      have y14 : G9 14 = upd (Fm 14) j (Fm 14 k) := by rw [g9, upF_n _ _ (by decide), g8, upF_s]
      have f14 : G11 14 = upd (upd (Fm 14) j (Fm 14 k)) k (Fm 14 j) := by
        rw [g11, upF_n _ _ (by decide), g10, upF_s, y14, g6]
      have f15 : G11 15 = upd (upd (Fm 15) j (Fm 15 k)) k (Fm 15 j) := by
        rw [g11, upF_s, g10, upF_n _ _ (by decide), g9, upF_s, y15, g7]
      have k2 : ∀ j, j ≠ 6 → J12 j = Im j := fun j h2 => by rw [t12, pk_un h2]
      have hPR2 : PR n (F10 17) (F10 18) (G11 14) (G11 15) := by
        rw [f17, f18, f14, f15]
        exact PR_swap hPR hj hk
      have hB2 : RB i n b g w p s I8 F10 J12 G11 := RR_stale hB hn hb ⟨by rw [k1 8 (by decide) (by decide)]; exact c8, by rw [k2 3 (by decide)]; exact m3, by rw [k1 7 (by decide) (by decide)]; exact c7, by rw [k2 4 (by decide)]; exact m4, hPR2⟩ (fun j hj => k1 j (fun z => by subst z; exact absurd hj (by decide)) (fun z => by subst z; exact absurd hj (by decide))) (fun j hj => f1 j (fun z => by subst z; exact absurd hj (by decide)) (fun z => by subst z; exact absurd hj (by decide))) (fun j hj => k2 j (fun z => by subst z; exact absurd hj (by decide))) (fun j hj => f2 j (fun z => by subst z; exact absurd hj (by decide)) (fun z => by subst z; exact absurd hj (by decide)))
      have hC2 : RCac n b I8 F10 J12 G11 := RC_stale (by rw [d8, pk_un (by decide), d7, pk_us]) (by rw [d8, pk_us]) (by rw [t12, pk_us])
      exact m_plan0 (mTab_of (fun r hr => f2 r (by omega) (by omega)) hM) hn (by omega) (by rw [k2 3 (by decide)]; exact m3) (by rw [k2 4 (by decide)]; exact m4) hb (hC2.2.2 (by omega)) (fun I3 F3 b1 b2 b3 => ⟨fewI_congr 0 b (PR_EQ hPR2), rfl, RR_plan hB2 hC2 a1 a2 a3 b1 b2 (fun _ => b3)⟩)
    · exact q1 _ ⟨fun _ => m_isChord hn m3 hj ⟨fun q => absurd q (by decide), fun _ => q2 _ _ ⟨fun _ => ⟨rfl, rfl, h0⟩, fun q => absurd rfl q⟩⟩, fun q => absurd rfl q⟩
  · exact q1 _ ⟨fun _ => q2 _ _ ⟨fun _ => ⟨rfl, rfl, h0⟩, fun q => absurd rfl q⟩, fun q => absurd rfl q⟩
/-- one out of a row, one into a row -/
def outR (A : Nat → Int32) (a n : Nat) (x : Nat) : Int32 := if x < a then A x else if x < n then A (x + 1) else A x
theorem s_remove {n k : Nat} {I : Nat → Int32} {F : Nat → Nat → Int32} {post : (Nat → Int32) → (Nat → Nat → Int32) → Prop} (hn : n < 8) (hk : k ≤ n) (h8 : I 8 = nI n)
    (hp : ∀ F2, (∀ r, r ≠ 17 → r ≠ 18 → F2 r = F r) → (∀ x, x < n → F2 17 x = outR (F 17) k n x ∧ F2 18 x = outR (F 18) k n x) → post I F2) : gL (fun ag v => w_X2_remove_4_B21 (fun (y7 : Int32) (I8 : Nat → Int32) (F9 : Nat → Nat → Int32) => post I8 F9) (fun b0 b1 b2 => ag (b0, b1, b2)) v.1 v.2.1 v.2.2) (nI k, I, F) := by
  refine gL_inv (fun j v => v.1 = nI (k + j) ∧ v.2.1 = I ∧ (∀ r, r ≠ 17 → r ≠ 18 → v.2.2 r = F r) ∧ (∀ x, x < n → v.2.2 17 x = (if x < k + j then outR (F 17) k n x else F 17 x) ∧ v.2.2 18 x = (if x < k + j then outR (F 18) k n x else F 18 x)) ∧ v.2.2 17 n = F 17 n ∧ v.2.2 18 n = F 18 n) (n - k) ?_ ?_ ⟨rfl, rfl, fun _ _ _ => rfl, fun x hx => ?_, rfl, rfl⟩
  · rintro j hj ⟨x1, J, L⟩ ⟨g1, g2, g3, g4, g5⟩ again hag
    dsimp only at g1 g2 g3 g4 g5 ⊢
    subst g1
    subst g2
    unfold w_X2_remove_4_B21
    rw [h8, show nI (k + j) + (1 : Int32) = nI (k + j + 1) from nI_1 _]
    have hv : vp_in (nI (k + j)) 8 := vp_in_nI (by omega) (by decide)
    have hv1 : vp_in (nI (k + j + 1)) 8 := vp_in_nI (by omega) (by decide)
    refine ⟨fun q => absurd ((nI_leI (a := n) (b := k + j) (by omega) (by omega)).mp q) (by omega), fun _ => ⟨hv1, hv, fun F2 e2 => ⟨hv1, hv, fun F3 e3 => hag _ ⟨rfl, rfl, ?_⟩⟩⟩⟩
    rw [nI_clamp (by omega)] at e2 e3
    rw [nI_clamp (by omega)] at e2 e3
    have f17 : F3 17 = upd (L 17) (k + j) (L 17 (k + j + 1)) := by rw [e3, upF_n _ _ (by decide), e2, upF_s]
    have f18 : F3 18 = upd (L 18) (k + j) (L 18 (k + j + 1)) := by rw [e3, upF_s, e2, upF_n _ _ (by decide)]
    have nx : ∀ x, x = k + j + 1 → L 17 x = F 17 x ∧ L 18 x = F 18 x := by
      intro x hx
      by_cases e : x = n
      · rw [e]; exact g5
      · have := g4 x (by omega)
        have n1 : ¬ x < k + j := by omega
        rw [if_neg n1, if_neg n1] at this
        exact this
    refine ⟨fun r h1 h2 => ?_, fun x hx => ?_, ?_⟩
    · show F3 r = F r
      rw [e3, upF_n _ _ h2, e2, upF_n _ _ h1]
      exact g3 r h1 h2
    · show F3 17 x = _ ∧ F3 18 x = _
      rw [f17, f18]
      by_cases e : x = k + j
      · subst e
        have n1 : k + j < k + (j + 1) := by omega
        have n2 : ¬ k + j < k := by omega
        have n3 : k + j < n := by omega
        rw [pk_us, pk_us, if_pos n1, if_pos n1]
        unfold outR
        rw [if_neg n2, if_neg n2, if_pos n3, if_pos n3]
        exact nx _ rfl
      · rw [pk_un e, pk_un e]
        have := g4 x hx
        by_cases e2 : x < k + j
        · have n1 : x < k + (j + 1) := by omega
          rw [if_pos e2, if_pos e2] at this
          rw [if_pos n1, if_pos n1]
          exact this
        · have n1 : ¬ x < k + (j + 1) := by omega
          rw [if_neg e2, if_neg e2] at this
          rw [if_neg n1, if_neg n1]
          exact this
    · show F3 17 n = _ ∧ F3 18 n = _
      have n1 : n ≠ k + j := by omega
      rw [f17, f18, pk_un n1, pk_un n1]
      exact g5
  · rintro ⟨x1, J, L⟩ ⟨g1, g2, g3, g4, g5⟩ again
    dsimp only at g1 g2 g3 g4 g5 ⊢
    subst g1
    subst g2
    unfold w_X2_remove_4_B21
    rw [h8, show k + (n - k) = n by omega]
    refine ⟨fun _ => hp L g3 (fun x hx => ?_), fun q => absurd (Int32.le_refl _) q⟩
    have := g4 x hx
    have n1 : x < k + (n - k) := by omega
    rw [if_pos n1, if_pos n1] at this
    exact this
  · show F 17 x = _ ∧ F 18 x = _
    by_cases e2 : x < k + 0
    · rw [if_pos e2, if_pos e2]
      unfold outR
      have n1 : x < k := by omega
      rw [if_pos n1, if_pos n1]
      exact ⟨rfl, rfl⟩
    · rw [if_neg e2, if_neg e2]
      exact ⟨rfl, rfl⟩
