/-! the reference: layBest -/
theorem m_layBest {n b : Nat} {I : Nat → Int32} {F : Nat → Nat → Int32} {hs : Int64} {post : (Nat → Int32) → (Nat → Nat → Int32) → Int64 → Prop} (hM : mTab F) (hn : n ≤ 8) (h3 : I 3 = nI n) (h4 : I 4 = nI b) (hb : b < 2187) (h7 : I 7 = nI (mc (BR (F 14) (F 15) 0 n n b))) (hf : ∀ k u, k < n → u < 2187 → F 16 (2187 * k + u) = if fitK (F 14) (F 15) 0 k u = true then 1 else 0) (hr : ∀ k u, k < n → u < 2187 → F 17 (2187 * k + u) = nI (mc (OW (F 14) (F 15) 0 n k u)))
    (h : ∀ F2, kF [20] F F2 → (∀ k, k < n → F2 20 k = bestI (F 14) (F 15) n b k) → post I F2 hs) : w_X9_layBest I F hs post := by
  unfold w_X9_layBest
  intro v1 e1 v2 e2
  rw [h4] at e1
  rw [h7] at e2
  generalize hKe : F 14 = K at *
  generalize hTe : F 15 = T at *
  have hmle : mc (BR K T 0 n n b) ≤ 99999 := mc_le (by omega) (BR_bd K T 0 hn hb)
  have hcut : ((99999 : Int32) ≤ I 7) ↔ mc (BR K T 0 n n b) = 99999 := by
    rw [h7, show (99999 : Int32) = nI 99999 by decide, nI_leI (by omega) (by omega)]
    omega
  refine gL_inv (fun k v => v.2.2.1 = nI k ∧ v.2.2.2.1 = I ∧ v.2.2.2.2.2 = hs ∧ kF [20] F v.2.2.2.2.1 ∧ (∀ i, i < k → v.2.2.2.2.1 20 i = bestI K T n b i) ∧ (∃ s, s < 2187 ∧ v.1 = nI s) ∧ (mc (BR K T 0 n n b) ≠ 99999 → v.1 = nI (bsS K T n b k) ∧ (k < n → v.2.1 = nI (mc (BR K T 0 n (n - k) (bsS K T n b k)))))) n ?_ ?_ ⟨rfl, rfl, rfl, fun _ _ => rfl, fun i hi => absurd hi (by omega), ⟨b, hb, e1⟩, fun _ => ⟨e1, fun _ => e2⟩⟩
  · rintro k hk ⟨x1, x2, x3, J, L, g⟩ ⟨h3', hJ, hg, hL, hB, ⟨s, hs2, hx1⟩, hS⟩ again hag
    dsimp only at h3' hJ hg hL hB hx1 hS ⊢
    subst h3'
    subst hJ
    subst hg
    subst hx1
    have e14 : L 14 = K := by rw [hL 14 (by decide)]; exact hKe
    have e15 : L 15 = T := by rw [hL 15 (by decide)]; exact hTe
    have e16 : L 16 = F 16 := hL 16 (by decide)
    have e17 : L 17 = F 17 := hL 17 (by decide)
    have hM2 : mTab L := mTab_of (fun k hk => hL k (by simp; omega)) hM
    unfold w_X9_layBest_B12
    refine ⟨fun q => absurd ((nI_leI (a := n) (b := k) (by omega) (by omega)).mp (by rw [h3] at q; exact q)) (by omega), fun _ => m_heldBy (by omega) (m_heldPedals hM2 hs2 (fun st hst => ⟨vp_in_nI (by omega) (by decide), ?_⟩))⟩
    rw [nI_clamp (by omega), e14]
    rw [e14, e15] at hst
    refine m_mostOf ?_
    have hvk : vp_in (nI k) 8 := vp_in_nI (by omega) (by decide)
    have put : ∀ (z : Int32) (s' : Nat) (w : Int32) (F5 : Nat → Nat → Int32), s' < 2187 → z = bestI K T n b k → (mc (BR K T 0 n n b) ≠ 99999 → nI s' = nI (bsS K T n b (k + 1)) ∧ (k + 1 < n → w = nI (mc (BR K T 0 n (n - (k + 1)) (bsS K T n b (k + 1)))))) → F5 = upF L 20 (upd (L 20) k z) → again (nI s', w, nI k + (1 : Int32), J, F5, g) := by
      intro z s' w F5 hs' hz hw e5
      refine hag _ ⟨nI_1 k, rfl, rfl, fun r hr => ?_, fun i hi => ?_, ⟨s', hs', rfl⟩, hw⟩
      · show F5 r = F r
        rw [e5, upF_n _ _ (fun q => hr (by rw [q]; decide))]
        exact hL r hr
      · show F5 20 i = _
        rw [e5, upF_s]
        by_cases e : i = k
        · subst e
          rw [pk_us]
          exact hz
        · rw [pk_un e]
          exact hB i (by omega)
    by_cases hno : mc (BR K T 0 n n b) = 99999
    · refine gL_inv (fun _ v => v.1 = nI 2187 ∧ v.2.1 = nI 0) 0 (fun j hj => absurd hj (by omega)) ?_ ⟨rfl, rfl⟩
      rintro ⟨x6, x7, x8⟩ ⟨g6, g7⟩ again2
      dsimp only at g6 g7 ⊢
      subst g6
      subst g7
      have hz : (-1 : Int32) = bestI K T n b k := by unfold bestI; rw [if_pos hno]
      have fin : ((¬ nI 2187 = (2187 : Int32) → vp_in (nI k) 8 ∧ ∀ F53 : Nat → Nat → Int32, F53 = upF L 20 (upd (L 20) k (nI 2187)) → ((¬ nI 2187 = (2187 : Int32) → ∀ v55 : Int32, v55 = (x2 - nI 0) → again (nI 2187, v55, nI k + (1 : Int32), J, F53, g)) ∧ (nI 2187 = (2187 : Int32) → ∀ v56 : Int32, v56 = (x2 - nI 0) → again (nI s, v56, nI k + (1 : Int32), J, F53, g)))) ∧ (nI 2187 = (2187 : Int32) → vp_in (nI k) 8 ∧ ∀ F57 : Nat → Nat → Int32, F57 = upF L 20 (upd (L 20) k (-1 : Int32)) → ((¬ nI 2187 = (2187 : Int32) → ∀ v59 : Int32, v59 = (x2 - nI 0) → again (nI 2187, v59, nI k + (1 : Int32), J, F57, g)) ∧ (nI 2187 = (2187 : Int32) → ∀ v60 : Int32, v60 = (x2 - nI 0) → again (nI s, v60, nI k + (1 : Int32), J, F57, g))))) := by
        refine ⟨fun q => absurd (by decide) q, fun _ => ⟨hvk, fun F57 e57 => ⟨fun q => absurd (by decide) q, fun _ v60 _ => ?_⟩⟩⟩
        exact put _ s v60 F57 hs2 hz (fun q => absurd hno q) e57
      unfold w_X9_layBest_B55
      exact ⟨fun _ => fin, fun _ => ⟨fun _ => fin, fun q => absurd (hcut.mpr hno) q⟩⟩
    · obtain ⟨hS1, hS2⟩ := hS hno
      have es : s = bsS K T n b k := (nI_eq (by omega) (by have := (bsS_ok K T hn hb hno k (by omega)).1; omega)).mp hS1
      have hS2 := hS2 hk
      rw [← es] at hS2
      subst hS2
      have hfin : mc (BR K T 0 n (n - k) s) ≠ 99999 := by rw [es]; exact (bsS_ok K T hn hb hno k (by omega)).2 hk
      have hlb := (mc_at (by omega) (BR_bd K T 0 (n := n) (d := n - k) (by omega) hs2) hfin).1
      have hnx := nxt_ok K T hn hk hs2 hfin
      generalize hle : mc (BR K T 0 n (n - k) s) = le at *
      have isO : ∀ o, o < 63 → ((fitK K T 0 k (af s o) = true ∧ (mv o ≤ mostI (K k) ∧ canS (hT (heldI K T k 0)) s o = true) ∧ mv o + mc (OW K T 0 n k (af s o)) = le) ↔ (mv o ≤ mostI (K k) ∧ canS (hT (heldI K T k 0)) s o = true ∧ mv o + mc (OW K T 0 n k (af s o)) = le ∧ mc (OW K T 0 n k (af s o)) ≠ 99999)) := by
        intro o ho
        constructor
        · rintro ⟨a1, a2, a3⟩
          exact ⟨a2.1, a2.2, a3, by omega⟩
        · rintro ⟨a1, a2, a3, a4⟩
          exact ⟨Classical.byContradiction (fun q => a4 (mc_no (fun c => by unfold OW; rw [if_neg q]))), ⟨a1, a2⟩, a3⟩
      refine gL_inv (fun j v => v.2.2 = nI j ∧ ((v.1 = nI 2187 ∧ v.2.1 = nI 0 ∧ ∀ o, o < j → ¬ (fitK K T 0 k (af s o) = true ∧ (mv o ≤ mostI (K k) ∧ canS (hT (heldI K T k 0)) s o = true) ∧ mv o + mc (OW K T 0 n k (af s o)) = le)) ∨ ∃ o, o < j ∧ (fitK K T 0 k (af s o) = true ∧ (mv o ≤ mostI (K k) ∧ canS (hT (heldI K T k 0)) s o = true) ∧ mv o + mc (OW K T 0 n k (af s o)) = le) ∧ v.1 = nI (af s o) ∧ v.2.1 = nI (mv o) ∧ ∀ o', o' < j → (fitK K T 0 k (af s o') = true ∧ (mv o' ≤ mostI (K k) ∧ canS (hT (heldI K T k 0)) s o' = true) ∧ mv o' + mc (OW K T 0 n k (af s o')) = le) → af s o ≤ af s o')) 63 ?_ ?_ ⟨rfl, Or.inl ⟨rfl, rfl, fun o ho => absurd ho (by omega)⟩⟩
      · rintro o ho ⟨x6, x7, x8⟩ ⟨g8, hI⟩ again2 hag2
        dsimp only at g8 hI ⊢
        subst g8
        have hlt := af_lt ho hs2
        have hmo : mv o ≤ 2 := by unfold mv m1; split <;> split <;> omega
        have howl := mc_le (by omega) (OW_bd K T 0 (n := n) (k := k) hn hlt)
        have skip : ¬ (fitK K T 0 k (af s o) = true ∧ (mv o ≤ mostI (K k) ∧ canS (hT (heldI K T k 0)) s o = true) ∧ mv o + mc (OW K T 0 n k (af s o)) = le) → again2 (x6, x7, nI o + (1 : Int32)) := by
          intro hn2
          refine hag2 _ ⟨nI_1 o, ?_⟩
          rcases hI with ⟨i1, i2, i3⟩ | ⟨o1, i1, i2, i3, i4, i5⟩
          · refine Or.inl ⟨i1, i2, fun o' ho' => ?_⟩
            by_cases e : o' = o
            · subst e; exact hn2
            · exact i3 o' (by omega)
          · refine Or.inr ⟨o1, by omega, i2, i3, i4, fun o' ho' hi' => ?_⟩
            by_cases e : o' = o
            · subst e; exact absurd hi' hn2
            · exact i5 o' (by omega) hi'
        have take : (fitK K T 0 k (af s o) = true ∧ (mv o ≤ mostI (K k) ∧ canS (hT (heldI K T k 0)) s o = true) ∧ mv o + mc (OW K T 0 n k (af s o)) = le) → (x6 ≤ nI (af s o) → again2 (x6, x7, nI o + (1 : Int32))) ∧ (¬ x6 ≤ nI (af s o) → again2 (nI (af s o), nI (mv o), nI o + (1 : Int32))) := by
          intro hy
          refine ⟨fun q => hag2 _ ⟨nI_1 o, ?_⟩, fun q => hag2 _ ⟨nI_1 o, Or.inr ⟨o, by omega, hy, rfl, rfl, fun o' ho' hi' => ?_⟩⟩⟩
          · rcases hI with ⟨i1, i2, i3⟩ | ⟨o1, i1, i2, i3, i4, i5⟩
            · rw [i1, nI_leI (by omega) (by omega)] at q
              omega
            · rw [i3, nI_leI (by have := af_lt (o := o1) (by omega) hs2; omega) (by omega)] at q
              refine Or.inr ⟨o1, by omega, i2, i3, i4, fun o' ho' hi' => ?_⟩
              by_cases e : o' = o
              · subst e; exact q
              · exact i5 o' (by omega) hi'
          · by_cases e : o' = o
            · subst e; exact Nat.le_refl _
            · rcases hI with ⟨i1, i2, i3⟩ | ⟨o1, i1, i2, i3, i4, i5⟩
              · exact absurd hi' (i3 o' (by omega))
              · rw [i3, nI_leI (by have := af_lt (o := o1) (by omega) hs2; omega) (by omega)] at q
                have := i5 o' (by omega) hi'
                omega
        have z0 : ((0 : Int32) = 0) := rfl
        have z1 : ¬ ((1 : Int32) = 0) := by decide
        unfold w_X9_layBest_B55
        refine ⟨fun q => absurd ((nI_leI (a := 63) (by omega) (by omega)).mp q) (by omega), fun _ => ⟨fun q => absurd (hcut.mp q) hno, fun _ => m_after hM2 hs2 ho ?_⟩⟩
        rw [show (2187 : Int32) = nI 2187 by decide, ix2, nI_clamp (by omega), e16, e17, hf k _ hk hlt, hr k _ hk hlt]
        have hv : vp_in (nI (2187 * k + af s o)) 17496 := vp_in_nI (by omega) (by decide)
        have sk0 : ∀ hn2 : ¬ (fitK K T 0 k (af s o) = true ∧ (mv o ≤ mostI (K k) ∧ canS (hT (heldI K T k 0)) s o = true) ∧ mv o + mc (OW K T 0 n k (af s o)) = le), again2 (x6, x7, nI o + (1 : Int32)) := skip
        refine ⟨hv, fun q => ?_, fun q => ?_⟩
        · have hn2 := skip (fun z => q (if_pos z.1))
          exact ⟨fun _ => ⟨fun _ => hn2, fun q => absurd z0 q⟩, fun q => absurd z0 q⟩
        · have hft : fitK K T 0 k (af s o) = true := Classical.byContradiction (fun z => absurd q (by rw [if_neg z]; decide))
          refine m_can hM2 ho (mostI_le _) hst (fun hc => ⟨fun q => absurd q z1, fun _ => m_movedBy hM2 ho ?_⟩) (fun hc => ⟨fun _ => ?_, fun q => absurd rfl q⟩)
          · refine ⟨hv, ?_⟩
            rw [nI_add, nI_eq (by omega) (by omega)]
            constructor
            · intro hne
              have hn2 := skip (fun z => hne z.2.2)
              exact ⟨fun _ => ⟨fun _ => hn2, fun q => absurd z0 q⟩, fun q => absurd z0 q⟩
            · intro heq
              obtain ⟨t1, t2⟩ := take ⟨hft, hc, heq⟩
              refine ⟨fun q => absurd q z1, fun _ => ⟨fun q => ⟨fun q2 => absurd q2 z1, fun _ => ⟨t1, fun q2 => absurd q q2⟩⟩, fun q => m_movedBy hM2 ho ⟨fun q2 => absurd q2 z1, fun _ => ⟨fun q2 => absurd q2 q, t2⟩⟩⟩⟩
          · have hn2 := skip (fun z => hc z.2.1)
            exact ⟨fun _ => ⟨fun _ => hn2, fun q => absurd z0 q⟩, fun q => absurd z0 q⟩
      · rintro ⟨x6, x7, x8⟩ ⟨g8, hI⟩ again2
        dsimp only at g8 hI ⊢
        subst g8
        rcases hI with ⟨i1, i2, i3⟩ | ⟨o, i1, i2, i3, i4, i5⟩
        · obtain ⟨o, ho, b1, b2, b3, b4⟩ := mc_step_ex K T 0 hn hk hs2 (by rw [hle]; exact hfin)
          rw [hle] at b3
          exact absurd ((isO o ho).mpr ⟨b1, b2, b3, b4⟩) (i3 o ho)
        · subst i3
          subst i4
          have hlt := af_lt i1 hs2
          have hmo : mv o ≤ le := by omega
          have enx : nxt K T n k s = af s o := by
            apply nxt_is K T hlt
            · have hi := (isO o i1).mp i2
              exact (NXb_iff K T n k s _).mpr ⟨o, i1, rfl, hi.1, hi.2.1, by rw [hle]; exact hi.2.2.1, hi.2.2.2⟩
            · intro t' ht'
              cases e : NXb K T n k s t'
              · rfl
              · obtain ⟨o', ho', c1, c2, c3, c4, c5⟩ := (NXb_iff K T n k s t').mp e
                rw [hle] at c4
                have := i5 o' ho' ((isO o' ho').mpr ⟨c2, c3, by rw [c1]; exact c4, by rw [c1]; exact c5⟩)
                omega
          have ebs : bsS K T n b (k + 1) = af s o := by
            show nxt K T n k (bsS K T n b k) = af s o
            rw [← es]
            exact enx
          have hz : nI (af s o) = bestI K T n b k := by unfold bestI; rw [if_neg hno, ebs]
          have hne : ¬ nI (af s o) = (2187 : Int32) := by
            rw [show (2187 : Int32) = nI 2187 by decide, nI_eq (by omega) (by omega)]
            omega
          have hw : mc (BR K T 0 n n b) ≠ 99999 → nI (af s o) = nI (bsS K T n b (k + 1)) ∧ (k + 1 < n → nI le - nI (mv o) = nI (mc (BR K T 0 n (n - (k + 1)) (bsS K T n b (k + 1))))) := by
            intro _
            refine ⟨by rw [ebs], fun hk1 => ?_⟩
            have hnb : NXb K T n k s (af s o) = true := by rw [← enx]; exact hnx.2.1
            have h9 := nxt_mc K T hn hk1 hnb
            rw [ebs, h9.1, pk_sub (by omega)]
            have h8 := i2.2.2
            exact congrArg nI (by omega)
          unfold w_X9_layBest_B55
          refine ⟨fun _ => ⟨fun _ => ⟨hvk, fun F53 e53 => ⟨fun _ v55 e55 => ?_, fun q => absurd q hne⟩⟩, fun q => absurd q hne⟩, fun q => absurd (by decide) q⟩
          subst e55
          exact put _ (af s o) _ F53 hlt hz hw e53
  · rintro ⟨x1, x2, x3, J, L, g⟩ ⟨h3', hJ, hg, hL, hB, -, -⟩ again
    dsimp only at h3' hJ hg hL hB ⊢
    subst h3'
    subst hJ
    subst hg
    unfold w_X9_layBest_B12
    exact ⟨fun _ => h L hL hB, fun q => absurd (by rw [h3]; exact Int32.le_refl _) q⟩
