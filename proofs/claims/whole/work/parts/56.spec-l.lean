/-! the class backward: onward rows, the best plan, the best begin -/
theorem LdB_mc {B : Nat} {G : Nat → Nat} {r : Int32} (hB : B < 64) (h : LdB B G r) : (r = (1073741824 : Int32) ∧ mc G = 99999) ∨ (¬ r = (1073741824 : Int32) ∧ mc G ≤ B ∧ r >>> ((20 : Int32) &&& 31) = nI (mc G)) := by
  have hno := LdB_none (by omega) h
  rcases h with ⟨h1, h2⟩ | ⟨c, h1, h2, h3, h4⟩
  · exact Or.inl ⟨by rw [h2, zc_NO], mc_no h1⟩
  · have hm : mc G = c := mc_is h2 h3 (by omega)
    have hw : G c % 1000003 < 1000003 := Nat.mod_lt _ (by decide)
    refine Or.inr ⟨fun q => h2 (hno.mp q c), by omega, ?_⟩
    rw [h4, zc_shr (by omega) (by omega), hm]
theorem s_bestNext {s k n r B : Nat} {K T : Nat → Int32} {I : Nat → Int32} {F : Nat → Nat → Int32} {post : Int32 → Prop} (hn : n ≤ 8) (hk : k < n) (hs : s < 2187) (hB : B < 64) (hM : I 17 = nI (mostI (K k))) (hh : ∀ p d, p < 7 → d < 3 → hbI (I 18) p d = hT (heldI K T k 0) p d) (hE : ∀ t, t < 2187 → LdB B (OW K T 0 n k t) (F r t)) (h : post (if mc (BR K T 0 n (n - k) s) = 99999 then -1 else nI (nxt K T n k s))) : w_X3_bestNext_9_r (nI s) r I F post := by
  have hM2 := mostI_le (K k)
  unfold w_X3_bestNext_9_r
  refine gL_inv (fun j v => v.2.2 = nI j ∧ ((v.1 = -1 ∧ v.2.1 = (1073741824 : Int32) ∧ ∀ o, o < 63 → af s o < j → mv o ≤ mostI (K k) → canS (hT (heldI K T k 0)) s o = true → mc (OW K T 0 n k (af s o)) = 99999) ∨ ∃ o m, o < 63 ∧ af s o < j ∧ mv o ≤ mostI (K k) ∧ canS (hT (heldI K T k 0)) s o = true ∧ mc (OW K T 0 n k (af s o)) ≠ 99999 ∧ m = mv o + mc (OW K T 0 n k (af s o)) ∧ m < 1000 ∧ v.1 = nI (af s o) ∧ v.2.1 = nI m ∧ ∀ o', o' < 63 → af s o' < j → mv o' ≤ mostI (K k) → canS (hT (heldI K T k 0)) s o' = true → mc (OW K T 0 n k (af s o')) ≠ 99999 → m ≤ mv o' + mc (OW K T 0 n k (af s o')) ∧ (af s o' < af s o → m < mv o' + mc (OW K T 0 n k (af s o'))))) 2187 ?_ ?_ ⟨rfl, Or.inl ⟨rfl, rfl, fun o ho hj => absurd hj (by omega)⟩⟩
  · rintro t ht ⟨x3, x4, x5⟩ ⟨h5, hI⟩ again hag
    dsimp only at h5 hI ⊢
    subst h5
    have hmc := LdB_mc hB (hE t ht)
    have skip : (∀ o, o < 63 → af s o = t → mv o ≤ mostI (K k) → canS (hT (heldI K T k 0)) s o = true → mc (OW K T 0 n k (af s o)) ≠ 99999 → x4 ≤ nI (mv o + mc (OW K T 0 n k (af s o))) ∧ ¬ x4 = (1073741824 : Int32)) → again (x3, x4, nI t + (1 : Int32)) := by
      intro hz
      refine hag _ ⟨nI_1 t, ?_⟩
      rcases hI with ⟨i1, i2, i3⟩ | ⟨o, m, i1, i2, i3, i4, i5, i6, i7, i8, i9, i10⟩
      · refine Or.inl ⟨i1, i2, fun o ho hlt a1 a2 => ?_⟩
        by_cases e : af s o = t
        · apply Classical.byContradiction
          intro q
          exact (hz o ho e a1 a2 q).2 i2
        · exact i3 o ho (by omega) a1 a2
      · refine Or.inr ⟨o, m, i1, by omega, i3, i4, i5, i6, i7, i8, i9, fun o' ho' hlt a1 a2 a3 => ?_⟩
        by_cases e : af s o' = t
        · have h9 := (hz o' ho' e a1 a2 a3).1
          have hb := mc_le (by omega) (OW_bd K T 0 (n := n) (k := k) hn (af_lt ho' hs))
          have hm2 : mv o' ≤ 2 := by omega
          rw [i9, nI_leI (by omega) (by omega)] at h9
          exact ⟨h9, fun z => by omega⟩
        · exact i10 o' ho' (by omega) a1 a2 a3
    have take : ∀ o, o < 63 → af s o = t → mv o ≤ mostI (K k) → canS (hT (heldI K T k 0)) s o = true → mc (OW K T 0 n k t) ≠ 99999 → mc (OW K T 0 n k t) ≤ B → ¬ x4 ≤ nI (mv o + mc (OW K T 0 n k t)) → again (nI t, nI (mv o + mc (OW K T 0 n k t)), nI t + (1 : Int32)) := by
      intro o ho e a1 a2 a3 a4 q
      have hm2 : mv o ≤ 2 := by omega
      refine hag _ ⟨nI_1 t, Or.inr ⟨o, mv o + mc (OW K T 0 n k t), ho, by omega, a1, a2, by rw [e]; exact a3, by rw [e], by omega, by rw [e], rfl, fun o' ho' hlt b1 b2 b3 => ?_⟩⟩
      by_cases e2 : af s o' = t
      · have := af_same ho ho' hs (e.trans e2.symm)
        rw [e2]
        exact ⟨by omega, fun z => by omega⟩
      · rcases hI with ⟨i1, i2, i3⟩ | ⟨o2, m, i1, i2, i3, i4, i5, i6, i7, i8, i9, i10⟩
        · exact absurd (i3 o' ho' (by omega) b1 b2) b3
        · rw [i9, nI_leI (by omega) (by omega)] at q
          have := (i10 o' ho' (by omega) b1 b2 b3).1
          exact ⟨by omega, fun _ => by omega⟩
    have x4c : x4 = (1073741824 : Int32) ∨ ∃ m, m < 1000 ∧ x4 = nI m := by
      rcases hI with ⟨-, i2, -⟩ | ⟨o2, m, i1, i2, i3, i4, i5, i6, i7, i8, i9, i10⟩
      · exact Or.inl i2
      · exact Or.inr ⟨m, i7, i9⟩
    have hv : vp_in (nI t) 2187 := vp_in_nI ht (by decide)
    unfold w_X3_bestNext_9_r_B9
    refine ⟨fun q => absurd ((nI_leI (a := 2187) (by omega) (by omega)).mp q) (by omega), fun _ => ⟨hv, ?_⟩⟩
    rw [nI_clamp (by omega)]
    intro v2 e2
    refine ⟨hv, fun q => ?_, fun q => ?_⟩
    · rcases hmc with ⟨-, m2⟩ | ⟨m1', -, -⟩
      · exact skip (fun o ho e a1 a2 a3 => absurd (by rw [e]; exact m2) a3)
      · exact absurd q m1'
    · rcases hmc with ⟨m1', -⟩ | ⟨-, m2, m3⟩
      · exact absurd m1' q
      · rw [m3] at e2
        subst e2
        have big : (1073741824 : Int32) = nI 1073741824 := by decide
        refine ⟨fun q2 => skip (fun o ho e a1 a2 a3 => ?_), fun q2 => ?_⟩
        · rcases x4c with z | ⟨m, z1, z2⟩
          · rw [z, big, nI_leI (by omega) (by omega)] at q2
            omega
          · rw [z2, nI_leI (by omega) (by omega)] at q2
            rw [e, z2, nI_leI (by omega) (by omega), big, nI_eq (by omega) (by omega)]
            omega
        · refine s_moves hs ht hM hM2 hh (fun o ho e a1 a2 => ⟨fun q3 => absurd q3 (neg1_nI (by omega)), fun _ => ?_⟩) (fun hno => ⟨fun _ => skip (fun o ho e a1 a2 a3 => absurd ⟨a1, a2⟩ (hno o ho e)), fun q3 => absurd rfl q3⟩)
          rw [nI_add]
          refine ⟨fun q3 => skip (fun o' ho' e' b1 b2 b3 => ?_), fun q3 v8 e8 => ?_⟩
          · have hsame := af_same ho ho' hs (e.trans e'.symm)
            rw [e', ← hsame]
            refine ⟨q3, ?_⟩
            rcases x4c with z | ⟨m, z1, z2⟩
            · rw [z, big, nI_leI (by omega) (by omega)] at q3
              omega
            · rw [z2, big, nI_eq (by omega) (by omega)]
              omega
          · subst e8
            exact take o ho e a1 a2 (by omega) m2 q3
  · rintro ⟨x3, x4, x5⟩ ⟨h5, hI⟩ again
    dsimp only at h5 hI ⊢
    subst h5
    unfold w_X3_bestNext_9_r_B9
    refine ⟨fun _ => ?_, fun q => absurd (by decide) q⟩
    dsimp only
    rcases hI with ⟨i1, i2, i3⟩ | ⟨o, m, i1, i2, i3, i4, i5, i6, i7, i8, i9, i10⟩
    · have hz : mc (BR K T 0 n (n - k) s) = 99999 := by
        apply Classical.byContradiction
        intro q
        obtain ⟨o, ho, a1, a2, a3, a4⟩ := mc_step_ex K T 0 hn hk hs q
        exact a4 (i3 o ho (af_lt ho hs) a1 a2)
      rw [if_pos hz] at h
      rw [i1]
      exact h
    · have h1 := mc_step_le K T 0 hn hk hs i1 i3 i4 i5
      have hz : mc (BR K T 0 n (n - k) s) ≠ 99999 := by omega
      obtain ⟨o2, ho2, a1, a2, a3, a4⟩ := mc_step_ex K T 0 hn hk hs hz
      have h2 := (i10 o2 ho2 (af_lt ho2 hs) a1 a2 a4).1
      have hm : m = mc (BR K T 0 n (n - k) s) := by omega
      have enx : nxt K T n k s = af s o := by
        apply nxt_is K T (af_lt i1 hs)
        · exact (NXb_iff K T n k s _).mpr ⟨o, i1, rfl, i3, i4, by omega, i5⟩
        · intro t' ht'
          cases e : NXb K T n k s t'
          · rfl
          · obtain ⟨o', ho', c1, c2, c3, c4, c5⟩ := (NXb_iff K T n k s t').mp e
            have := (i10 o' ho' (by rw [c1]; omega) c2 c3 (by rw [c1]; exact c5)).2 (by rw [c1]; exact ht')
            rw [c1] at this
            omega
      rw [if_neg hz, enx] at h
      rw [i8]
      exact h
/-- the rows onward, and what a begin is best -/
def OWrows (K T : Nat → Int32) (n : Nat) (F : Nat → Nat → Int32) : Prop := ∀ k t, k < n → t < 2187 → LdB 32 (OW K T 0 n k t) (F (31 + k) t)
theorem rs_0 {t : Nat} (h : t < 4096) : rs (nI t) 0 = nI t := by
  unfold rs
  rw [show (nI t <<< ((0 : Int32) &&& 31)) = nI t from sb_shl0 _]
  have h1 : (nI t >>> (((12 : Int32) - 0) &&& 31)) = 0 := by
    rw [show ((12 : Int32) - 0) = 12 by decide, pk_shrN (k := 12) (by omega) _ (by decide), show t / 2 ^ 12 = 0 by omega]
    rfl
  rw [h1, show nI t ||| (0 : Int32) = nI t by
    apply b_ext
    intro i _
    rw [b_or, b_0, Bool.or_false], pk_andN (k := 12) (by omega) (by decide), show t % 2 ^ 12 = t by omega]
theorem s_goBackward {n : Nat} {I : Nat → Int32} {F : Nat → Nat → Int32} {post : (Nat → Int32) → (Nat → Nat → Int32) → Prop} (hn : n ≤ 8) (hn0 : 0 < n) (h8 : I 8 = nI n) (hTb : ∀ s, s < 2187 → F 25 s = hasR s 7) (htn : ∀ k, k < n → ∃ t, t < 4096 ∧ F 18 k = nI t)
    (hp : ∀ I2 F2, kI [17, 18] I I2 → (∀ r, r ≠ 30 → r < 31 → F2 r = F r) → OWrows (F 17) (F 18) n F2 → post I2 F2) : w_X3_goBackward_9_4 I F post := by
  have hrs : ∀ k, k < n → rs (F 18 k) 0 = F 18 k := fun k hk => by
    obtain ⟨t, ht, e⟩ := htn k hk
    rw [e, rs_0 ht]
  unfold w_X3_goBackward_9_4
  intro v ev
  rw [h8, show (1 : Int32) = nI 1 by decide, pk_sub (by omega)] at ev
  subst ev
  refine ⟨fun _ => ?_, fun q => absurd (nI_pos' (by omega)) q⟩
  generalize hKe : F 17 = K at *
  generalize hTe : F 18 = T at *
  have hvl : vp_in (nI (n - 1)) 8 := vp_in_nI (by omega) (by decide)
  refine gL_inv (fun j v => v.1 = nI j ∧ v.2.1 = I ∧ (∀ r, r ≠ 31 + (n - 1) → v.2.2 r = F r) ∧ ∀ t, t < j → LdB 32 (OW K T 0 n (n - 1) t) (v.2.2 (31 + (n - 1)) t)) 2187 ?_ ?_ ⟨rfl, rfl, fun _ _ => rfl, fun t ht => absurd ht (by omega)⟩
  · rintro t ht ⟨x3, J, L⟩ ⟨h3, hJ, hL, hP⟩ again hag
    dsimp only at h3 hJ hL hP ⊢
    subst h3
    subst hJ
    unfold w_X3_goBackward_9_4_B14
    have step : ∀ z : Int32, LdB 32 (OW K T 0 n (n - 1) t) z → ∀ F4 : Nat → Nat → Int32, F4 = upF L (31 + (n - 1)) (upd (L (31 + (n - 1))) t z) → again (nI t + (1 : Int32), J, F4) := by
      intro z hz F4 e4
      refine hag _ ⟨nI_1 t, rfl, fun r hr => ?_, fun u hu => ?_⟩
      · show F4 r = F r
        rw [e4, upF_n _ _ hr]
        exact hL r hr
      · show LdB _ _ (F4 (31 + (n - 1)) u)
        rw [e4, upF_s]
        by_cases e : u = t
        · subst e
          rw [pk_us]
          exact hz
        · rw [pk_un e]
          exact hP u (by omega)
    rw [nI_clamp (by omega), nI_clamp (by omega), hL 17 (by omega), hL 18 (by omega), hKe, hTe]
    refine ⟨fun q => absurd ((nI_leI (a := 2187) (by omega) (by omega)).mp q) (by omega), fun _ => ⟨hvl, hvl, s_fits ht (by rw [hL 25 (by omega)]; exact hTb t ht) (fun hf => ⟨hvl, fun q => absurd q (by decide), fun _ => ⟨vp_in_nI ht (by decide), step _ ?_⟩⟩) (fun hf => ⟨hvl, fun _ => ⟨vp_in_nI ht (by decide), step _ ?_⟩, fun q => absurd rfl q⟩)⟩⟩
    · have hf2 : fitK K T 0 (n - 1) t = true := by unfold fitK; rw [hrs (n - 1) (by omega)]; exact hf
      have e0 : OW K T 0 n (n - 1) t = fun c => if c = 0 then 1 else 0 := by
        funext c
        unfold OW
        rw [if_pos hf2, Nat.sub_self]
        rfl
      rw [e0]
      refine Or.inr ⟨0, by omega, by dsimp only; decide, fun c' hc' => absurd hc' (by omega), ?_⟩
      decide
    · have hf2 : ¬ fitK K T 0 (n - 1) t = true := by unfold fitK; rw [hrs (n - 1) (by omega), hf]; decide
      refine Or.inl ⟨fun c => ?_, zc_NO⟩
      unfold OW
      rw [if_neg hf2]
  · rintro ⟨x3, J, L⟩ ⟨h3, hJ, hL, hP⟩ again
    dsimp only at h3 hJ hL hP ⊢
    subst h3
    subst hJ
    unfold w_X3_goBackward_9_4_B14
    refine ⟨fun _ => ?_, fun q => absurd (by decide) q⟩
    refine gL_inv (fun j v => v.1 = nI (n - 1 - j) ∧ kI [17, 18] J v.2.1 ∧ (∀ r, r ≠ 30 → r < 31 → v.2.2 r = F r) ∧ ∀ k t, n - 1 - j ≤ k → k < n → t < 2187 → LdB 32 (OW K T 0 n k t) (v.2.2 (31 + k) t)) (n - 1) ?_ ?_ ⟨by rw [Nat.sub_zero], fun _ _ => rfl, fun r _ hr => hL r (by omega), fun k t h1 h2 ht => by rw [show k = n - 1 by omega]; exact hP t ht⟩
    · rintro j hj ⟨x3, J2, L2⟩ ⟨h3, hJ2, hL2, hP2⟩ again2 hag2
      dsimp only at h3 hJ2 hL2 hP2 ⊢
      subst h3
      obtain ⟨k, hk⟩ : ∃ k, n - 1 - j = k + 1 := ⟨n - 1 - j - 1, by omega⟩
      rw [hk]
      unfold w_X3_goBackward_9_4_B70
      refine ⟨fun q => absurd q (nI_nle (by omega) (by omega)), fun _ => s_gapAhead (by omega) (fun J3 b1 b2 b3 => ?_)⟩
      rw [nI_pred, nI_clamp (by omega), nI_clamp (by omega), hL2 17 (by decide) (by decide), hL2 18 (by decide) (by decide), hKe, hTe]
      rw [hL2 17 (by decide) (by decide), hKe] at b1
      rw [hL2 17 (by decide) (by decide), hL2 18 (by decide) (by decide), hKe, hTe] at b2
      have hv1 : vp_in (nI (k + 1)) 8 := vp_in_nI (by omega) (by decide)
      have hv0 : vp_in (nI k) 8 := vp_in_nI (by omega) (by decide)
      refine ⟨hv1, hv0, hv0, hv0, s_cross (G := fun t c => OW K T 0 n (k + 1) t c) (B := 32) (M := mostI (K (k + 1))) (by omega) (by omega) (by omega) (by omega) b1 (mostI_le _) (by omega) (fun s hs => by rw [hL2 25 (by decide) (by decide)]; exact hTb s hs) (fun t ht => hP2 (k + 1) t (by omega) (by omega) ht) (fun F7 d1 d2 => hag2 _ ⟨?_, ?_, ?_, ?_⟩)⟩
      · show nI (k + 1) + (-1 : Int32) = nI (n - 1 - (j + 1))
        rw [pk_m1, show n - 1 - (j + 1) = k by omega]
      · intro i hi
        show J3 i = J i
        rw [b3 i (fun q => hi (by rw [q]; decide)) (fun q => hi (by rw [q]; decide))]
        exact hJ2 i hi
      · intro r hr hr2
        show F7 r = F r
        rw [d1 r hr (by omega)]
        exact hL2 r hr hr2
      · intro k' t h1 h2 ht
        show LdB 32 _ (F7 (31 + k') t)
        by_cases e : k' = k
        · subst e
          have hd := d2 t ht
          have eG : ∀ c, (if fitI (hasR t 7) (K k') (T k') = true then Zs (mostI (K (k' + 1))) (okA (J3 18) 0) (fun t c => OW K T 0 n (k' + 1) t c) t c else 0) = OW K T 0 n k' t c := by
            intro c
            unfold OW fitK
            rw [hrs k' (by omega)]
            by_cases hf : fitI (hasR t 7) (K k') (T k') = true
            · rw [if_pos hf, if_pos hf, show n - 1 - k' = n - (k' + 1) by omega, BR_OW K T 0 (by omega) t c]
              apply Zs_congr
              intro p a b' hp7 _ hb3
              unfold okA
              rw [if_pos rfl, b2 p b' hp7 hb3]
            · rw [if_neg hf, if_neg hf]
          have hd2 : LdB 34 (OW K T 0 n k' t) (F7 (31 + k') t) := LdB_congr eG hd
          rcases hd2 with z | ⟨c, z1, z2, z3⟩
          · exact Or.inl z
          · refine Or.inr ⟨c, ?_, z2, z3⟩
            apply Classical.byContradiction
            intro q
            exact z2 (OW_bd K T 0 hn ht c (by omega))
        · rw [d1 (31 + k') (by omega) (by omega)]
          exact hP2 k' t (by omega) h2 ht
    · rintro ⟨x3, J2, L2⟩ ⟨h3, hJ2, hL2, hP2⟩ again2
      dsimp only at h3 hJ2 hL2 hP2 ⊢
      rw [Nat.sub_self] at h3
      subst h3
      unfold w_X3_goBackward_9_4_B70
      exact ⟨fun _ => hp J2 L2 hJ2 hL2 (fun k t hk ht => hP2 k t (by omega) hk ht), fun q => absurd (by decide) q⟩
