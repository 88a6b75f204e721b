/-! the reference: freshen -/
def waysN (K T : Nat → Int32) (n b : Nat) : Nat := if mc (BR K T 0 n n b) = 99999 then 0 else TP K T 0 b n (mc (BR K T 0 n n b)) % 1000003
def stk (K T : Nat → Int32) (b k : Nat) : Int32 := if fa_first (fun i => decide (rc K T 0 b i = 0)) k < k then nI (fa_first (fun i => decide (rc K T 0 b i = 0)) k) else -1
def validM (n b : Nat) (K T : Nat → Int32) (I : Nat → Int32) (F : Nat → Nat → Int32) : Prop := I 7 = nI (mc (BR K T 0 n n b)) ∧ I 8 = nI (waysN K T n b) ∧ I 9 = stk K T b n ∧ ∀ k, k < n → F 20 k = bestI K T n b k ∧ F 21 k = nI (rc K T 0 b k)
def cacheM (n b : Nat) (I : Nat → Int32) (F : Nat → Nat → Int32) : Prop := I 6 = 1 ∨ (I 6 = 0 ∧ validM n b (F 14) (F 15) I F)
theorem nzP_M {B : Nat} {G : Nat → Nat} {x w : Int32} (hB : B < 64) (h : LdM B G x w) : (99999 : Int32) ≤ x ↔ nzP G = false := by
  rw [show (99999 : Int32) = nI 99999 by decide, LdM_far (by omega) h]
  constructor
  · intro h2
    apply decide_eq_false
    rw [fb_sm_cong (g := fun _ => 0) (fun k _ => h2 k), fb_sm_const]
    simp
  · intro h2
    have h3 : fb_sm G 64 = 0 := by
      have h4 := of_decide_eq_false h2
      omega
    rcases h with ⟨h5, -, -⟩ | ⟨c, h5, h6, -, -⟩
    · exact h5
    · exact absurd (fb_sm_zero h3 c (by omega)) h6
theorem neg1_nI {n : Nat} (h : n < 2 ^ 31) : ¬ nI n = (-1 : Int32) := by
  intro q
  have h2 := congrArg Int32.toInt q
  rw [nI_toInt h, show (-1 : Int32).toInt = -1 by decide] at h2
  omega
theorem rem_nI {a : Nat} (h : a < 2 ^ 31) : nI a - nI a / (1000003 : Int32) * (1000003 : Int32) = nI (a % 1000003) := by
  rw [show (1000003 : Int32) = nI 1000003 by decide, pk_rem h (by omega) (by omega)]
theorem m_bestFromE {s k n : Nat} {x1 x2 : Int32} {y : Int32} {I : Nat → Int32} {F : Nat → Nat → Int32} {hs : Int64} {post : Int32 → Prop} (e1 : x1 = nI s) (e2 : x2 = nI k) (hM : mTab F) (h1 : s < 2187) (hk : k < n) (hn : n ≤ 8) (hf : ∀ u, u < 2187 → F 16 (2187 * k + u) = if fitK (F 14) (F 15) y k u = true then 1 else 0) (hr : ∀ u, u < 2187 → F 17 (2187 * k + u) = nI (mc (OW (F 14) (F 15) y n k u))) (h : post (nI (mc (BR (F 14) (F 15) y n (n - k) s)))) : w_X9_bestFrom x1 x2 y I F hs post := by
  subst e1
  subst e2
  exact m_bestFrom hM h1 hk hn hf hr h
theorem m_freshen {n b : Nat} {I : Nat → Int32} {F : Nat → Nat → Int32} {hs : Int64} {post : (Nat → Int32) → (Nat → Nat → Int32) → Int64 → Prop} (hM : mTab F) (hn : n ≤ 8) (hn0 : 0 < n) (h3 : I 3 = nI n) (h4 : I 4 = nI b) (hb : b < 2187) (hc : cacheM n b I F)
    (h : ∀ I2 F2, kI [6, 7, 8, 9] I I2 → kF [16, 17, 18, 19, 20, 21] F F2 → I2 6 = 0 → validM n b (F 14) (F 15) I2 F2 → post I2 F2 hs) : w_X9_freshen I F hs post := by
  unfold w_X9_freshen
  refine ⟨fun hne => ?_, fun he => ?_⟩
  · refine m_layRest hM hn h3 (fun F1 a1 a2 a3 => ?_)
    have g14 : F1 14 = F 14 := a1 14 (by decide)
    have g15 : F1 15 = F 15 := a1 15 (by decide)
    have hM1 : mTab F1 := mTab_of (fun k hk => a1 k (by simp; omega)) hM
    refine m_bestFromE (s := b) (k := 0) (n := n) h4 rfl hM1 hb hn0 hn (fun u hu => by rw [g14, g15]; exact a2 0 u hn0 hu) (fun u hu => by rw [g14, g15]; exact a3 0 u hn0 hu) (fun I44 e44 => ?_)
    rw [g14, g15, Nat.sub_zero] at e44
    have i3 : I44 3 = nI n := by rw [e44, pk_un (by decide)]; exact h3
    have i4 : I44 4 = nI b := by rw [e44, pk_un (by decide)]; exact h4
    have i7 : I44 7 = nI (mc (BR (F 14) (F 15) 0 n n b)) := by rw [e44, pk_us]
    refine m_layCost (n := n) (b := b) hM1 hn hn0 i3 i4 hb (fun k u hk hu => by rw [g14, g15]; exact a2 k u hk hu) (fun F2 b1 b2 I48 e48 I49 e49 => ?_)
    rw [g14, g15] at b2
    generalize hKe : F 14 = K at *
    generalize hTe : F 15 = T at *
    generalize hfe : mc (BR K T 0 n n b) = f at *
    have kF2 : kF [16, 17, 18, 19] F F2 := fun r hr => by
      rw [b1 r (fun q => hr (by simp at q ⊢; omega)), a1 r (fun q => hr (by simp at q ⊢; omega))]
    have j3 : I49 3 = nI n := by rw [e49, pk_un (by decide), e48, pk_un (by decide)]; exact i3
    have j7 : I49 7 = nI f := by rw [e49, pk_un (by decide), e48, pk_un (by decide)]; exact i7
    have j8 : I49 8 = nI 0 := by rw [e49, pk_un (by decide), e48, pk_us]; rfl
    have j9 : I49 9 = -1 := by rw [e49, pk_us]
    have jj : ∀ j, j ≠ 7 → j ≠ 8 → j ≠ 9 → I49 j = I j := fun j q1 q2 q3 => by rw [e49, pk_un q3, e48, pk_un q2, e44, pk_un q1]
    have hfle : f ≤ 99999 := by rw [← hfe]; exact mc_le (by omega) (BR_bd K T 0 hn hb)
    have hP1 : ∀ a, a % 1000003 < 1000003 := fun a => Nat.mod_lt _ (by decide)
    refine gL_inv (fun k v => v.1 = nI k ∧ v.2.2.2 = hs ∧ (∀ j, j ≠ 8 → j ≠ 9 → v.2.1 j = I49 j) ∧ v.2.1 8 = nI (if k = n then waysN K T n b else 0) ∧ v.2.1 9 = stk K T b k ∧ (∀ r, r ≠ 21 → v.2.2.1 r = F2 r) ∧ ∀ i, i < k → v.2.2.1 21 i = nI (rc K T 0 b i)) n ?_ ?_ ⟨rfl, rfl, fun _ _ _ => rfl, by rw [if_neg (by omega)]; exact j8, by rw [show stk K T b 0 = -1 from rfl]; exact j9, fun _ _ => rfl, fun i hi => absurd hi (by omega)⟩
    · rintro k hk ⟨x1, J, L, g⟩ ⟨q1, hg, hJ, hJ8, hJ9, hL, hR⟩ again hag
      dsimp only at q1 hg hJ hJ8 hJ9 hL hR ⊢
      subst q1
      subst hg
      rw [if_neg (by omega)] at hJ8
      have hvk : vp_in (nI k) 8 := vp_in_nI (by omega) (by decide)
      unfold w_X9_freshen_B43
      refine ⟨fun q => absurd ((nI_leI (a := n) (b := k) (by omega) (by omega)).mp (by rw [hJ 3 (by decide) (by decide), j3] at q; exact q)) (by omega), fun _ => ⟨hvk, fun F29 e29 => ?_⟩⟩
      rw [nI_clamp (by omega)] at e29
      have tmd : ∀ s, s < 2187 → k + 1 = n → (if f = 99999 then 0 else GP K T 0 b n s f) % 1000003 = if F2 18 (2187 * k + s) = nI f ∧ ¬ nI 99999 ≤ F2 18 (2187 * k + s) then (if f = 99999 then 0 else GP K T 0 b n s f) % 1000003 else 0 := by
        intro s hs2 hkn
        have hld := b2 k s hk hs2
        rw [hkn] at hld
        by_cases hcc : F2 18 (2187 * k + s) = nI f ∧ ¬ nI 99999 ≤ F2 18 (2187 * k + s)
        · rw [if_pos hcc]
        · rw [if_neg hcc]
          by_cases hf9 : f = 99999
          · rw [if_pos hf9]
          · rw [if_neg hf9]
            have hz : GP K T 0 b n s f = 0 := by
              rcases hld with ⟨z1, -, -⟩ | ⟨c, z1, z2, z3, z4, -⟩
              · exact z1 f
              · have hcf : f ≤ c := by
                  rw [← hfe]
                  refine mc_min (B := 16) (by omega) (BR_bd K T 0 hn hb) ((TP_BR K T 0 hb c).mp ?_)
                  unfold TP
                  rw [sm_ne]
                  exact ⟨s, hs2, z2⟩
                have hlt : f < c := by
                  rcases Nat.lt_or_ge f c with q | q
                  · exact q
                  · exfalso
                    apply hcc
                    rw [z4]
                    refine ⟨by rw [show c = f by omega], ?_⟩
                    rw [nI_leI (by omega) (by omega)]
                    omega
                exact z3 f hlt
            rw [hz]
      refine gL_inv (fun u v => v.1 = nI u ∧ v.2.2.2 = g ∧ (∀ j, j ≠ 8 → v.2.1 j = J j) ∧ v.2.1 8 = nI (if k + 1 = n then fb_sm (fun s => if f = 99999 then 0 else GP K T 0 b n s f) u % 1000003 else 0) ∧ (∀ r, r ≠ 21 → v.2.2.1 r = F2 r) ∧ (∀ i, i < k → v.2.2.1 21 i = nI (rc K T 0 b i)) ∧ v.2.2.1 21 k = nI (fb_ct (fun t => nzP (GP K T 0 b (k + 1) t)) u)) 2187 ?_ ?_ ⟨rfl, rfl, fun _ _ => rfl, ?_, fun r hr => ?_, fun i hi => ?_, ?_⟩
      · rintro u hu ⟨x2, J2, L2, g2⟩ ⟨p1, hg2, hJ2, hJ28, hL2, hR2, hC2⟩ again2 hag2
        dsimp only at p1 hg2 hJ2 hJ28 hL2 hR2 hC2 ⊢
        subst p1
        subst hg2
        have hld := b2 k u hk hu
        have hcost : L2 18 = F2 18 := hL2 18 (by decide)
        have hways : L2 19 = F2 19 := hL2 19 (by decide)
        have hnz := nzP_M (by omega) hld
        have hv : vp_in (nI (2187 * k + u)) 17496 := vp_in_nI (by omega) (by decide)
        have hI3 : J2 3 = nI n := by rw [hJ2 3 (by decide), hJ 3 (by decide) (by decide)]; exact j3
        have hI7 : J2 7 = nI f := by rw [hJ2 7 (by decide), hJ 7 (by decide) (by decide)]; exact j7
        have hn1 : (nI k = nI n - (1 : Int32)) ↔ k + 1 = n := by
          rw [show (1 : Int32) = nI 1 by decide, pk_sub (by omega), nI_eq (by omega) (by omega)]
          omega
        have step : ∀ (ev wv : Nat), ev = (if nzP (GP K T 0 b (k + 1) u) then 1 else 0) → wv < 1000003 → (if k + 1 = n then (fb_sm (fun s => if f = 99999 then 0 else GP K T 0 b n s f) u + wv) % 1000003 = fb_sm (fun s => if f = 99999 then 0 else GP K T 0 b n s f) (u + 1) % 1000003 else wv = 0) → ∀ F4 : Nat → Nat → Int32, F4 = upF L2 21 (upd (L2 21) k (L2 21 k + nI ev)) → ∀ I6 : Nat → Int32, I6 = upd J2 8 (J2 8 + nI wv) → ∀ I7 : Nat → Int32, I7 = upd I6 8 (I6 8 - I6 8 / (1000003 : Int32) * (1000003 : Int32)) → again2 (nI u + (1 : Int32), I7, F4, g2) := by
          intro ev wv hev hwv hwm F4 e4 I6 e6 I7 e7
          refine hag2 _ ⟨nI_1 u, rfl, fun j hj => ?_, ?_, fun r hr => ?_, fun i hi => ?_, ?_⟩
          · show I7 j = J j
            rw [e7, pk_un hj, e6, pk_un hj]
            exact hJ2 j hj
          · show I7 8 = _
            rw [e7, pk_us, e6, pk_us, hJ28, nI_add]
            by_cases hkn : k + 1 = n
            · rw [if_pos hkn] at hwm
              rw [if_pos hkn, if_pos hkn, rem_nI (by have := hP1 (fb_sm (fun s => if f = 99999 then 0 else GP K T 0 b n s f) u); omega), Nat.mod_add_mod, hwm]
            · rw [if_neg hkn] at hwm
              rw [if_neg hkn, if_neg hkn, hwm, rem_nI (by omega)]
          · show F4 r = F2 r
            rw [e4, upF_n _ _ hr]
            exact hL2 r hr
          · show F4 21 i = _
            rw [e4, upF_s, pk_un (by omega)]
            exact hR2 i hi
          · show F4 21 k = _
            rw [e4, upF_s, pk_us, hC2, nI_add, fb_ct_succ, hev]
        unfold w_X9_freshen_B60
        refine ⟨fun q => absurd ((nI_leI (a := 2187) (by omega) (by omega)).mp q) (by omega), fun _ v2 ev2 => ?_⟩
        rw [show (2187 : Int32) = nI 2187 by decide, ix2] at ev2
        subst ev2
        rw [nI_clamp (by omega), nI_clamp (by omega), hcost, hI3, hn1, hI7]
        have no0 : ∀ ev, ev = (if nzP (GP K T 0 b (k + 1) u) then 1 else 0) → (k + 1 = n → ¬ (F2 18 (2187 * k + u) = nI f ∧ ¬ nI 99999 ≤ F2 18 (2187 * k + u))) → ∀ F4 : Nat → Nat → Int32, F4 = upF L2 21 (upd (L2 21) k (L2 21 k + nI ev)) → ∀ I6 : Nat → Int32, I6 = upd J2 8 (J2 8 + nI 0) → ∀ I7 : Nat → Int32, I7 = upd I6 8 (I6 8 - I6 8 / (1000003 : Int32) * (1000003 : Int32)) → again2 (nI u + (1 : Int32), I7, F4, g2) := by
          intro ev hev hno
          refine step ev 0 hev (by omega) ?_
          by_cases hkn : k + 1 = n
          · rw [if_pos hkn, fb_sm_succ]
            have ht := tmd u hu hkn
            rw [if_neg (hno hkn)] at ht
            rw [Nat.add_zero, Nat.add_mod, ht, Nat.add_zero, Nat.mod_mod]
          · rw [if_neg hkn]
        refine ⟨hvk, hv, fun q => ⟨hvk, fun F4 e4 => ?_⟩, fun q => ⟨hvk, fun F4 e4 => ?_⟩⟩
        · have hev : 0 = (if nzP (GP K T 0 b (k + 1) u) then 1 else 0) := by rw [hnz.mp q]; rfl
          have hq : nI 99999 ≤ F2 18 (2187 * k + u) := q
          have f18 : F4 18 = F2 18 := by rw [e4, upF_n _ _ (by decide)]; exact hcost
          rw [f18]
          refine ⟨fun _ => no0 0 hev (fun _ z => z.2 hq) F4 e4, fun hkn => ⟨hv, fun _ => no0 0 hev (fun _ z => z.2 hq) F4 e4, fun q2 => absurd q q2⟩⟩
        · have hz1 : nzP (GP K T 0 b (k + 1) u) = true := by
            cases e : nzP (GP K T 0 b (k + 1) u)
            · exact absurd (hnz.mpr e) q
            · rfl
          have hev : 1 = (if nzP (GP K T 0 b (k + 1) u) then 1 else 0) := by rw [hz1]; rfl
          have f18 : F4 18 = F2 18 := by rw [e4, upF_n _ _ (by decide)]; exact hcost
          have f19 : F4 19 = F2 19 := by rw [e4, upF_n _ _ (by decide)]; exact hways
          rw [f18, f19]
          refine ⟨fun hkn => no0 1 hev (fun q2 => absurd q2 hkn) F4 e4, fun hkn => ⟨hv, fun q2 => absurd q2 q, fun _ => ⟨hv, fun q3 => no0 1 hev (fun _ z => q3 z.1) F4 e4, fun q3 => ⟨hv, ?_⟩⟩⟩⟩
          rcases hld with ⟨-, z2, -⟩ | ⟨c, z1, z2, z3, z4, z5⟩
          · exact absurd (by rw [z2]; exact Int32.le_refl _) q
          · have ecf : c = f := (nI_eq (by omega) (by omega)).mp (by rw [← z4]; exact q3)
            rw [z5]
            refine step 1 _ hev (hP1 _) ?_ F4 e4
            rw [if_pos hkn, fb_sm_succ, if_neg (by omega), ecf, hkn, Nat.add_mod_mod]
      · rintro ⟨x2, J2, L2, g2⟩ ⟨p1, hg2, hJ2, hJ28, hL2, hR2, hC2⟩ again2
        dsimp only at p1 hg2 hJ2 hJ28 hL2 hR2 hC2 ⊢
        subst p1
        subst hg2
        have hC3 : L2 21 k = nI (rc K T 0 b k) := hC2
        have hJ29 : J2 9 = stk K T b k := by rw [hJ2 9 (by decide)]; exact hJ9
        have hrb : rc K T 0 b k ≤ 2187 := fb_ct_le _ _
        have next : ∀ z : Int32, z = stk K T b (k + 1) → ∀ I35 : Nat → Int32, I35 = upd J2 9 z → again (nI k + (1 : Int32), I35, L2, g2) := by
          intro z hz I35 e35
          refine hag _ ⟨nI_1 k, rfl, fun j q1 q2 => ?_, ?_, ?_, hL2, fun i hi => ?_⟩
          · show I35 j = I49 j
            rw [e35, pk_un q2, hJ2 j q1]
            exact hJ j q1 q2
          · show I35 8 = _
            rw [e35, pk_un (by decide), hJ28]
            by_cases hkn : k + 1 = n
            · rw [if_pos hkn, if_pos hkn]
              unfold waysN
              rw [hfe]
              by_cases hf9 : f = 99999
              · rw [if_pos hf9, fb_sm_cong (g := fun _ => 0) (fun s _ => if_pos hf9), fb_sm_const]
              · rw [if_neg hf9, fb_sm_cong (g := fun s => GP K T 0 b n s f) (fun s _ => if_neg hf9)]
                rfl
            · rw [if_neg hkn, if_neg hkn]
          · show I35 9 = _
            rw [e35, pk_us]
            exact hz
          · show L2 21 i = _
            by_cases e : i = k
            · subst e; exact hC3
            · exact hR2 i (by omega)
        have fs : fa_first (fun i => decide (rc K T 0 b i = 0)) (k + 1) = if fa_first (fun i => decide (rc K T 0 b i = 0)) k < k then fa_first (fun i => decide (rc K T 0 b i = 0)) k else if decide (rc K T 0 b k = 0) = true then k else k + 1 := rfl
        have hfl := fa_first_le (fun i => decide (rc K T 0 b i = 0)) k
        unfold w_X9_freshen_B60
        refine ⟨fun _ => ⟨fun q => ?_, fun q => ?_⟩, fun q => absurd (by decide) q⟩
        · refine next _ ?_
          rw [hJ29] at q ⊢
          unfold stk at q ⊢
          by_cases hlt : fa_first (fun i => decide (rc K T 0 b i = 0)) k < k
          · rw [fs, if_pos hlt, if_pos hlt, if_pos (by omega)]
          · rw [if_neg hlt] at q
            exact absurd rfl q
        · have hlt : ¬ fa_first (fun i => decide (rc K T 0 b i = 0)) k < k := by
            intro z
            rw [hJ29] at q
            unfold stk at q
            rw [if_pos z] at q
            exact neg1_nI (by omega) q
          have hz0 : (nI (rc K T 0 b k) = 0) ↔ rc K T 0 b k = 0 := nI_eq (b := 0) (by omega) (by omega)
          rw [nI_clamp (by omega), hC3, hz0]
          refine ⟨hvk, fun q2 => next _ ?_, fun q2 => next _ ?_⟩
          · rw [hJ29]
            unfold stk
            rw [if_neg hlt, fs, if_neg hlt, if_neg (show ¬ decide (rc K T 0 b k = 0) = true from fun z => q2 (of_decide_eq_true z)), if_neg (by omega)]
          · unfold stk
            rw [fs, if_neg hlt, if_pos (show decide (rc K T 0 b k = 0) = true from decide_eq_true q2), if_pos (by omega)]
      · show J 8 = _
        rw [hJ8]
        split <;> rfl
      · show F29 r = F2 r
        rw [e29, upF_n _ _ hr]
        exact hL r hr
      · show F29 21 i = _
        rw [e29, upF_s, pk_un (by omega)]
        exact hR i hi
      · show F29 21 k = _
        rw [e29, upF_s, pk_us]
        rfl
    · rintro ⟨x1, J, L, g⟩ ⟨q1, hg, hJ, hJ8, hJ9, hL, hR⟩ again
      dsimp only at q1 hg hJ hJ8 hJ9 hL hR ⊢
      subst q1
      subst hg
      rw [if_pos rfl] at hJ8
      have l14 : L 14 = K := by rw [hL 14 (by decide), kF2 14 (by decide)]; exact hKe
      have l15 : L 15 = T := by rw [hL 15 (by decide), kF2 15 (by decide)]; exact hTe
      have hI3 : J 3 = nI n := by rw [hJ 3 (by decide) (by decide)]; exact j3
      unfold w_X9_freshen_B43
      refine ⟨fun _ => ?_, fun q => absurd (by rw [hI3]; exact Int32.le_refl _) q⟩
      refine m_layBest (n := n) (b := b) (mTab_of (fun k hk => by rw [hL k (by omega), kF2 k (by simp; omega)]) hM) hn hI3 (by rw [hJ 4 (by decide) (by decide), jj 4 (by decide) (by decide) (by decide)]; exact h4) hb (by rw [l14, l15, hfe, hJ 7 (by decide) (by decide)]; exact j7) (fun k u hk hu => by rw [l14, l15, hL 16 (by decide), b1 16 (by decide)]; exact a2 k u hk hu) (fun k u hk hu => by rw [l14, l15, hL 17 (by decide), b1 17 (by decide)]; exact a3 k u hk hu) (fun F5 c1 c2 I57 e57 => ?_)
      rw [l14, l15] at c2
      refine h I57 F5 (fun j hj => ?_) (fun r hr => ?_) (by rw [e57, pk_us]) ⟨?_, ?_, ?_, fun k hk => ⟨c2 k hk, ?_⟩⟩
      · simp only [List.mem_cons, List.not_mem_nil, or_false, not_or] at hj
        rw [e57, pk_un hj.1, hJ j hj.2.2.1 hj.2.2.2, jj j hj.2.1 hj.2.2.1 hj.2.2.2]
      · simp only [List.mem_cons, List.not_mem_nil, or_false, not_or] at hr
        rw [c1 r (by simp; omega), hL r (by omega), kF2 r (by simp; omega)]
      · rw [e57, pk_un (by decide), hJ 7 (by decide) (by decide), hfe]
        exact j7
      · rw [e57, pk_un (by decide)]
        exact hJ8
      · rw [e57, pk_un (by decide)]
        exact hJ9
      · rw [c1 21 (by decide)]
        exact hR k hk
  · rcases hc with h1 | ⟨h1, h2⟩
    · rw [he] at h1
      exact absurd h1 (by decide)
    · exact h I F (fun _ _ => rfl) (fun _ _ => rfl) he h2
