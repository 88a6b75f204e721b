/-! gathered, spreadByRight, cross: one gap, both ways -/
theorem s_gathered {r t n B : Nat} {ah : Int32} {I : Nat → Int32} {F : Nat → Nat → Int32} {post : Int32 → Prop} {G : Nat → Nat → Nat} (ht : t < 2187) (hn : n ≤ 7) (hB : B + 1 ≤ 1000) (hE : ∀ s, s < 2187 → LdB B (G s) (F r s)) (hp : ∀ z, LdB (B + 1) (Rg 0 n (okA (I 18) ah) G t) z → post z) : w_X3_gathered_9_r r (nI t) (nI n) ah I F post := by
  generalize hoke : okA (I 18) ah = ok at hp
  unfold w_X3_gathered_9_r
  refine ⟨vp_in_nI ht (by decide), fun v hv => ?_⟩
  rw [nI_clamp (by omega)] at hv
  refine gL_inv (fun p v => v.2 = nI p ∧ LdB (B + 1) (fun c => G t c + fb_sm (fun p => Pd ok G t c (0 + p)) p) v.1) n ?_ ?_ ⟨rfl, ?_⟩
  · rintro p hpn ⟨x5, x6⟩ ⟨h6, hL⟩ again hag
    dsimp only at h6 hL ⊢
    subst h6
    unfold w_X3_gathered_9_r_B8
    refine ⟨fun q => absurd ((nI_leI (by omega) (by omega)).mp q) (by omega), fun _ => s_pos ht (by omega) ?_⟩
    have hp7 : p < 7 := by omega
    refine gL_inv (fun j v => v.2 = nI j ∧ LdB (B + 1) (fun c => G t c + fb_sm (fun p => Pd ok G t c (0 + p)) p + fb_sm (fun d => if d ≠ pos t p ∧ ok p d (pos t p) = true then sh 1 (G (setP t p d)) c else 0) j) v.1) 3 ?_ ?_ ⟨rfl, LdB_congr (fun c => (Nat.add_zero _).symm) hL⟩
    · rintro j hj ⟨y5, x8⟩ ⟨h8, hM⟩ again2 hag2
      dsimp only at h8 hM ⊢
      subst h8
      have tail : ok p j (pos t p) = true → j ≠ pos t p → (vp_in (nI p) 7 ∧ vp_in (nI t + ((nI j - nI (pos t p)) * (tabW (nI p).toNatClampNeg))) 2187 ∧ ∀ v6 : Int32, v6 = (F r ((nI t + ((nI j - nI (pos t p)) * (tabW (nI p).toNatClampNeg)))).toNatClampNeg) → ((v6 = (1073741824 : Int32) → again2 (y5, nI j + (1 : Int32))) ∧ (¬ v6 = (1073741824 : Int32) → w_X3_joined y5 (v6 + (1048576 : Int32)) I F (fun (r8 : Int32) => again2 (r8, nI j + (1 : Int32)))))) := by
        intro h1 h2
        have hlt := setP_lt (d := j) hp7 ht (by omega)
        rw [ix_setP hp7]
        refine ⟨vp_in_nI hp7 (by decide), vp_in_nI hlt (by decide), fun v6 e6 => ?_⟩
        rw [nI_clamp (by omega)] at e6
        have hv6 : LdB B (G (setP t p j)) v6 := by rw [e6]; exact hE _ hlt
        refine ⟨fun q => hag2 _ ⟨nI_1 j, ?_⟩, fun q => s_joined (B := B + 1) (by omega) hM (LdB_up (by omega) hv6 q) (fun z hz => hag2 _ ⟨nI_1 j, ?_⟩)⟩
        · refine LdB_congr (fun c => ?_) hM
          rw [fb_sm_succ, if_pos ⟨h2, h1⟩, sh_none ((LdB_none (by omega) hv6).mp q)]
          omega
        · refine LdB_congr (fun c => ?_) hz
          rw [fb_sm_succ, if_pos ⟨h2, h1⟩]
          omega
      have skip : ok p j (pos t p) = false → again2 (y5, nI j + (1 : Int32)) := fun h1 => hag2 _ ⟨nI_1 j, by
        refine LdB_congr (fun c => ?_) hM
        rw [fb_sm_succ, if_neg (by rintro ⟨-, q⟩; rw [h1] at q; cases q)]
        omega⟩
      unfold w_X3_gathered_9_r_B25
      refine ⟨fun q => absurd ((nI_leI (a := 3) (by omega) (by omega)).mp q) (by omega), fun _ => ⟨fun e => ?_, fun e => ?_⟩⟩
      · rw [nI_eq (by omega) (by have := pos_lt t p; omega)] at e
        refine hag2 _ ⟨nI_1 j, LdB_congr (fun c => ?_) hM⟩
        rw [fb_sm_succ, if_neg (fun q => q.1 e)]
        omega
      · rw [nI_eq (by omega) (by have := pos_lt t p; omega)] at e
        refine ⟨fun ha => s_holds (fun hh => ?_) (fun hh => ?_), fun ha => s_holds (fun hh => ?_) (fun hh => ?_)⟩
        · exact ⟨fun q => absurd rfl q, fun _ => tail (by rw [← hoke]; unfold okA; rw [if_pos ha, hh]; rfl) e⟩
        · exact ⟨fun _ => skip (by rw [← hoke]; unfold okA; rw [if_pos ha, hh]; rfl), fun q => absurd q (by decide)⟩
        · exact ⟨fun q => absurd rfl q, fun _ => tail (by rw [← hoke]; unfold okA; rw [if_neg ha, hh]; rfl) e⟩
        · exact ⟨fun _ => skip (by rw [← hoke]; unfold okA; rw [if_neg ha, hh]; rfl), fun q => absurd q (by decide)⟩
    · rintro ⟨y5, x8⟩ ⟨h8, hM⟩ again2
      dsimp only at h8 hM ⊢
      subst h8
      unfold w_X3_gathered_9_r_B25
      refine ⟨fun _ => hag _ ⟨nI_1 p, ?_⟩, fun q => absurd (by decide) q⟩
      refine LdB_congr (fun c => ?_) hM
      have e0 : Pd ok G t c (0 + p) = fb_sm (fun d => if d ≠ pos t p ∧ ok p d (pos t p) = true then sh 1 (G (setP t p d)) c else 0) 3 := by rw [Nat.zero_add]; rfl
      rw [fb_sm_succ (fun p => Pd ok G t c (0 + p)) p, e0]
      omega
  · rintro ⟨x5, x6⟩ ⟨h6, hL⟩ again
    dsimp only at h6 hL ⊢
    subst h6
    unfold w_X3_gathered_9_r_B8
    exact ⟨fun _ => hp _ hL, fun q => absurd (Int32.le_refl _) q⟩
  · rw [hv]
    exact LdB_mono (by omega) (hE t ht)
/-- one push: from the setting s by the pedal 3 + p to the position d -/
def ev (ok : Nat → Nat → Nat → Bool) (G : Nat → Nat → Nat) (t c s p d : Nat) : Nat := if (d ≠ pos s (3 + p) ∧ ok (3 + p) (pos s (3 + p)) d = true) ∧ setP s (3 + p) d = t then sh 1 (G s) c else 0
theorem ev_sum (ok : Nat → Nat → Nat → Bool) (G : Nat → Nat → Nat) {t : Nat} (ht : t < 2187) (c : Nat) : fb_sm (fun s => fb_sm (fun p => fb_sm (fun d => ev ok G t c s p d) 3) 4) 2187 = fb_sm (fun p => Pd ok G t c (3 + p)) 4 := by
  rw [sm_comm]
  refine fb_sm_cong (fun p hp => ?_)
  have hp7 : 3 + p < 7 := by omega
  have hpt := pos_lt t (3 + p)
  have h1 : ∀ s, s < 2187 → fb_sm (fun d => ev ok G t c s p d) 3 = fb_sm (fun d => if s = setP t (3 + p) d then (if d ≠ pos t (3 + p) ∧ ok (3 + p) d (pos t (3 + p)) = true then sh 1 (G s) c else 0) else 0) 3 := by
    intro s hs
    have hps := pos_lt s (3 + p)
    have e1 : fb_sm (fun d => ev ok G t c s p d) 3 = ev ok G t c s p (pos t (3 + p)) := by
      rw [fb_sm_cong (g := fun d => if d = pos t (3 + p) then ev ok G t c s p d else 0), sm_delta (fun d => ev ok G t c s p d), if_pos hpt]
      intro d hd
      by_cases h : d = pos t (3 + p)
      · rw [if_pos h]
      · rw [if_neg h]
        unfold ev
        rw [if_neg]
        rintro ⟨-, q⟩
        apply h
        rw [← q, pos_setP hp7 hs hd]
    rw [e1]
    by_cases h : setP s (3 + p) (pos t (3 + p)) = t
    · have es : s = setP t (3 + p) (pos s (3 + p)) := by
        rw [← h, setP_setP hp7 hs hpt, setP_self]
      rw [fb_sm_cong (g := fun d => if d = pos s (3 + p) then (if d ≠ pos t (3 + p) ∧ ok (3 + p) d (pos t (3 + p)) = true then sh 1 (G s) c else 0) else 0), sm_delta (fun d => if d ≠ pos t (3 + p) ∧ ok (3 + p) d (pos t (3 + p)) = true then sh 1 (G s) c else 0), if_pos hps]
      · unfold ev
        by_cases h2 : pos s (3 + p) ≠ pos t (3 + p) ∧ ok (3 + p) (pos s (3 + p)) (pos t (3 + p)) = true
        · rw [if_pos ⟨⟨fun q => h2.1 q.symm, h2.2⟩, h⟩, if_pos h2]
        · rw [if_neg (fun q => h2 ⟨fun z => q.1.1 z.symm, q.1.2⟩), if_neg h2]
      · intro d hd
        by_cases h3 : d = pos s (3 + p)
        · rw [if_pos h3, if_pos (by rw [h3]; exact es)]
        · rw [if_neg h3, if_neg]
          intro q
          apply h3
          rw [q, pos_setP hp7 ht hd]
    · unfold ev
      rw [if_neg (fun q => h q.2), fb_sm_cong (g := fun _ => 0), fb_sm_const]
      intro d hd
      rw [if_neg]
      intro q
      apply h
      rw [q, setP_setP hp7 ht hd, setP_self]
  rw [fb_sm_cong h1, sm_comm]
  unfold Pd
  refine fb_sm_cong (fun d hd => ?_)
  rw [sm_delta (fun s => if d ≠ pos t (3 + p) ∧ ok (3 + p) d (pos t (3 + p)) = true then sh 1 (G s) c else 0), if_pos (setP_lt hp7 ht hd)]
theorem s_spread {r B : Nat} {ah : Int32} {I : Nat → Int32} {F : Nat → Nat → Int32} {post : (Nat → Int32) → (Nat → Nat → Int32) → Prop} {G : Nat → Nat → Nat} (hr : r ≠ 30) (hB : B + 1 ≤ 1000) (hE : ∀ s, s < 2187 → LdB B (G s) (F r s)) (hH : ∀ s, s < 2187 → LdB B (G s) (F 30 s)) (hp : ∀ F2, (∀ k, k ≠ 30 → F2 k = F k) → (∀ t, t < 2187 → LdB (B + 1) (Rg 3 4 (okA (I 18) ah) G t) (F2 30 t)) → post I F2) : w_X3_spreadByRight_9_r r ah I F post := by
  generalize hoke : okA (I 18) ah = ok at hp
  unfold w_X3_spreadByRight_9_r
  refine gL_inv (fun j v => v.1 = nI j ∧ v.2.1 = I ∧ (∀ k, k ≠ 30 → v.2.2 k = F k) ∧ ∀ t, t < 2187 → LdB (B + 1) (fun c => G t c + fb_sm (fun s => fb_sm (fun p => fb_sm (fun d => ev ok G t c s p d) 3) 4) j) (v.2.2 30 t)) 2187 ?_ ?_ ⟨rfl, rfl, fun _ _ => rfl, fun t ht => LdB_mono (by omega) (hH t ht)⟩
  · rintro s hs ⟨x3, J, K⟩ ⟨h3, hJ, hK, hL⟩ again hag
    dsimp only at h3 hJ hK hL ⊢
    subst h3
    subst hJ
    unfold w_X3_spreadByRight_9_r_B2
    refine ⟨fun q => absurd ((nI_leI (a := 2187) (by omega) (by omega)).mp q) (by omega), fun _ => ⟨vp_in_nI hs (by decide), ?_⟩⟩
    rw [nI_clamp (by omega), hK r hr]
    have hGs := hE s hs
    refine ⟨fun hne => ⟨vp_in_nI hs (by decide), fun v hv => ?_⟩, fun he => ?_⟩
    · have hup : LdB (B + 1) (sh 1 (G s)) v := by rw [hv]; exact LdB_up (by omega) hGs hne
      refine gL_inv (fun p w => w.1 = nI (3 + p) ∧ w.2.1 = J ∧ (∀ k, k ≠ 30 → w.2.2 k = F k) ∧ ∀ t, t < 2187 → LdB (B + 1) (fun c => G t c + fb_sm (fun s => fb_sm (fun p => fb_sm (fun d => ev ok G t c s p d) 3) 4) s + fb_sm (fun p => fb_sm (fun d => ev ok G t c s p d) 3) p) (w.2.2 30 t)) 4 ?_ ?_ ⟨rfl, rfl, hK, fun t ht => LdB_congr (fun c => (Nat.add_zero _).symm) (hL t ht)⟩
      · rintro p hp4 ⟨x5, J2, K2⟩ ⟨h5, hJ2, hK2, hL2⟩ again2 hag2
        dsimp only at h5 hJ2 hK2 hL2 ⊢
        subst h5
        subst hJ2
        have hp7 : 3 + p < 7 := by omega
        unfold w_X3_spreadByRight_9_r_B31
        refine ⟨fun q => absurd ((nI_leI (a := 7) (by omega) (by omega)).mp q) (by omega), fun _ => s_pos hs hp7 ?_⟩
        have hps := pos_lt s (3 + p)
        refine gL_inv (fun j w => w.1 = nI j ∧ w.2.1 = J2 ∧ (∀ k, k ≠ 30 → w.2.2 k = F k) ∧ ∀ t, t < 2187 → LdB (B + 1) (fun c => G t c + fb_sm (fun s => fb_sm (fun p => fb_sm (fun d => ev ok G t c s p d) 3) 4) s + fb_sm (fun p => fb_sm (fun d => ev ok G t c s p d) 3) p + fb_sm (fun d => ev ok G t c s p d) j) (w.2.2 30 t)) 3 ?_ ?_ ⟨rfl, rfl, hK2, fun t ht => LdB_congr (fun c => (Nat.add_zero _).symm) (hL2 t ht)⟩
        · rintro d hd ⟨x7, J3, K3⟩ ⟨h7, hJ3, hK3, hL3⟩ again3 hag3
          dsimp only at h7 hJ3 hK3 hL3 ⊢
          subst h7
          subst hJ3
          have hlt := setP_lt (d := d) hp7 hs hd
          have tail : ok (3 + p) (pos s (3 + p)) d = true → d ≠ pos s (3 + p) → (vp_in (nI (3 + p)) 7 ∧ ∀ v6 : Int32, v6 = (nI s + ((nI d - nI (pos s (3 + p))) * (tabW (nI (3 + p)).toNatClampNeg))) → vp_in v6 2187 ∧ w_X3_joined (K3 30 (v6).toNatClampNeg) v J3 K3 (fun (r7 : Int32) => vp_in v6 2187 ∧ ∀ F8 : Nat → Nat → Int32, F8 = upF K3 30 (upd (K3 30) (v6).toNatClampNeg r7) → again3 (nI d + (1 : Int32), J3, F8))) := by
            intro h1 h2
            refine ⟨vp_in_nI hp7 (by decide), fun v6 e6 => ?_⟩
            rw [ix_setP hp7] at e6
            subst e6
            rw [nI_clamp (by omega)]
            refine ⟨vp_in_nI hlt (by decide), s_joined (by omega) (hL3 _ hlt) hup (fun z hz => ⟨vp_in_nI hlt (by decide), fun F8 e8 => ?_⟩)⟩
            refine hag3 _ ⟨nI_1 d, rfl, fun k hk => ?_, fun t ht => ?_⟩
            · dsimp only
              rw [e8, upF_n _ _ hk]
              exact hK3 k hk
            · dsimp only
              rw [e8, upF_s]
              by_cases hte : t = setP s (3 + p) d
              · subst hte
                rw [pk_us]
                refine LdB_congr (fun c => ?_) hz
                rw [fb_sm_succ]
                rw [show ev ok G (setP s (3 + p) d) c s p d = sh 1 (G s) c by unfold ev; rw [if_pos ⟨⟨h2, h1⟩, rfl⟩]]
                omega
              · rw [pk_un hte]
                refine LdB_congr (fun c => ?_) (hL3 t ht)
                rw [fb_sm_succ]
                rw [show ev ok G t c s p d = 0 by unfold ev; rw [if_neg (fun q => hte q.2.symm)]]
                omega
          have skip : (ok (3 + p) (pos s (3 + p)) d = false ∨ d = pos s (3 + p)) → again3 (nI d + (1 : Int32), J3, K3) := fun h1 => hag3 _ ⟨nI_1 d, rfl, hK3, fun t ht => by
            refine LdB_congr (fun c => ?_) (hL3 t ht)
            rw [fb_sm_succ]
            rw [show ev ok G t c s p d = 0 by
              unfold ev
              rw [if_neg]
              rintro ⟨⟨q1, q2⟩, -⟩
              rcases h1 with h1 | h1
              · rw [h1] at q2; cases q2
              · exact q1 h1]
            omega⟩
          unfold w_X3_spreadByRight_9_r_B49
          refine ⟨fun q => absurd ((nI_leI (a := 3) (by omega) (by omega)).mp q) (by omega), fun _ => ⟨fun e => ?_, fun e => ?_⟩⟩
          · rw [nI_eq (by omega) (by omega)] at e
            exact skip (Or.inr e)
          · rw [nI_eq (by omega) (by omega)] at e
            refine ⟨fun ha => s_holds (fun hh => ?_) (fun hh => ?_), fun ha => s_holds (fun hh => ?_) (fun hh => ?_)⟩
            · exact ⟨fun q => absurd rfl q, fun _ => tail (by rw [← hoke]; unfold okA; rw [if_pos ha, hh]; rfl) e⟩
            · exact ⟨fun _ => skip (Or.inl (by rw [← hoke]; unfold okA; rw [if_pos ha, hh]; rfl)), fun q => absurd q (by decide)⟩
            · exact ⟨fun q => absurd rfl q, fun _ => tail (by rw [← hoke]; unfold okA; rw [if_neg ha, hh]; rfl) e⟩
            · exact ⟨fun _ => skip (Or.inl (by rw [← hoke]; unfold okA; rw [if_neg ha, hh]; rfl)), fun q => absurd q (by decide)⟩
        · rintro ⟨x7, J3, K3⟩ ⟨h7, hJ3, hK3, hL3⟩ again3
          dsimp only at h7 hJ3 hK3 hL3 ⊢
          subst h7
          subst hJ3
          unfold w_X3_spreadByRight_9_r_B49
          refine ⟨fun _ => hag2 _ ⟨nI_1 _, rfl, hK3, fun t ht => LdB_congr (fun c => ?_) (hL3 t ht)⟩, fun q => absurd (by decide) q⟩
          rw [fb_sm_succ (fun p => fb_sm (fun d => ev ok G t c s p d) 3) p]
          omega
      · rintro ⟨x5, J2, K2⟩ ⟨h5, hJ2, hK2, hL2⟩ again2
        dsimp only at h5 hJ2 hK2 hL2 ⊢
        subst h5
        subst hJ2
        unfold w_X3_spreadByRight_9_r_B31
        refine ⟨fun _ => hag _ ⟨nI_1 s, rfl, hK2, fun t ht => LdB_congr (fun c => ?_) (hL2 t ht)⟩, fun q => absurd (by decide) q⟩
        rw [fb_sm_succ (fun s => fb_sm (fun p => fb_sm (fun d => ev ok G t c s p d) 3) 4) s]
        omega
    · refine hag _ ⟨nI_1 s, rfl, hK, fun t ht => LdB_congr (fun c => ?_) (hL t ht)⟩
      have hz := (LdB_none (by omega) hGs).mp he
      rw [fb_sm_succ (fun s => fb_sm (fun p => fb_sm (fun d => ev ok G t c s p d) 3) 4) s, show fb_sm (fun p => fb_sm (fun d => ev ok G t c s p d) 3) 4 = 0 by
        rw [fb_sm_cong (g := fun _ => 0), fb_sm_const]
        intro p _
        rw [fb_sm_cong (g := fun _ => 0), fb_sm_const]
        intro d _
        unfold ev
        rw [sh_none hz]
        split <;> rfl]
      omega
  · rintro ⟨x3, J, K⟩ ⟨h3, hJ, hK, hL⟩ again
    dsimp only at h3 hJ hK hL ⊢
    subst h3
    subst hJ
    unfold w_X3_spreadByRight_9_r_B2
    refine ⟨fun _ => hp K hK (fun t ht => LdB_congr (fun c => ?_) (hL t ht)), fun q => absurd (by decide) q⟩
    unfold Rg
    rw [ev_sum ok G ht]
