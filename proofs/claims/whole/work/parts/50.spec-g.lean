/-! the reference forward: costs and ways of all settings of all chords -/
def LdM (B : Nat) (G : Nat → Nat) (x w : Int32) : Prop := ((∀ c, G c = 0) ∧ x = nI 99999 ∧ w = nI 0) ∨ ∃ c, c ≤ B ∧ G c ≠ 0 ∧ (∀ c', c' < c → G c' = 0) ∧ x = nI c ∧ w = nI (G c % 1000003)
theorem LdM_congr {B : Nat} {G G' : Nat → Nat} {x w : Int32} (h : ∀ c, G c = G' c) (hL : LdM B G x w) : LdM B G' x w := by
  have e : G = G' := funext h
  rw [← e]
  exact hL
theorem LdM_mono {B B' : Nat} {G : Nat → Nat} {x w : Int32} (h : B ≤ B') (hL : LdM B G x w) : LdM B' G x w := by
  rcases hL with h1 | ⟨c, h1, h2⟩
  · exact Or.inl h1
  · exact Or.inr ⟨c, by omega, h2⟩
theorem LdM_far {B : Nat} {G : Nat → Nat} {x w : Int32} (hB : B ≤ 1000) (hL : LdM B G x w) : nI 99999 ≤ x ↔ ∀ c, G c = 0 := by
  rcases hL with ⟨h1, h2, -⟩ | ⟨c, h1, h2, -, h4, -⟩
  · rw [h2]
    exact ⟨fun _ => h1, fun _ => Int32.le_refl _⟩
  · rw [h4, nI_leI (by omega) (by omega)]
    exact ⟨fun q => by omega, fun q => absurd (q c) h2⟩
/-- one push: three ways -/
theorem LdM_push {B c2 : Nat} {Q G2 : Nat → Nat} {x w : Int32} (hB : B ≤ 1000) (hQ : LdM B Q x w) (hc : c2 ≤ B) (h1 : G2 c2 ≠ 0) (h2 : ∀ c', c' < c2 → G2 c' = 0) : (x ≤ nI c2 → ¬ nI c2 = x → LdM B (fun c => Q c + G2 c) x w) ∧ (nI c2 = x → LdM B (fun c => Q c + G2 c) x (((w + nI (G2 c2 % 1000003)) - (w + nI (G2 c2 % 1000003)) / (1000003 : Int32) * (1000003 : Int32)))) ∧ (¬ x ≤ nI c2 → LdM B (fun c => Q c + G2 c) (nI c2) (nI (G2 c2 % 1000003))) := by
  have hm : ∀ n, n % 1000003 < 1000003 := fun n => Nat.mod_lt _ (by decide)
  rcases hQ with ⟨a1, a2, a3⟩ | ⟨c, a1, a2, a3, a4, a5⟩
  · subst a2
    subst a3
    rw [nI_leI (by omega) (by omega), nI_eq (by omega) (by omega)]
    refine ⟨fun q => by omega, fun q => by omega, fun _ => Or.inr ⟨c2, hc, ?_, fun d hd => ?_, rfl, ?_⟩⟩
    · dsimp only; rw [a1, Nat.zero_add]; exact h1
    · dsimp only; rw [a1, h2 d hd]
    · dsimp only; rw [a1, Nat.zero_add]
  · subst a4
    subst a5
    rw [nI_leI (by omega) (by omega), nI_eq (by omega) (by omega)]
    refine ⟨fun q q2 => Or.inr ⟨c, a1, ?_, fun d hd => ?_, rfl, ?_⟩, fun q => Or.inr ⟨c, a1, ?_, fun d hd => ?_, rfl, ?_⟩, fun q => Or.inr ⟨c2, hc, ?_, fun d hd => ?_, rfl, ?_⟩⟩
    · dsimp only; omega
    · dsimp only; rw [a3 d hd, h2 d (by omega)]
    · dsimp only; rw [h2 c (by omega), Nat.add_zero]
    · dsimp only; omega
    · dsimp only; rw [a3 d hd, h2 d (by omega)]
    · have e1 := hm (Q c)
      have e2 := hm (G2 c2)
      rw [nI_add, show (1000003 : Int32) = nI 1000003 by decide, pk_rem (by omega) (by omega) (by omega), q, ← Nat.add_mod]
    · dsimp only; omega
    · dsimp only; rw [a3 d (by omega), h2 d hd]
    · dsimp only; rw [a3 c2 (by omega), Nat.zero_add]
theorem upF_same (F : Nat → Nat → Int32) (r : Nat) : upF F r (F r) = F := by
  funext j
  unfold upF
  split
  · rename_i e; rw [e]
  · rfl
def ctr (K T : Nat → Int32) (k s : Nat) (Gs : Nat → Nat) (t c o : Nat) : Nat := if fitK K T 0 k t = true ∧ ((mv o ≤ mostI (K k) ∧ canS (hT (heldI K T k 0)) s o = true) ∧ af s o = t) then sh (mv o) Gs c else 0
theorem m_layFrom {s k cs B : Nat} {Gs : Nat → Nat} {Q : Nat → Nat → Nat} {I : Nat → Int32} {F : Nat → Nat → Int32} {hs : Int64} {post : (Nat → Int32) → (Nat → Nat → Int32) → Int64 → Prop} (hM : mTab F) (h1 : s < 2187) (hk : k < 8) (hB : B ≤ 900) (hcs : cs + 2 ≤ B) (hG1 : Gs cs ≠ 0) (hG2 : ∀ c', c' < cs → Gs c' = 0)
    (hf : ∀ u, u < 2187 → F 16 (2187 * k + u) = if fitK (F 14) (F 15) 0 k u = true then 1 else 0) (hQ : ∀ t, t < 2187 → LdM B (Q t) (F 18 (2187 * k + t)) (F 19 (2187 * k + t)))
    (h : ∀ F2, kF [18, 19] F F2 → (∀ i, (i < 2187 * k ∨ 2187 * k + 2187 ≤ i) → F2 18 i = F 18 i ∧ F2 19 i = F 19 i) → (∀ t, t < 2187 → LdM B (fun c => Q t c + fb_sm (fun o => ctr (F 14) (F 15) k s Gs t c o) 63) (F2 18 (2187 * k + t)) (F2 19 (2187 * k + t))) → post I F2 hs) : w_X9_layFrom (nI s) (nI k) (nI cs) (nI (Gs cs % 1000003)) I F hs post := by
  unfold w_X9_layFrom
  refine m_heldBy hk (m_heldPedals hM h1 (fun st hst => ⟨vp_in_nI hk (by decide), ?_⟩))
  rw [nI_clamp (by omega)]
  refine m_mostOf ?_
  have hM2 := mostI_le (F 14 k)
  refine gL_inv (fun j v => v.1 = nI j ∧ v.2.1 = I ∧ v.2.2.2 = hs ∧ kF [18, 19] F v.2.2.1 ∧ (∀ i, (i < 2187 * k ∨ 2187 * k + 2187 ≤ i) → v.2.2.1 18 i = F 18 i ∧ v.2.2.1 19 i = F 19 i) ∧ ∀ t, t < 2187 → LdM B (fun c => Q t c + fb_sm (fun o => ctr (F 14) (F 15) k s Gs t c o) j) (v.2.2.1 18 (2187 * k + t)) (v.2.2.1 19 (2187 * k + t))) 63 ?_ ?_ ⟨rfl, rfl, rfl, fun _ _ => rfl, fun _ _ => ⟨rfl, rfl⟩, fun t ht => LdM_congr (fun c => (Nat.add_zero _).symm) (hQ t ht)⟩
  · rintro o ho ⟨x7, J, L, g⟩ ⟨h7, hJ, hg, hL, hO, hP⟩ again hag
    dsimp only at h7 hJ hg hL hO hP ⊢
    subst h7
    subst hJ
    subst hg
    have hM3 : mTab L := mTab_of (fun k hk => hL k (by simp; omega)) hM
    have e16 : L 16 = F 16 := hL 16 (by decide)
    have hmo : mv o ≤ 2 := by unfold mv m1; split <;> split <;> omega
    have hlt := af_lt ho h1
    have skip : (∀ t c, t < 2187 → ctr (F 14) (F 15) k s Gs t c o = 0) → again (nI o + (1 : Int32), J, L, g) := by
      intro hz
      refine hag _ ⟨nI_1 o, rfl, rfl, hL, hO, fun t ht => LdM_congr (fun c => ?_) (hP t ht)⟩
      rw [fb_sm_succ, hz t c ht]
      rfl
    unfold w_X9_layFrom_B27
    refine ⟨fun q => absurd ((nI_leI (a := 63) (by omega) (by omega)).mp q) (by omega), fun _ => m_after hM3 h1 ho ?_⟩
    rw [show (2187 : Int32) = nI 2187 by decide, ix2, nI_clamp (by omega), e16, hf _ hlt]
    have hv : vp_in (nI (2187 * k + af s o)) 17496 := vp_in_nI (by omega) (by decide)
    refine ⟨hv, fun q => ?_, fun q => ?_⟩
    · refine skip (fun t c ht => ?_)
      unfold ctr
      rw [if_neg]
      rintro ⟨z1, z2, z3⟩
      rw [z3] at q
      exact q (if_pos z1)
    · have hft : fitK (F 14) (F 15) 0 k (af s o) = true := Classical.byContradiction (fun z => absurd q (by rw [if_neg z]; decide))
      refine m_can hM3 ho hM2 hst (fun hc => ⟨fun q => absurd q (by decide), fun _ => m_movedBy hM3 ho ?_⟩) (fun hc => ⟨fun _ => ?_, fun q => absurd rfl q⟩)
      · intro v7 e7 v8 e8
        rw [nI_add] at e7
        subst e7
        subst e8
        rw [nI_clamp (by omega)]
        have hat := hP (af s o) hlt
        have hG3 : sh (mv o) Gs (cs + mv o) = Gs cs := by unfold sh; rw [if_pos (by omega), show cs + mv o - mv o = cs by omega]
        obtain ⟨p1, p2, p3⟩ := LdM_push (G2 := sh (mv o) Gs) (c2 := cs + mv o) (by omega) hat (by omega) (by rw [hG3]; exact hG1) (fun c' hc' => by
          unfold sh
          split
          · exact hG2 _ (by omega)
          · rfl)
        rw [hG3] at p2 p3
        have fin : ∀ (x w : Int32) (L2 : Nat → Nat → Int32), LdM B (fun c => Q (af s o) c + fb_sm (fun o' => ctr (F 14) (F 15) k s Gs (af s o) c o') o + sh (mv o) Gs c) x w → L2 = upF (upF L 19 (upd (L 19) (2187 * k + af s o) w)) 18 (upd (L 18) (2187 * k + af s o) x) → again (nI o + (1 : Int32), J, L2, g) := by
          intro x w L2 hx eL
          have e18 : ∀ i, L2 18 i = if i = 2187 * k + af s o then x else L 18 i := fun i => by rw [eL, upF_s]; rfl
          have e19 : ∀ i, L2 19 i = if i = 2187 * k + af s o then w else L 19 i := fun i => by rw [eL, upF_n _ _ (by decide), upF_s]; rfl
          refine hag _ ⟨nI_1 o, rfl, rfl, fun r hr => ?_, fun i hi => ?_, fun t ht => ?_⟩
          · show L2 r = F r
            rw [eL, upF_n _ _ (fun q => hr (by rw [q]; decide)), upF_n _ _ (fun q => hr (by rw [q]; decide))]
            exact hL r hr
          · show L2 18 i = F 18 i ∧ L2 19 i = F 19 i
            rw [e18, e19, if_neg (by omega), if_neg (by omega)]
            exact hO i hi
          · show LdM B _ (L2 18 _) (L2 19 _)
            rw [e18, e19]
            by_cases e : t = af s o
            · rw [if_pos (by rw [e]), if_pos (by rw [e])]
              refine LdM_congr (fun c => ?_) hx
              rw [fb_sm_succ, show ctr (F 14) (F 15) k s Gs t c o = sh (mv o) Gs c by unfold ctr; rw [if_pos ⟨by rw [e]; exact hft, hc, e.symm⟩], e]
              omega
            · rw [if_neg (by omega), if_neg (by omega)]
              refine LdM_congr (fun c => ?_) (hP t ht)
              rw [fb_sm_succ, show ctr (F 14) (F 15) k s Gs t c o = 0 by unfold ctr; rw [if_neg (fun z => e z.2.2.symm)]]
              rfl
        have same18 : ∀ w, upF (upF L 19 w) 18 (upd ((upF L 19 w) 18) (2187 * k + af s o) ((upF L 19 w) 18 (2187 * k + af s o))) = upF (upF L 19 w) 18 (upd (L 18) (2187 * k + af s o) (L 18 (2187 * k + af s o))) := fun w => by rw [upF_n L w (by decide)]
        refine ⟨hv, fun q1 => ⟨hv, fun q2 => ⟨hv, hv, fun F11 e11 => ⟨hv, fun q3 => ⟨hv, hv, fun F13 e13 => ?_⟩, fun q3 => ?_⟩⟩, fun q2 => ⟨hv, hv, fun F15 e15 => ⟨hv, fun q3 => ⟨hv, hv, fun F17 e17 => ?_⟩, fun q3 => ?_⟩⟩⟩, fun q1 => ⟨hv, fun F19 e19 => ⟨hv, fun q3 => ?_, fun q3 => ⟨hv, fun F22 e22 => ?_⟩⟩⟩⟩
        · exact fin _ _ F13 (p1 q1 q2) (by rw [e13, e11, same18])
        · rw [e11, upF_n _ _ (by decide)] at q3
          exact absurd q1 q3
        · exact fin _ _ F17 (p2 q2) (by rw [e17, e15, same18])
        · rw [e15, upF_n _ _ (by decide)] at q3
          exact absurd q1 q3
        · rw [e19, upF_n _ _ (by decide)] at q3
          exact absurd q3 q1
        · exact fin _ _ F22 (p3 q1) (by rw [e22, e19, upF_n L _ (by decide)])
      · refine skip (fun t c ht => ?_)
        unfold ctr
        rw [if_neg]
        rintro ⟨z1, z2, z3⟩
        exact hc z2
  · rintro ⟨x7, J, L, g⟩ ⟨h7, hJ, hg, hL, hO, hP⟩ again
    dsimp only at h7 hJ hg hL hO hP ⊢
    subst h7
    subst hJ
    subst hg
    unfold w_X9_layFrom_B27
    exact ⟨fun _ => h L hL hO hP, fun q => absurd (by decide) q⟩
/-- all pushes into a chord are the plans up to it -/
theorem ctr_GP (K T : Nat → Int32) (b k : Nat) {t : Nat} (ht : t < 2187) (c : Nat) : fb_sm (fun s => fb_sm (fun o => ctr K T k s (GP K T 0 b k s) t c o) 63) 2187 = GP K T 0 b (k + 1) t c := by
  show _ = if fitK K T 0 k t = true then Zs (mostI (K k)) (fun p a _ => !hT (heldI K T k 0) p a) (fun s c => GP K T 0 b k s c) t c else 0
  by_cases hf : fitK K T 0 k t = true
  · rw [if_pos hf, ← push_Z _ _ _ ht]
    refine fb_sm_cong (fun s hs => fb_sm_cong (fun o ho => ?_))
    unfold ctr
    by_cases h : (mv o ≤ mostI (K k) ∧ canS (hT (heldI K T k 0)) s o = true) ∧ af s o = t
    · rw [if_pos ⟨hf, h⟩, if_pos h]
    · rw [if_neg (fun q => h q.2), if_neg h]
  · rw [if_neg hf, fb_sm_cong (g := fun _ => 0), fb_sm_const]
    intro s hs
    rw [fb_sm_cong (g := fun _ => 0), fb_sm_const]
    intro o ho
    unfold ctr
    rw [if_neg (fun q => hf q.1)]
theorem ctr_0 (K T : Nat → Int32) (k s : Nat) {Gs : Nat → Nat} (h : ∀ c, Gs c = 0) (t c : Nat) : fb_sm (fun o => ctr K T k s Gs t c o) 63 = 0 := by
  rw [fb_sm_cong (g := fun _ => 0), fb_sm_const]
  intro o ho
  unfold ctr
  rw [sh_none h]
  split <;> rfl
