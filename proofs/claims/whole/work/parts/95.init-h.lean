/-! the reference's tables whole -/
theorem tl_pos {s p : Nat} {I : Nat → Int32} {F : Nat → Nat → Int32} {hz : Int64} {post : Int32 → Prop} (hw : ∀ p, p < 7 → F 1 p = nI (wt p)) (h1 : s < 2187) (hp : p < 7) (h : post (nI (pos s p))) : w_X9_positionOf (nI s) (nI p) I F hz post := by
  unfold w_X9_positionOf
  have hw2 : 0 < wt p ∧ wt p < 1000 := by rcases seven hp with rfl | rfl | rfl | rfl | rfl | rfl | rfl <;> decide
  have hd : s / wt p < 2187 := Nat.lt_of_le_of_lt (Nat.div_le_self _ _) h1
  rw [nI_clamp (by omega), hw p hp, pk_div (by omega) hw2.1 (by omega), show (3 : Int32) = nI 3 by decide, pk_rem (by omega) (by omega) (by omega)]
  exact ⟨vp_in_nI hp (by decide), nI_ne0 hw2.1 (by omega), h⟩
theorem tl_turn {s p k : Nat} {I : Nat → Int32} {F : Nat → Nat → Int32} {hz : Int64} {post : Int32 → Prop} (hw : ∀ p, p < 7 → F 1 p = nI (wt p)) (h1 : s < 2187) (hp : p < 7) (hk : k < 100) (h : post (nI (turn s p k))) : w_X9_turned (nI s) (nI p) (nI k) I F hz post := by
  unfold w_X9_turned
  have hl := pos_lt s p
  refine ⟨fun _ => tl_pos hw h1 hp ⟨vp_in_nI hp (by decide), ?_⟩, fun q => absurd q (nI_m1 (by omega))⟩
  rw [nI_clamp (by omega), hw p hp, nI_add, show (3 : Int32) = nI 3 by decide, pk_rem (by omega) (by omega) (by omega), nI_set h1 hp (Nat.mod_lt _ (by decide))]
  exact h
theorem tl_turn0 {s : Nat} {a3 : Int32} {I : Nat → Int32} {F : Nat → Nat → Int32} {hz : Int64} {post : Int32 → Prop} (h : post (nI s)) : w_X9_turned (nI s) (-1) a3 I F hz post := by
  unfold w_X9_turned
  exact ⟨fun q => absurd rfl q, fun _ => h⟩
theorem tl_left {s o : Nat} {I : Nat → Int32} {F : Nat → Nat → Int32} {hz : Int64} {post : Int32 → Prop} (hw : ∀ p, p < 7 → F 1 p = nI (wt p)) (h1 : s < 2187) (ho : o < 63) (h : post (nI (aL s (o % 7)))) : w_X9_turned (nI s) (lO o) (nI (bk (o % 7))) I F hz post := by
  unfold aL at h
  unfold lO
  by_cases a : o % 7 = 0
  · rw [if_pos a] at h ⊢
    exact tl_turn0 h
  · rw [if_neg a] at h ⊢
    exact tl_turn hw h1 (by have := lp_lt (l := o % 7) (by omega); omega) (by unfold bk; omega) h
theorem tl_right {s o : Nat} {I : Nat → Int32} {F : Nat → Nat → Int32} {hz : Int64} {post : Int32 → Prop} (hw : ∀ p, p < 7 → F 1 p = nI (wt p)) (h1 : s < 2187) (ho : o < 63) (h : post (nI (aR s (o / 7)))) : w_X9_turned (nI s) (rO o) (nI (bk (o / 7))) I F hz post := by
  unfold aR at h
  unfold rO
  by_cases a : o / 7 = 0
  · rw [if_pos a] at h ⊢
    exact tl_turn0 h
  · rw [if_neg a] at h ⊢
    exact tl_turn hw h1 (rp_lt (by omega)) (by unfold bk; omega) h
def tl3 (F : Nat → Nat → Int32) (n : Nat) : Prop := ∀ x, x < n → F 3 x = nI (tn (x % 7) (pos (x / 7) (x % 7)))
def tl10 (F : Nat → Nat → Int32) (n : Nat) : Prop := ∀ x, x < n → F 10 x = nI (af (x / 63) (x % 63))
theorem tl_tones {s : Nat} {I : Nat → Int32} {F : Nat → Nat → Int32} {hz : Int64} {kk : Int32 → (Nat → Int32) → (Nat → Nat → Int32) → Int64 → Prop} (hs : s < 2187) (hw : ∀ p, p < 7 → F 1 p = nI (wt p)) (hn : ∀ p, p < 7 → F 2 p = nI (nt p)) (h3 : tl3 F (7 * s)) (hp : ∀ y F2, (∀ r, r ≠ 3 → F2 r = F r) → tl3 F2 (7 * s + 7) → kk y I F2 hz) : gL (fun ag v => w_X9_layTables_B113 (nI s) kk (fun b0 b1 b2 b3 => ag (b0, b1, b2, b3)) v.1 v.2.1 v.2.2.1 v.2.2.2) ((0 : Int32), I, F, hz) := by
  refine gL_inv (fun p v => v.1 = nI p ∧ v.2.1 = I ∧ v.2.2.2 = hz ∧ (∀ r, r ≠ 3 → v.2.2.1 r = F r) ∧ tl3 v.2.2.1 (7 * s + p)) 7 ?_ ?_ ⟨rfl, rfl, rfl, fun _ _ => rfl, h3⟩
  · rintro p hp7 ⟨x2, J, L, z⟩ ⟨g1, gI, gz, gF, g3⟩ again hag
    dsimp only at g1 gI gz gF g3 ⊢
    subst g1 gI gz
    unfold w_X9_layTables_B113
    refine ⟨fun q => absurd ((nI_leI (a := 7) (by omega) (by omega)).mp q) (by omega), fun _ => tl_pos (by rw [gF 1 (by decide)]; exact hw) hs hp7 ?_⟩
    unfold w_X9_toneOf
    have n12 := nt_lt p
    have hl := pos_lt s p
    have ei : (7 : Int32) * nI s + nI p = nI (7 * s + p) := by rw [show (7 : Int32) = nI 7 by decide, ix2]
    rw [nI_clamp (by omega), gF 2 (by decide), hn p hp7, nI_add, show (11 : Int32) = nI 11 by decide, nI_add, show (12 : Int32) = nI 12 by decide, pk_rem (by omega) (by omega) (by omega), ei, nI_clamp (by omega)]
    refine ⟨vp_in_nI hp7 (by decide), vp_in_nI (by omega) (by decide), fun F8 e8 => hag _ ⟨nI_1 p, rfl, rfl, fun r hr => ?_, fun x hx => ?_⟩⟩
    · show F8 r = F r
      rw [e8, upF_n _ _ hr]
      exact gF r hr
    · show F8 3 x = _
      rw [e8, upF_s]
      by_cases e : x = 7 * s + p
      · rw [e, pk_us, show (7 * s + p) % 7 = p by omega, show (7 * s + p) / 7 = s by omega]
        rfl
      · rw [pk_un e]
        exact g3 x (by omega)
  · rintro ⟨x2, J, L, z⟩ ⟨g1, gI, gz, gF, g3⟩ again
    dsimp only at g1 gI gz gF g3 ⊢
    subst g1 gI gz
    unfold w_X9_layTables_B113
    exact ⟨fun _ => hp _ L gF g3, fun q => absurd (by decide) q⟩
theorem tl_after {s : Nat} {I : Nat → Int32} {F : Nat → Nat → Int32} {hz : Int64} {kk : Int32 → (Nat → Int32) → (Nat → Nat → Int32) → Int64 → Prop} (hs : s < 2187) (hw : ∀ p, p < 7 → F 1 p = nI (wt p)) (hO : tlO F 63) (h10 : tl10 F (63 * s)) (hp : ∀ y F2, (∀ r, r ≠ 10 → F2 r = F r) → tl10 F2 (63 * s + 63) → kk y I F2 hz) : gL (fun ag v => w_X9_layTables_B149 (nI s) kk (fun b0 b1 b2 b3 => ag (b0, b1, b2, b3)) v.1 v.2.1 v.2.2.1 v.2.2.2) ((0 : Int32), I, F, hz) := by
  refine gL_inv (fun o v => v.1 = nI o ∧ v.2.1 = I ∧ v.2.2.2 = hz ∧ (∀ r, r ≠ 10 → v.2.2.1 r = F r) ∧ tl10 v.2.2.1 (63 * s + o)) 63 ?_ ?_ ⟨rfl, rfl, rfl, fun _ _ => rfl, h10⟩
  · rintro o ho ⟨x2, J, L, z⟩ ⟨g1, gI, gz, gF, g3⟩ again hag
    dsimp only at g1 gI gz gF g3 ⊢
    subst g1 gI gz
    have hv : vp_in (nI o) 63 := vp_in_nI ho (by decide)
    have hwL : ∀ p, p < 7 → L 1 p = nI (wt p) := by rw [gF 1 (by decide)]; exact hw
    obtain ⟨o4, o5, o6, o7⟩ := hO o ho
    have ei : (63 : Int32) * nI s + nI o = nI (63 * s + o) := by rw [show (63 : Int32) = nI 63 by decide, ix2]
    unfold w_X9_layTables_B149
    rw [nI_clamp (by omega), gF 4 (by decide), gF 5 (by decide), gF 6 (by decide), gF 7 (by decide), o4, o5, o6, o7, ei, nI_clamp (by omega)]
    refine ⟨fun q => absurd ((nI_leI (a := 63) (by omega) (by omega)).mp q) (by omega), fun _ => ⟨hv, hv, tl_left hwL hs ho ⟨hv, hv, tl_right hwL (aL_lt (by omega) hs) ho ⟨vp_in_nI (by omega) (by decide), fun F4 e4 => hag _ ⟨nI_1 o, rfl, rfl, fun r hr => ?_, fun x hx => ?_⟩⟩⟩⟩⟩
    · show F4 r = F r
      rw [e4, upF_n _ _ hr]
      exact gF r hr
    · show F4 10 x = _
      rw [e4, upF_s]
      by_cases e : x = 63 * s + o
      · rw [e, pk_us, show (63 * s + o) % 63 = o by omega, show (63 * s + o) / 63 = s by omega]
        rfl
      · rw [pk_un e]
        exact g3 x (by omega)
  · rintro ⟨x2, J, L, z⟩ ⟨g1, gI, gz, gF, g3⟩ again
    dsimp only at g1 gI gz gF g3 ⊢
    subst g1 gI gz
    unfold w_X9_layTables_B149
    exact ⟨fun _ => hp _ L gF g3, fun q => absurd (by decide) q⟩
theorem m_layTab {I : Nat → Int32} {F : Nat → Nat → Int32} {hz : Int64} {post : (Nat → Int32) → (Nat → Nat → Int32) → Int64 → Prop} (hw : ∀ p, p < 7 → F 1 p = nI (wt p)) (hn : ∀ p, p < 7 → F 2 p = nI (nt p)) (hO : tlO F 63) (hp : ∀ F2, mTab F2 → post I F2 hz) : w_X9_layTables I F hz post := by
  unfold w_X9_layTables
  refine gL_inv (fun o v => v.1 = nI o ∧ v.2.1 = I ∧ v.2.2.2 = hz ∧ (∀ r, r ≠ 8 → r ≠ 9 → v.2.2.1 r = F r) ∧ tlM v.2.2.1 o) 63 ?_ ?_ ⟨rfl, rfl, rfl, fun _ _ _ => rfl, fun x hx => absurd hx (by omega)⟩
  · rintro o ho ⟨x1, J, L, z⟩ ⟨g1, gI, gz, gF, gM⟩ again hag
    dsimp only at g1 gI gz gF gM ⊢
    subst g1 gI gz
    refine tl_moved ho (by rw [gF 4 (by decide) (by decide)]; exact (hO o ho).1) (by rw [gF 6 (by decide) (by decide)]; exact (hO o ho).2.2.1) (fun F1 F2 e1 e2 => hag _ ⟨nI_1 o, rfl, rfl, fun r h1 h2 => ?_, fun x hx => ?_⟩)
    · show F2 r = F r
      rw [e2, upF_n _ _ h2, e1, upF_n _ _ h1]
      exact gF r h1 h2
    · show F2 8 x = _ ∧ F2 9 x = _
      have k8 : F2 8 = upd (L 8) o (nI (mv o)) := by rw [e2, upF_n _ _ (by decide), e1, upF_s]
      have k9 : F2 9 = upd (L 9) o (nI (bitsO o)) := by rw [e2, upF_s, e1, upF_n _ _ (by decide)]
      rw [k8, k9]
      by_cases e : x = o
      · rw [e, pk_us, pk_us]
        exact ⟨rfl, rfl⟩
      · rw [pk_un e, pk_un e]
        exact gM x (by omega)
  · rintro ⟨x1, J, L, z⟩ ⟨g1, gI, gz, gF, gM⟩ again
    dsimp only at g1 gI gz gF gM ⊢
    subst g1 gI gz
    unfold w_X9_layTables_B2
    refine ⟨fun _ => ?_, fun q => absurd (by decide) q⟩
    refine gL_inv (fun s v => v.1 = nI s ∧ v.2.1 = J ∧ v.2.2.2 = z ∧ (∀ r, r ≠ 3 → r ≠ 10 → v.2.2.1 r = L r) ∧ tl3 v.2.2.1 (7 * s) ∧ tl10 v.2.2.1 (63 * s)) 2187 ?_ ?_ ⟨rfl, rfl, rfl, fun _ _ _ => rfl, fun x hx => absurd hx (by omega), fun x hx => absurd hx (by omega)⟩
    · rintro s hs ⟨x1, J2, L2, z2⟩ ⟨g1, gI, gz, gG, g3, g10⟩ again hag
      dsimp only at g1 gI gz gG g3 g10 ⊢
      subst g1 gI gz
      unfold w_X9_layTables_B104
      refine ⟨fun q => absurd ((nI_leI (a := 2187) (by omega) (by omega)).mp q) (by omega), fun _ => tl_tones hs (by rw [gG 1 (by decide) (by decide), gF 1 (by decide) (by decide)]; exact hw) (by rw [gG 2 (by decide) (by decide), gF 2 (by decide) (by decide)]; exact hn) g3 (fun y F2 a1 a2 => tl_after hs (by rw [a1 1 (by decide), gG 1 (by decide) (by decide), gF 1 (by decide) (by decide)]; exact hw) (fun o ho => by rw [a1 4 (by decide), a1 5 (by decide), a1 6 (by decide), a1 7 (by decide), gG 4 (by decide) (by decide), gG 5 (by decide) (by decide), gG 6 (by decide) (by decide), gG 7 (by decide) (by decide), gF 4 (by decide) (by decide), gF 5 (by decide) (by decide), gF 6 (by decide) (by decide), gF 7 (by decide) (by decide)]; exact hO o ho) (fun x hx => by rw [a1 10 (by decide)]; exact g10 x hx) (fun y2 F3 b1 b2 => hag _ ⟨nI_1 s, rfl, rfl, fun r h1 h2 => ?_, fun x hx => ?_, fun x hx => b2 x (by omega)⟩))⟩
      · show F3 r = L r
        rw [b1 r h2, a1 r h1]
        exact gG r h1 h2
      · show F3 3 x = _
        rw [b1 3 (by decide)]
        exact a2 x (by omega)
    · rintro ⟨x1, J2, L2, z2⟩ ⟨g1, gI, gz, gG, g3, g10⟩ again
      dsimp only at g1 gI gz gG g3 g10 ⊢
      subst g1 gI gz
      unfold w_X9_layTables_B104
      refine ⟨fun _ => hp L2 ⟨?_, ?_, fun s p hs hp => ?_, ?_, ?_, fun s o hs ho => ?_⟩, fun q => absurd (by decide) q⟩
      · rw [gG 1 (by decide) (by decide), gF 1 (by decide) (by decide)]; exact hw
      · rw [gG 2 (by decide) (by decide), gF 2 (by decide) (by decide)]; exact hn
      · rw [g3 (7 * s + p) (by omega), show (7 * s + p) % 7 = p by omega, show (7 * s + p) / 7 = s by omega]
      · rw [gG 8 (by decide) (by decide)]; exact fun o ho => (gM o ho).1
      · rw [gG 9 (by decide) (by decide)]; exact fun o ho => (gM o ho).2
      · rw [g10 (63 * s + o) (by omega), show (63 * s + o) % 63 = o by omega, show (63 * s + o) / 63 = s by omega]
theorem m_tail {I : Nat → Int32} {F : Nat → Nat → Int32} {hz : Int64} {post : (Nat → Int32) → (Nat → Nat → Int32) → Int64 → Prop} (hp : ∀ F2, mTab F2 → post (upd I 14 (-1)) F2 hz) : w_X9_tail I F hz post := by
  unfold w_X9_tail
  intro I31 e31
  subst e31
  refine gL_inv (fun j v => v.1 = nI j ∧ v.2.1 = upd I 14 (-1) ∧ v.2.2.2 = hz ∧ (∀ p, p < j → v.2.2.1 1 p = nI (wt p)) ∧ ∀ p, p < j → v.2.2.1 2 p = nI (nt p)) 7 ?_ ?_ ⟨rfl, rfl, rfl, fun p hp => absurd hp (by omega), fun p hp => absurd hp (by omega)⟩
  · rintro j hj ⟨x1, J, L, z⟩ ⟨g1, gI, gz, gw, gn⟩ again hag
    dsimp only at g1 gI gz gw gn ⊢
    subst g1 gI gz
    refine tl_step hj (fun h0 => gw (j - 1) (by omega)) (fun F2 e2 => hag _ ⟨nI_1 j, rfl, rfl, fun p hp => ?_, fun p hp => ?_⟩)
    · show F2 1 p = _
      rw [e2, upF_n _ _ (by decide), upF_s]
      by_cases e : p = j
      · rw [e, pk_us]
      · rw [pk_un e]; exact gw p (by omega)
    · show F2 2 p = _
      rw [e2, upF_s]
      by_cases e : p = j
      · rw [e, pk_us]
      · rw [pk_un e]; exact gn p (by omega)
  · rintro ⟨x1, J, L, z⟩ ⟨g1, gI, gz, gw, gn⟩ again
    dsimp only at g1 gI gz gw gn ⊢
    subst g1 gI gz
    unfold w_X9_tail_B216
    refine ⟨fun _ => m_layOpt (fun F2 a1 a2 => m_layTab (by rw [a1 1 (by decide) (by decide) (by decide) (by decide)]; exact gw) (by rw [a1 2 (by decide) (by decide) (by decide) (by decide)]; exact gn) a2 (fun F3 h3 => hp F3 h3)), fun q => absurd (by decide) q⟩
