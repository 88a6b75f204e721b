/-! digest: plans, page, counts, class -/
noncomputable def plV (K T : Nat → Int32) (n b f : Nat) : Int32 := if f = 0 then fewI K T 0 n b else if f = 1 then nI (waysN K T n b) else stk K T b n
noncomputable def dgP (K T : Nat → Int32) (n b : Nat) (x : Int64) : Nat → Int64
  | 0 => x
  | f + 1 => (31 : Int64) * dgP K T n b x f + (plV K T n b f).toInt64
def dgG (A : Nat → Int32) (x : Int64) : Nat → Int64
  | 0 => x
  | k + 1 => (31 : Int64) * dgG A x k + (A k).toInt64
def cntV (n b t w g p s f : Nat) : Int32 := if f = 0 then nI n else if f = 1 then (if n = 0 then -1 else nI (tellN b 7)) else if f = 2 then nI (pcn t 12) else if f = 3 then nI w else if f = 4 then nI g else if f = 5 then nI p else nI s
def dgT (n b t w g p s : Nat) (x : Int64) : Nat → Int64
  | 0 => x
  | f + 1 => (31 : Int64) * dgT n b t w g p s x f + (cntV n b t w g p s f).toInt64
theorem plV_0 {K T : Nat → Int32} {n b : Nat} : plV K T n b 0 = fewI K T 0 n b := by
  unfold plV
  exact if_pos rfl
theorem plV_1 {K T : Nat → Int32} {n b : Nat} : plV K T n b 1 = nI (waysN K T n b) := by
  unfold plV
  exact (if_neg (by decide)).trans (if_pos rfl)
theorem plV_2 {K T : Nat → Int32} {n b : Nat} : plV K T n b 2 = stk K T b n := by
  unfold plV
  exact (if_neg (by decide)).trans (if_neg (by decide))
theorem plV_congr {K T K2 T2 : Nat → Int32} {n b f : Nat} (h : EQ n K T K2 T2) : plV K T n b f = plV K2 T2 n b f := by
  unfold plV
  rw [fewI_congr 0 b h, waysN_congr b h, stk_congr b h]
theorem dgP_congr {K T K2 T2 : Nat → Int32} {n b : Nat} {x : Int64} (h : EQ n K T K2 T2) : ∀ f, dgP K T n b x f = dgP K2 T2 n b x f
  | 0 => rfl
  | f + 1 => by
    show (31 : Int64) * dgP K T n b x f + (plV K T n b f).toInt64 = (31 : Int64) * dgP K2 T2 n b x f + (plV K2 T2 n b f).toInt64
    rw [dgP_congr h f, plV_congr h]
theorem dgG_congr {A A2 : Nat → Int32} {x : Int64} : ∀ g, (∀ k, k < g → A k = A2 k) → dgG A x g = dgG A2 x g
  | 0, _ => rfl
  | g + 1, h => by
    show (31 : Int64) * dgG A x g + (A g).toInt64 = (31 : Int64) * dgG A2 x g + (A2 g).toInt64
    rw [dgG_congr g (fun k hk => h k (by omega)), h g (by omega)]
theorem s_planV {n b f : Nat} {I : Nat → Int32} {F : Nat → Nat → Int32} {post : Int32 → (Nat → Int32) → (Nat → Nat → Int32) → Prop} (hn : n ≤ 8) (hn0 : 0 < n) (hf : f < 3) (hb : b < 2187) (h8 : I 8 = nI n) (h7 : I 7 = nI b) (hTb : ∀ s, s < 2187 → F 25 s = hasR s 7) (hc : cacheF n b I F)
    (hp : ∀ I2 F2, kI [14, 15, 17, 18] I I2 → kF [26, 28, 29, 30] F F2 → cacheF n b I2 F2 → post (plV (F 17) (F 18) n b f) I2 F2) : w_X8_plan (nI f) I F post := by
  unfold w_X8_plan
  refine ⟨fun q => absurd q (nI_nn (by omega)), fun _ => ⟨fun _ => ⟨fun _ => ?_, fun q => absurd ((nI_is0 (n := n) (by omega)).mp (by rw [← h8]; exact q)) (by omega)⟩, fun q => absurd ?_ q⟩⟩
  · rcases (show f = 0 ∨ f = 1 ∨ f = 2 by omega) with rfl | rfl | rfl
    · exact ⟨fun _ => s_fewest0 hn hb h8 h7 hTb hc (fun I2 F2 a1 a2 a3 => by rw [← plV_0]; exact hp I2 F2 a1 a2 a3), fun x => absurd x (by decide), fun x => absurd rfl x⟩
    · exact ⟨fun x => absurd x (by decide), fun _ => s_ways hn hb h8 h7 hTb hc (fun I2 F2 a1 a2 a3 => by rw [← plV_1]; exact hp I2 F2 a1 a2 a3), fun _ x => absurd rfl x⟩
    · exact ⟨fun x => absurd x (by decide), fun x => absurd x (by decide), fun _ _ => s_stuck hn hb h8 h7 hTb hc (fun I2 F2 a1 a2 a3 => by rw [← plV_2]; exact hp I2 F2 a1 a2 a3)⟩
  · rcases (show f = 0 ∨ f = 1 ∨ f = 2 by omega) with rfl | rfl | rfl <;> decide
theorem seven' {f : Nat} (h : f < 7) : f = 0 ∨ f = 1 ∨ f = 2 ∨ f = 3 ∨ f = 4 ∨ f = 5 ∨ f = 6 := by omega
theorem s_countV {n b t w g p s f : Nat} {I : Nat → Int32} {F : Nat → Nat → Int32} {post : Int32 → Prop} (hn : n ≤ 8) (hf : f < 7) (hb : b < 2187) (c8 : I 8 = nI n) (c7 : I 7 = nI b) (c11 : I 11 = nI w) (c2 : I 2 = nI g) (c0 : I 0 = nI p) (c1 : I 1 = nI s) (ht : t < 4096) (et : orN (F 18) n = nI t) (h : post (cntV n b t w g p s f)) : w_X8_count (nI f) I F post := by
  unfold w_X8_count
  rcases seven' hf with rfl | rfl | rfl | rfl | rfl | rfl | rfl
  · exact ⟨fun _ => by rw [c8]; exact h, fun x => absurd x (by decide), fun x => absurd x (by decide), fun x => absurd x (by decide), fun x => absurd x (by decide), fun x => absurd x (by decide), fun x => absurd x (by decide), fun x => absurd rfl x⟩
  · refine ⟨fun x => absurd x (by decide), fun _ => ?_, fun x => absurd x (by decide), fun x => absurd x (by decide), fun x => absurd x (by decide), fun x => absurd x (by decide), fun x => absurd x (by decide), fun _ x => absurd rfl x⟩
    have h2 : post (if n = 0 then -1 else nI (tellN b 7)) := h
    rw [c8, nI_is0 (by omega), c7]
    exact ⟨fun z => s_number hb (by rw [if_neg z] at h2; exact h2), fun z => by rw [if_pos z] at h2; exact h2⟩
  · exact ⟨fun x => absurd x (by decide), fun x => absurd x (by decide), fun _ => s_tonesAll hn c8 (by rw [et]; exact s_bits ht h), fun x => absurd x (by decide), fun x => absurd x (by decide), fun x => absurd x (by decide), fun x => absurd x (by decide), fun _ _ x => absurd rfl x⟩
  · exact ⟨fun x => absurd x (by decide), fun x => absurd x (by decide), fun x => absurd x (by decide), fun _ => by rw [c11]; exact h, fun x => absurd x (by decide), fun x => absurd x (by decide), fun x => absurd x (by decide), fun _ _ _ x => absurd rfl x⟩
  · exact ⟨fun x => absurd x (by decide), fun x => absurd x (by decide), fun x => absurd x (by decide), fun x => absurd x (by decide), fun _ => by rw [c2]; exact h, fun x => absurd x (by decide), fun x => absurd x (by decide), fun _ _ _ _ x => absurd rfl x⟩
  · exact ⟨fun x => absurd x (by decide), fun x => absurd x (by decide), fun x => absurd x (by decide), fun x => absurd x (by decide), fun x => absurd x (by decide), fun _ => by rw [c0]; exact h, fun x => absurd x (by decide), fun _ _ _ _ _ x => absurd rfl x⟩
  · exact ⟨fun x => absurd x (by decide), fun x => absurd x (by decide), fun x => absurd x (by decide), fun x => absurd x (by decide), fun x => absurd x (by decide), fun x => absurd x (by decide), fun _ => by rw [c1]; exact h, fun _ _ _ _ _ _ x => absurd rfl x⟩
theorem s_dgJ {n b t w g p s : Nat} {x : Int64} {I : Nat → Int32} {F : Nat → Nat → Int32} {post : Int64 → (Nat → Int32) → (Nat → Nat → Int32) → Prop} (hn : n ≤ 8) (hg : g ≤ 56) (hb : b < 2187) (c8 : I 8 = nI n) (c7 : I 7 = nI b) (c11 : I 11 = nI w) (c2 : I 2 = nI g) (c0 : I 0 = nI p) (c1 : I 1 = nI s) (ht : t < 4096) (et : orN (F 18) n = nI t) (h : post (dgT n b t w g p s (dgG (F 14) x g) 7) I F) : w_X8_digest_J130 x I F post := by
  unfold w_X8_digest_J130
  refine gL_inv (fun j v => v.2 = nI j ∧ v.1 = dgG (F 14) x j) g ?_ ?_ ⟨rfl, rfl⟩
  · rintro j hj ⟨x1, x2⟩ ⟨g2, g1⟩ again hag
    dsimp only at g1 g2 ⊢
    subst g1
    subst g2
    unfold w_X8_digest_B132
    rw [c2, nI_clamp (by omega)]
    exact ⟨fun q => absurd ((nI_leI (a := g) (b := j) (by omega) (by omega)).mp q) (by omega), fun _ => ⟨vp_in_nI (by omega) (by decide), fun v5 e5 => hag _ ⟨nI_1 j, e5⟩⟩⟩
  · rintro ⟨x1, x2⟩ ⟨g2, g1⟩ again
    dsimp only at g1 g2 ⊢
    subst g1
    subst g2
    unfold w_X8_digest_B132
    rw [c2]
    refine ⟨fun _ => ?_, fun q => absurd (Int32.le_refl _) q⟩
    refine gL_inv (fun j v => v.2 = nI j ∧ v.1 = dgT n b t w g p s (dgG (F 14) x g) j) 7 ?_ ?_ ⟨rfl, rfl⟩
    · rintro j hj ⟨x1, x2⟩ ⟨g2, g1⟩ again hag
      dsimp only at g1 g2 ⊢
      subst g1
      subst g2
      unfold w_X8_digest_B168
      exact ⟨fun q => absurd ((nI_leI (a := 7) (by omega) (by omega)).mp q) (by omega), fun _ => s_countV hn hj hb c8 c7 c11 c2 c0 c1 ht et (fun v3 e3 => hag _ ⟨nI_1 j, e3⟩)⟩
    · rintro ⟨x1, x2⟩ ⟨g2, g1⟩ again
      dsimp only at g1 g2 ⊢
      subst g1
      subst g2
      unfold w_X8_digest_B168
      exact ⟨fun _ => h, fun q => absurd (by decide) q⟩
