/-! scores: the leading part of a count by moves; what joined makes of two of them -/
theorem gL_inv {V : Type} {body : (V → Prop) → V → Prop} (Inv : Nat → V → Prop) (e : Nat) (hs : ∀ j, j < e → ∀ v, Inv j v → ∀ again : V → Prop, (∀ v', Inv (j + 1) v' → again v') → body again v) (he : ∀ v, Inv e v → ∀ again : V → Prop, body again v) {v : V} (h0 : Inv 0 v) : gL body v := by
  have h : ∀ d j v, j + d = e → Inv j v → gLN body (d + 1) v := by
    intro d
    induction d with
    | zero =>
      intro j v hj hv
      have hje : j = e := by omega
      subst hje
      exact he v hv _
    | succ d ih =>
      intro j v hj hv
      exact hs j (by omega) v hv _ (fun v' hv' => ih (j + 1) v' (by omega) hv')
  exact ⟨e + 1, h e 0 v (by omega) h0⟩
def zc (c w : Nat) : Int32 := nI (c * 1048576 + w)
def LdB (B : Nat) (G : Nat → Nat) (r : Int32) : Prop := ((∀ c, G c = 0) ∧ r = zc 1024 0) ∨ ∃ c, c ≤ B ∧ G c ≠ 0 ∧ (∀ c', c' < c → G c' = 0) ∧ r = zc c (G c % 1000003)
theorem LdB_congr {B : Nat} {G G' : Nat → Nat} {r : Int32} (h : ∀ c, G c = G' c) (hL : LdB B G r) : LdB B G' r := by
  have e : G = G' := funext h
  rw [← e]
  exact hL
theorem LdB_mono {B B' : Nat} {G : Nat → Nat} {r : Int32} (h : B ≤ B') (hL : LdB B G r) : LdB B' G r := by
  rcases hL with h1 | ⟨c, h1, h2, h3, h4⟩
  · exact Or.inl h1
  · exact Or.inr ⟨c, by omega, h2, h3, h4⟩
theorem zc_shr {c w : Nat} (hc : c ≤ 1024) (hw : w < 1048576) : zc c w >>> ((20 : Int32) &&& 31) = nI c := by
  unfold zc
  rw [pk_shrN (k := 20) (by omega) _ (by decide), show (c * 1048576 + w) / 2 ^ 20 = c by omega]
theorem zc_low {c w : Nat} (hc : c ≤ 1024) (hw : w < 1048576) : zc c w &&& (1048575 : Int32) = nI w := by
  unfold zc
  rw [pk_andN (k := 20) (by omega) (by decide), show (c * 1048576 + w) % 2 ^ 20 = w by omega]
theorem nat_high {c w : Nat} (hc : c ≤ 1024) (hw : w < 1048576) : (c * 1048576 + w) &&& 4293918720 = 1048576 * c := by
  apply Nat.eq_of_testBit_eq
  intro i
  rw [Nat.testBit_and, show c * 1048576 + w = 2 ^ 20 * c + w by omega, show (4293918720 : Nat) = 2 ^ 20 * (2 ^ 12 - 1) by decide, show 1048576 * c = 2 ^ 20 * c by omega, Nat.testBit_two_pow_mul_add _ hw, Nat.testBit_two_pow_mul, Nat.testBit_two_pow_mul, Nat.testBit_two_pow_sub_one]
  by_cases h : i < 20
  · rw [if_pos h]
    simp [show ¬ 20 ≤ i by omega]
  · rw [if_neg h]
    simp only [show 20 ≤ i by omega, decide_true, Bool.true_and]
    by_cases h2 : i - 20 < 12
    · simp [h2]
    · simp only [h2, decide_false, Bool.and_false]
      exact (Nat.testBit_lt_two_pow (Nat.lt_of_le_of_lt hc (Nat.lt_of_lt_of_le (by decide : 1024 < 2 ^ 12) (Nat.pow_le_pow_right (by decide) (by omega))))).symm
theorem zc_high {c w : Nat} (hc : c ≤ 1024) (hw : w < 1048576) : zc c w &&& (-1048576 : Int32) = nI (1048576 * c) := by
  unfold zc
  rw [show (-1048576 : Int32) = nI 4293918720 by decide, fa_and, nat_high hc hw]
theorem zc_or {c w : Nat} (hw : w < 1048576) : nI (1048576 * c) ||| nI w = zc c w := by
  unfold zc
  rw [show 1048576 * c = 2 ^ 20 * c by omega, fa_or_sum (k := 20) c hw, show 2 ^ 20 * c + w = c * 1048576 + w by omega]
theorem zc_le {c w c' w' : Nat} (hc : c ≤ 1024) (hw : w < 1048576) (hc' : c' ≤ 1024) (hw' : w' < 1048576) : zc c w ≤ zc c' w' ↔ c * 1048576 + w ≤ c' * 1048576 + w' := by
  unfold zc
  exact nI_leI (by omega) (by omega)
theorem zc_eq {c w c' w' : Nat} (hc : c ≤ 1024) (hw : w < 1048576) (hc' : c' ≤ 1024) (hw' : w' < 1048576) : zc c w = zc c' w' ↔ c = c' ∧ w = w' := by
  unfold zc
  rw [nI_eq (by omega) (by omega)]
  constructor
  · intro h; omega
  · rintro ⟨rfl, rfl⟩; rfl
theorem zc_NO : (1073741824 : Int32) = zc 1024 0 := by decide
theorem zc_up {c w : Nat} : zc c w + (1048576 : Int32) = zc (c + 1) w := by
  unfold zc
  rw [show (1048576 : Int32) = nI 1048576 by decide, nI_add, show c * 1048576 + w + 1048576 = (c + 1) * 1048576 + w by omega]
theorem LdB_none {B : Nat} {G : Nat → Nat} {r : Int32} (hB : B ≤ 1000) (h : LdB B G r) : r = (1073741824 : Int32) ↔ ∀ c, G c = 0 := by
  rw [zc_NO]
  rcases h with ⟨h1, h2⟩ | ⟨c, h1, h2, h3, h4⟩
  · exact ⟨fun _ => h1, fun _ => h2⟩
  · have hw : G c % 1000003 < 1000003 := Nat.mod_lt _ (by decide)
    rw [h4, zc_eq (by omega) (by omega) (by omega) (by omega)]
    exact ⟨fun q => by omega, fun q => absurd (q c) h2⟩
theorem LdB_up {B : Nat} {G : Nat → Nat} {r : Int32} (hB : B ≤ 1000) (h : LdB B G r) (hn : ¬ r = (1073741824 : Int32)) : LdB (B + 1) (sh 1 G) (r + (1048576 : Int32)) := by
  rcases h with ⟨h1, h2⟩ | ⟨c, h1, h2, h3, h4⟩
  · exact absurd (by rw [h2, zc_NO]) hn
  · refine Or.inr ⟨c + 1, by omega, ?_, ?_, ?_⟩
    · unfold sh
      rw [if_pos (by omega), show c + 1 - 1 = c by omega]
      exact h2
    · intro c' hc'
      unfold sh
      by_cases h : 1 ≤ c'
      · rw [if_pos h]; exact h3 _ (by omega)
      · rw [if_neg h]
    · rw [h4, zc_up]
      unfold sh
      rw [if_pos (by omega), show c + 1 - 1 = c by omega]
theorem sh_none {m : Nat} {G : Nat → Nat} (h : ∀ c, G c = 0) (c : Nat) : sh m G c = 0 := by
  unfold sh
  split
  · exact h _
  · rfl
theorem s_joined {B : Nat} {G G' : Nat → Nat} {x y : Int32} {I : Nat → Int32} {F : Nat → Nat → Int32} {post : Int32 → Prop} (hB : B ≤ 1000) (hx : LdB B G x) (hy : LdB B G' y) (h : ∀ z, LdB B (fun c => G c + G' c) z → post z) : w_X3_joined x y I F post := by
  have hw : ∀ n, n % 1000003 < 1000003 := fun n => Nat.mod_lt _ (by decide)
  have key : ∀ c w c' w', c ≤ 1024 → c' ≤ 1024 → w < 1000003 → w' < 1000003 → (c = c' → post (zc c ((w + w') % 1000003))) → (c' < c → post (zc c' w')) → (c < c' → post (zc c w)) → w_X3_joined (zc c w) (zc c' w') I F post := by
    intro c w c' w' hc hc' hw1 hw2 h1 h2 h3
    unfold w_X3_joined
    rw [zc_shr hc (by omega), zc_shr hc' (by omega), nI_eq (by omega) (by omega), zc_low hc (by omega), zc_low hc' (by omega), zc_high hc (by omega)]
    refine ⟨fun e v hv => ?_, fun e => ⟨fun q => ?_, fun q => ?_⟩⟩
    · rw [nI_add, show (1000003 : Int32) = nI 1000003 by decide, pk_rem (by omega) (by omega) (by omega)] at hv
      rw [hv, zc_or (by have := hw (w + w'); omega)]
      exact h1 e
    · rw [zc_le hc' (by omega) hc (by omega)] at q
      exact h2 (by omega)
    · rw [zc_le hc' (by omega) hc (by omega)] at q
      exact h3 (by omega)
  rcases hx with ⟨a1, a2⟩ | ⟨c, a1, a2, a3, a4⟩ <;> rcases hy with ⟨b1, b2⟩ | ⟨c', b1, b2, b3, b4⟩
  · rw [a2, b2]
    refine key 1024 0 1024 0 (by omega) (by omega) (by omega) (by omega) (fun _ => ?_) (fun q => absurd q (by omega)) (fun q => absurd q (by omega))
    exact h _ (Or.inl ⟨fun c => by dsimp only; rw [a1, b1], rfl⟩)
  · rw [a2, b4]
    refine key 1024 0 c' _ (by omega) (by omega) (by omega) (hw _) (fun q => absurd q (by omega)) (fun _ => ?_) (fun q => absurd q (by omega))
    refine h _ (Or.inr ⟨c', b1, by dsimp only; rw [a1, Nat.zero_add]; exact b2, fun d hd => by dsimp only; rw [a1, b3 d hd], ?_⟩)
    dsimp only
    rw [a1, Nat.zero_add]
  · rw [a4, b2]
    refine key c _ 1024 0 (by omega) (by omega) (hw _) (by omega) (fun q => absurd q (by omega)) (fun q => absurd q (by omega)) (fun _ => ?_)
    refine h _ (Or.inr ⟨c, a1, by dsimp only; rw [b1, Nat.add_zero]; exact a2, fun d hd => by dsimp only; rw [a3 d hd, b1], ?_⟩)
    dsimp only
    rw [b1, Nat.add_zero]
  · rw [a4, b4]
    refine key c _ c' _ (by omega) (by omega) (hw _) (hw _) (fun q => ?_) (fun q => ?_) (fun q => ?_)
    · subst q
      refine h _ (Or.inr ⟨c, a1, by dsimp only; omega, fun d hd => by dsimp only; rw [a3 d hd, b3 d hd], ?_⟩)
      dsimp only
      rw [← Nat.add_mod]
    · refine h _ (Or.inr ⟨c', b1, by dsimp only; omega, fun d hd => by dsimp only; rw [a3 d (by omega), b3 d hd], ?_⟩)
      dsimp only
      rw [a3 c' q, Nat.zero_add]
    · refine h _ (Or.inr ⟨c, a1, by dsimp only; omega, fun d hd => by dsimp only; rw [a3 d hd, b3 d (by omega)], ?_⟩)
      dsimp only
      rw [b3 c q, Nat.add_zero]
/-- is a pedal held in a position: as the class keeps it, and as the tones tell -/
def hbI (x : Int32) (p d : Nat) : Bool := decide (¬ ((x >>> ((nI p * (3 : Int32) + nI d) &&& 31)) &&& (1 : Int32)) = 0)
def okA (x ah : Int32) (p a b : Nat) : Bool := !hbI x p (if ah = 0 then b else a)
theorem s_holds {p d : Nat} {I : Nat → Int32} {F : Nat → Nat → Int32} {post : Int32 → Prop} (h0 : hbI (I 18) p d = false → post 0) (h1 : hbI (I 18) p d = true → post 1) : w_X0_holds_10 (nI p) (nI d) I F post := by
  unfold w_X0_holds_10
  refine ⟨fun q => h0 ?_, fun q => h1 ?_⟩
  · unfold hbI; simp [q]
  · unfold hbI; simp [q]
theorem s_pos {s p : Nat} {I : Nat → Int32} {F : Nat → Nat → Int32} {post : Int32 → Prop} (hs : s < 2187) (hp : p < 7) (h : post (nI (pos s p))) : w_X7_positionAt (nI s) (nI p) I F post := by
  have hd : ∀ d : Nat, 0 < d → d < 1000 → nI s / nI d = nI (s / d) := fun d h1 h2 => pk_div (by omega) h1 (by omega)
  have hr : ∀ a : Nat, a < 2187 → nI a - nI a / nI 3 * nI 3 = nI (a % 3) := fun a h1 => pk_rem (by omega) (by omega) (by omega)
  have hl : ∀ d : Nat, s / d < 2187 := fun d => Nat.lt_of_le_of_lt (Nat.div_le_self _ _) hs
  unfold w_X7_positionAt
  simp only [fa_lit, hd 729 (by decide) (by decide), hd 243 (by decide) (by decide), hd 81 (by decide) (by decide), hd 27 (by decide) (by decide), hd 9 (by decide) (by decide), hd 3 (by decide) (by decide), hr _ (hl _), hr _ hs]
  have e : ∀ a b : Nat, a < 100 → b < 100 → (nI a = nI b ↔ a = b) := fun a b h1 h2 => nI_eq (by omega) (by omega)
  simp only [e p 0 (by omega) (by decide), e p 1 (by omega) (by decide), e p 2 (by omega) (by decide), e p 3 (by omega) (by decide), e p 4 (by omega) (by decide), e p 5 (by omega) (by decide)]
  refine ⟨?_, ?_, ?_, ?_, ?_, ?_, ?_⟩
  · rintro rfl
    rw [show s / 729 = pos s 0 by unfold pos wt; simp; omega]
    exact h
  · rintro rfl; exact h
  · rintro rfl; exact h
  · rintro rfl; exact h
  · rintro rfl; exact h
  · rintro rfl; exact h
  · intro h0 h1 h2 h3 h4 h5
    rw [show p = 6 by omega] at h
    rw [← hd 3 (by decide) (by decide), hr s hs, show s % 3 = pos s 6 by unfold pos wt; simp]
    exact h
theorem tabW_at {p : Nat} (hp : p < 7) : tabW (nI p).toNatClampNeg = nI (wt p) := by
  rw [nI_clamp (by omega)]
  rcases seven hp with rfl | rfl | rfl | rfl | rfl | rfl | rfl <;> rfl
theorem ix_setP {t p d : Nat} (hp : p < 7) : nI t + (nI d - nI (pos t p)) * tabW (nI p).toNatClampNeg = nI (setP t p d) := by
  rw [tabW_at hp]
  have h : nI (setP t p d) + nI (pos t p) * nI (wt p) = nI t + nI d * nI (wt p) := by rw [pk_mul, pk_mul, nI_add, nI_add, setP_add]
  grind
