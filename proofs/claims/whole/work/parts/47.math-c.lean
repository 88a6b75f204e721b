/-! backward over all chords; forward and backward have the same moves -/
theorem sm_ne {f : Nat → Nat} {n : Nat} : fb_sm f n ≠ 0 ↔ ∃ k, k < n ∧ f k ≠ 0 := by
  constructor
  · intro h
    apply Classical.byContradiction
    intro h2
    apply h
    rw [fb_sm_cong (g := fun _ => 0) (fun k hk => Classical.byContradiction (fun q => h2 ⟨k, hk, q⟩)), fb_sm_const]
    simp
  · rintro ⟨k, hk, h⟩ h2
    exact h (fb_sm_zero h2 k hk)
theorem Zs_ne {M : Nat} {ok : Nat → Nat → Nat → Bool} {G : Nat → Nat → Nat} {t c : Nat} : Zs M ok G t c ≠ 0 ↔ ∃ o, o < 63 ∧ mv o ≤ M ∧ okO ok t o = true ∧ mv o ≤ c ∧ G (af t o) (c - mv o) ≠ 0 := by
  unfold Zs
  rw [sm_ne]
  constructor
  · rintro ⟨o, ho, h⟩
    by_cases h1 : mv o ≤ M ∧ okO ok t o = true
    · rw [if_pos h1] at h
      unfold sh at h
      by_cases h2 : mv o ≤ c
      · rw [if_pos h2] at h
        exact ⟨o, ho, h1.1, h1.2, h2, h⟩
      · rw [if_neg h2] at h
        exact absurd rfl h
    · rw [if_neg h1] at h
      exact absurd rfl h
  · rintro ⟨o, ho, h1, h2, h3, h4⟩
    refine ⟨o, ho, ?_⟩
    rw [if_pos ⟨h1, h2⟩]
    unfold sh
    rw [if_pos h3]
    exact h4
/-- from a setting: how many ways through the last d chords, by the moves -/
def BR (K T : Nat → Int32) (y : Int32) (n : Nat) : Nat → Nat → Nat → Nat
  | 0, _, c => if c = 0 then 1 else 0
  | d + 1, t, c => Zs (mostI (K (n - 1 - d))) (fun p _ b => !hT (heldI K T (n - 1 - d) y) p b) (fun u c => if fitK K T y (n - 1 - d) u = true then BR K T y n d u c else 0) t c
/-- the same, the setting of a chord given: it must fit -/
def OW (K T : Nat → Int32) (y : Int32) (n k u c : Nat) : Nat := if fitK K T y k u = true then BR K T y n (n - 1 - k) u c else 0
def Ex (K T : Nat → Int32) (y : Int32) (n b k c : Nat) : Prop := ∃ t i j, t < 2187 ∧ i + j = c ∧ GP K T y b k t i ≠ 0 ∧ BR K T y n (n - k) t j ≠ 0
theorem Ex_step (K T : Nat → Int32) (y : Int32) {n b k : Nat} (hk : k < n) (c : Nat) : Ex K T y n b k c ↔ Ex K T y n b (k + 1) c := by
  have e1 : n - k = n - (k + 1) + 1 := by omega
  have e2 : n - 1 - (n - (k + 1)) = k := by omega
  have hB : ∀ t j, BR K T y n (n - k) t j ≠ 0 ↔ ∃ o, o < 63 ∧ mv o ≤ mostI (K k) ∧ canS (hT (heldI K T k y)) t o = true ∧ mv o ≤ j ∧ fitK K T y k (af t o) = true ∧ BR K T y n (n - (k + 1)) (af t o) (j - mv o) ≠ 0 := by
    intro t j
    rw [e1]
    show Zs (mostI (K (n - 1 - (n - (k + 1))))) _ _ t j ≠ 0 ↔ _
    rw [Zs_ne, e2]
    constructor
    · rintro ⟨o, h1, h2, h3, h4, h5⟩
      rw [can_back] at h3
      by_cases hf : fitK K T y k (af t o) = true
      · rw [if_pos hf] at h5
        exact ⟨o, h1, h2, h3, h4, hf, h5⟩
      · rw [if_neg hf] at h5
        exact absurd rfl h5
    · rintro ⟨o, h1, h2, h3, h4, hf, h5⟩
      refine ⟨o, h1, h2, ?_, h4, ?_⟩
      · rw [can_back]; exact h3
      · rw [if_pos hf]; exact h5
  have hG : ∀ u i, GP K T y b (k + 1) u i ≠ 0 ↔ fitK K T y k u = true ∧ ∃ o, o < 63 ∧ mv o ≤ mostI (K k) ∧ okO (fun p a _ => !hT (heldI K T k y) p a) u o = true ∧ mv o ≤ i ∧ GP K T y b k (af u o) (i - mv o) ≠ 0 := by
    intro u i
    show (if fitK K T y k u = true then Zs (mostI (K k)) (fun p a _ => !hT (heldI K T k y) p a) (fun s c => GP K T y b k s c) u i else 0) ≠ 0 ↔ _
    by_cases hf : fitK K T y k u = true
    · rw [if_pos hf, Zs_ne]
      exact ⟨fun h => ⟨hf, h⟩, fun h => h.2⟩
    · rw [if_neg hf]
      exact ⟨fun h => absurd rfl h, fun h => absurd h.1 hf⟩
  constructor
  · rintro ⟨t, i, j, ht, hij, h1, h2⟩
    obtain ⟨o, ho, a1, a2, a3, a4, a5⟩ := (hB t j).mp h2
    refine ⟨af t o, i + mv o, j - mv o, af_lt ho ht, by omega, (hG _ _).mpr ⟨a4, io o, io_lt ho, by rw [mv_io ho]; exact a1, ?_, by rw [mv_io ho]; omega, ?_⟩, a5⟩
    · rw [can_ahead _ ho (af_lt ho ht), af_back ho ht]
      exact a2
    · rw [af_back ho ht, mv_io ho, show i + mv o - mv o = i by omega]
      exact h1
  · rintro ⟨u, i, j, hu, hij, h1, h2⟩
    obtain ⟨hf, o, ho, a1, a2, a3, a4⟩ := (hG u i).mp h1
    have hio := io_lt ho
    have e3 : io (io o) = o := by
      have hb := af_back (s := u) ho hu
      unfold io
      rw [show (7 * ic (o / 7) + ic (o % 7)) / 7 = ic (o / 7) from io_r ho, show (7 * ic (o / 7) + ic (o % 7)) % 7 = ic (o % 7) from io_l ho]
      have e : ∀ l, ic (ic l) = l := fun l => by
        by_cases h0 : l = 0
        · subst h0; rfl
        · by_cases h1 : l % 2 = 1
          · have h2 : ic l = l + 1 := by unfold ic; rw [if_neg h0, if_pos h1]
            rw [h2]
            unfold ic
            rw [if_neg (by omega), if_neg (by omega)]
            omega
          · have h2 : ic l = l - 1 := by unfold ic; rw [if_neg h0, if_neg h1]
            rw [h2]
            unfold ic
            rw [if_neg (by omega), if_pos (by omega)]
            omega
      rw [e, e]
      omega
    have hc := can_ahead (hT (heldI K T k y)) hio hu
    rw [e3] at hc
    refine ⟨af u o, i - mv o, j + mv o, af_lt ho hu, by omega, a4, (hB _ _).mpr ⟨io o, hio, by rw [mv_io ho]; exact a1, ?_, by rw [mv_io ho]; omega, ?_, ?_⟩⟩
    · rw [← hc]; exact a2
    · rw [af_back ho hu]; exact hf
    · rw [af_back ho hu, mv_io ho, show j + mv o - mv o = j by omega]
      exact h2
/-- the moves of all plans: told forward, and told backward -/
theorem TP_BR (K T : Nat → Int32) (y : Int32) {n b : Nat} (hb : b < 2187) (c : Nat) : TP K T y b n c ≠ 0 ↔ BR K T y n n b c ≠ 0 := by
  have h : ∀ k, k ≤ n → (Ex K T y n b 0 c ↔ Ex K T y n b k c) := by
    intro k
    induction k with
    | zero => intro _; exact Iff.rfl
    | succ k ih => intro hk; exact (ih (by omega)).trans (Ex_step K T y (by omega) c)
  have h0 : Ex K T y n b 0 c ↔ BR K T y n n b c ≠ 0 := by
    constructor
    · rintro ⟨t, i, j, ht, hij, h1, h2⟩
      have h3 : t = b ∧ i = 0 := Classical.byContradiction (fun q => h1 (if_neg q))
      rw [h3.1, Nat.sub_zero] at h2
      rw [show c = j by omega]
      exact h2
    · intro h1
      refine ⟨b, 0, c, hb, by omega, ?_, by rw [Nat.sub_zero]; exact h1⟩
      show (if b = b ∧ 0 = 0 then 1 else 0) ≠ 0
      rw [if_pos ⟨rfl, rfl⟩]
      decide
  have hn : Ex K T y n b n c ↔ TP K T y b n c ≠ 0 := by
    unfold TP
    rw [sm_ne]
    constructor
    · rintro ⟨t, i, j, ht, hij, h1, h2⟩
      rw [Nat.sub_self] at h2
      have h3 : j = 0 := Classical.byContradiction (fun q => h2 (if_neg q))
      exact ⟨t, ht, by rw [show c = i by omega]; exact h1⟩
    · rintro ⟨t, ht, h1⟩
      refine ⟨t, c, 0, ht, by omega, h1, ?_⟩
      rw [Nat.sub_self]
      show (if 0 = 0 then 1 else 0) ≠ 0
      decide
  exact hn.symm.trans ((h n (Nat.le_refl n)).symm.trans h0)
/-- the fewest: a number, or FAR -/
def mc (G : Nat → Nat) : Nat := if fa_first (fun c => decide (G c ≠ 0)) 64 < 64 then fa_first (fun c => decide (G c ≠ 0)) 64 else 99999
theorem mc_is {G : Nat → Nat} {c : Nat} (h1 : G c ≠ 0) (h2 : ∀ c', c' < c → G c' = 0) (hc : c < 64) : mc G = c := by
  have h3 : fa_first (fun c => decide (G c ≠ 0)) 64 = c := by
    rcases Nat.lt_trichotomy (fa_first (fun c => decide (G c ≠ 0)) 64) c with h | h | h
    · have h4 := fa_first_yes (fun c => decide (G c ≠ 0)) 64 (by omega)
      exact absurd (h2 _ h) (of_decide_eq_true h4)
    · exact h
    · have h4 := fa_first_no (fun c => decide (G c ≠ 0)) 64 c h
      exact absurd h1 (by
        have := of_decide_eq_false h4
        exact fun q => this q)
  unfold mc
  rw [h3, if_pos hc]
theorem mc_no {G : Nat → Nat} (h : ∀ c, G c = 0) : mc G = 99999 := by
  unfold mc
  rw [if_neg]
  intro h2
  have h4 := fa_first_yes (fun c => decide (G c ≠ 0)) 64 h2
  exact absurd (h _) (of_decide_eq_true h4)
theorem mc_congr {G G' : Nat → Nat} (h : ∀ c, G c ≠ 0 ↔ G' c ≠ 0) : mc G = mc G' := by
  have e : (fun c => decide (G c ≠ 0)) = fun c => decide (G' c ≠ 0) := funext (fun c => decide_eq_decide.mpr (h c))
  unfold mc
  rw [e]
/-- G has moves at most B, if any -/
def Bd (B : Nat) (G : Nat → Nat) : Prop := ∀ c, B < c → G c = 0
theorem mc_cases {B : Nat} {G : Nat → Nat} (hB : B < 64) (h : Bd B G) : (mc G = 99999 ∧ ∀ c, G c = 0) ∨ (mc G ≤ B ∧ G (mc G) ≠ 0 ∧ ∀ c', c' < mc G → G c' = 0) := by
  by_cases h1 : ∀ c, G c = 0
  · exact Or.inl ⟨mc_no h1, h1⟩
  · have h2 : ∃ c, c < B + 1 ∧ G c ≠ 0 := by
      apply Classical.byContradiction
      intro q
      apply h1
      intro c
      apply Classical.byContradiction
      intro q2
      by_cases hc : B < c
      · exact q2 (h c hc)
      · exact q ⟨c, by omega, q2⟩
    obtain ⟨c, hc, h3, h4⟩ := fb_first (p := fun c => G c ≠ 0) h2
    have h5 : mc G = c := mc_is h3 (fun c' hc' => Classical.byContradiction (fun q => h4 c' hc' q)) (by omega)
    right
    rw [h5]
    exact ⟨by omega, h3, fun c' hc' => Classical.byContradiction (fun q => h4 c' hc' q)⟩
theorem Bd_Zs {B M : Nat} {ok : Nat → Nat → Nat → Bool} {G : Nat → Nat → Nat} (h : ∀ u, u < 2187 → Bd B (G u)) {t : Nat} (ht : t < 2187) : Bd (B + 2) (Zs M ok G t) := by
  intro c hc
  apply Classical.byContradiction
  intro q
  obtain ⟨o, ho, -, -, h4, h5⟩ := Zs_ne.mp q
  have hm : mv o ≤ 2 := by unfold mv m1; split <;> split <;> omega
  exact h5 (h _ (af_lt ho ht) _ (by omega))
theorem Bd_BR (K T : Nat → Int32) (y : Int32) (n : Nat) : ∀ d t, t < 2187 → Bd (2 * d) (BR K T y n d t)
  | 0, t, _ => fun c hc => if_neg (by omega)
  | d + 1, t, ht => by
    have ih := Bd_BR K T y n d
    have h := Bd_Zs (B := 2 * d) (M := mostI (K (n - 1 - d))) (ok := fun p _ b => !hT (heldI K T (n - 1 - d) y) p b) (G := fun u c => if fitK K T y (n - 1 - d) u = true then BR K T y n d u c else 0) (fun u hu c hc => by
      show (if fitK K T y (n - 1 - d) u = true then BR K T y n d u c else 0) = 0
      split
      · exact ih u hu c hc
      · rfl) ht
    exact fun c hc => h c (by omega)
theorem Bd_OW (K T : Nat → Int32) (y : Int32) (n k u : Nat) (hu : u < 2187) : Bd (2 * (n - 1 - k)) (OW K T y n k u) := by
  intro c hc
  unfold OW
  split
  · exact Bd_BR K T y n _ u hu c hc
  · rfl
theorem Bd_GP (K T : Nat → Int32) (y : Int32) (b : Nat) : ∀ k t, t < 2187 → Bd (2 * k) (GP K T y b k t)
  | 0, t, _ => fun c hc => if_neg (by omega)
  | k + 1, t, ht => by
    have ih := Bd_GP K T y b k
    have h := Bd_Zs (B := 2 * k) (M := mostI (K k)) (ok := fun p a _ => !hT (heldI K T k y) p a) (G := fun s c => GP K T y b k s c) (fun u hu c hc => ih u hu c hc) ht
    intro c hc
    show (if fitK K T y k t = true then Zs (mostI (K k)) (fun p a _ => !hT (heldI K T k y) p a) (fun s c => GP K T y b k s c) t c else 0) = 0
    split
    · exact h c (by omega)
    · rfl
theorem BR_OW (K T : Nat → Int32) (y : Int32) {n k : Nat} (hk : k < n) (t c : Nat) : BR K T y n (n - k) t c = Zs (mostI (K k)) (fun p _ b => !hT (heldI K T k y) p b) (fun u c => OW K T y n k u c) t c := by
  have e1 : n - k = n - 1 - k + 1 := by omega
  have e2 : n - 1 - (n - 1 - k) = k := by omega
  rw [e1]
  show Zs (mostI (K (n - 1 - (n - 1 - k)))) _ _ t c = _
  rw [e2]
  rfl
