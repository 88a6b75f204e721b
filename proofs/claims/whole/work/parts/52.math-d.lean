/-! the best plan, setting by setting -/
theorem mc_min {B c : Nat} {G : Nat → Nat} (hB : B < 64) (h : Bd B G) (hc : G c ≠ 0) : mc G ≤ c := by
  rcases mc_cases hB h with ⟨-, h2⟩ | ⟨-, -, h3⟩
  · exact absurd (h2 c) hc
  · exact Classical.byContradiction (fun q => hc (h3 c (by omega)))
theorem mc_at {B : Nat} {G : Nat → Nat} (hB : B < 64) (h : Bd B G) (hf : mc G ≠ 99999) : mc G ≤ B ∧ G (mc G) ≠ 0 := by
  rcases mc_cases hB h with ⟨h1, -⟩ | ⟨h1, h2, -⟩
  · exact absurd h1 hf
  · exact ⟨h1, h2⟩
def isNx (K T : Nat → Int32) (n k s t o : Nat) : Bool := decide (af s o = t) && (decide (mv o ≤ mostI (K k)) && (canS (hT (heldI K T k 0)) s o && (decide (mv o + mc (OW K T 0 n k t) = mc (BR K T 0 n (n - k) s)) && decide (mc (OW K T 0 n k t) ≠ 99999))))
def NXb (K T : Nat → Int32) (n k s t : Nat) : Bool := decide (0 < fb_ct (isNx K T n k s t) 63)
def nxt (K T : Nat → Int32) (n k s : Nat) : Nat := fa_first (NXb K T n k s) 2187
def bsS (K T : Nat → Int32) (n b : Nat) : Nat → Nat
  | 0 => b
  | k + 1 => nxt K T n k (bsS K T n b k)
def bestI (K T : Nat → Int32) (n b k : Nat) : Int32 := if mc (BR K T 0 n n b) = 99999 then -1 else nI (bsS K T n b (k + 1))
theorem NXb_iff (K T : Nat → Int32) (n k s t : Nat) : NXb K T n k s t = true ↔ ∃ o, o < 63 ∧ af s o = t ∧ mv o ≤ mostI (K k) ∧ canS (hT (heldI K T k 0)) s o = true ∧ mv o + mc (OW K T 0 n k t) = mc (BR K T 0 n (n - k) s) ∧ mc (OW K T 0 n k t) ≠ 99999 := by
  unfold NXb
  rw [decide_eq_true_iff, fb_ct_pos]
  constructor
  · rintro ⟨o, ho, h⟩
    unfold isNx at h
    simp only [Bool.and_eq_true, decide_eq_true_iff] at h
    exact ⟨o, ho, h.1, h.2.1, h.2.2.1, h.2.2.2.1, h.2.2.2.2⟩
  · rintro ⟨o, ho, h1, h2, h3, h4, h5⟩
    refine ⟨o, ho, ?_⟩
    unfold isNx
    simp only [Bool.and_eq_true, decide_eq_true_iff]
    exact ⟨h1, h2, h3, h4, h5⟩
theorem BR_bd (K T : Nat → Int32) (y : Int32) {n d : Nat} (hd : d ≤ 8) {t : Nat} (ht : t < 2187) : Bd 16 (BR K T y n d t) := fun c hc => Bd_BR K T y n d t ht c (by omega)
theorem OW_bd (K T : Nat → Int32) (y : Int32) {n k : Nat} (hn : n ≤ 8) {t : Nat} (ht : t < 2187) : Bd 16 (OW K T y n k t) := fun c hc => Bd_OW K T y n k t ht c (by omega)
/-- from a setting the fewest moves are not more than by any choice -/
theorem mc_step_le (K T : Nat → Int32) (y : Int32) {n k s o : Nat} (hn : n ≤ 8) (hk : k < n) (hs : s < 2187) (ho : o < 63) (h1 : mv o ≤ mostI (K k)) (h2 : canS (hT (heldI K T k y)) s o = true) (h3 : mc (OW K T y n k (af s o)) ≠ 99999) : mc (BR K T y n (n - k) s) ≤ mv o + mc (OW K T y n k (af s o)) := by
  have h4 := mc_at (by omega) (OW_bd K T y hn (af_lt ho hs)) h3
  apply mc_min (B := 16) (by omega) (BR_bd K T y (by omega) hs)
  rw [BR_OW K T y hk s, Zs_ne]
  refine ⟨o, ho, h1, by rw [can_back]; exact h2, by omega, ?_⟩
  rw [show mv o + mc (OW K T y n k (af s o)) - mv o = mc (OW K T y n k (af s o)) by omega]
  exact h4.2
theorem mc_step_ex (K T : Nat → Int32) (y : Int32) {n k s : Nat} (hn : n ≤ 8) (hk : k < n) (hs : s < 2187) (hf : mc (BR K T y n (n - k) s) ≠ 99999) : ∃ o, o < 63 ∧ mv o ≤ mostI (K k) ∧ canS (hT (heldI K T k y)) s o = true ∧ mv o + mc (OW K T y n k (af s o)) = mc (BR K T y n (n - k) s) ∧ mc (OW K T y n k (af s o)) ≠ 99999 := by
  obtain ⟨h1, h2⟩ := mc_at (by omega) (BR_bd K T y (n := n) (d := n - k) (by omega) hs) hf
  rw [BR_OW K T y hk s, Zs_ne] at h2
  obtain ⟨o, ho, a1, a2, a3, a4⟩ := h2
  rw [can_back] at a2
  have h3 := mc_min (by omega) (OW_bd K T y hn (af_lt ho hs)) a4
  have h4 : mc (OW K T y n k (af s o)) ≠ 99999 := by omega
  have h5 := mc_step_le K T y hn hk hs ho a1 a2 h4
  exact ⟨o, ho, a1, a2, by omega, h4⟩
theorem nxt_ok (K T : Nat → Int32) {n k s : Nat} (hn : n ≤ 8) (hk : k < n) (hs : s < 2187) (hf : mc (BR K T 0 n (n - k) s) ≠ 99999) : nxt K T n k s < 2187 ∧ NXb K T n k s (nxt K T n k s) = true ∧ ∀ t, t < nxt K T n k s → NXb K T n k s t = false := by
  obtain ⟨o, ho, a1, a2, a3, a4⟩ := mc_step_ex K T 0 hn hk hs hf
  have h1 : NXb K T n k s (af s o) = true := (NXb_iff K T n k s _).mpr ⟨o, ho, rfl, a1, a2, a3, a4⟩
  have h2 : nxt K T n k s < 2187 := by
    apply Classical.byContradiction
    intro q
    have h3 := fa_first_no (NXb K T n k s) 2187 (af s o) (by have := af_lt ho hs; unfold nxt at q; omega)
    rw [h1] at h3
    cases h3
  exact ⟨h2, fa_first_yes _ _ h2, fun t ht => fa_first_no _ _ t ht⟩
theorem nxt_is (K T : Nat → Int32) {n k s t : Nat} (ht : t < 2187) (h1 : NXb K T n k s t = true) (h2 : ∀ t', t' < t → NXb K T n k s t' = false) : nxt K T n k s = t := by
  unfold nxt
  rcases Nat.lt_trichotomy (fa_first (NXb K T n k s) 2187) t with h | h | h
  · have h3 := fa_first_yes (NXb K T n k s) 2187 (by omega)
    rw [h2 _ h] at h3
    cases h3
  · exact h
  · have h3 := fa_first_no (NXb K T n k s) 2187 t h
    rw [h1] at h3
    cases h3
theorem nxt_mc (K T : Nat → Int32) {n k s t : Nat} (hn : n ≤ 8) (hk : k + 1 < n) (h1 : NXb K T n k s t = true) : mc (BR K T 0 n (n - (k + 1)) t) = mc (OW K T 0 n k t) ∧ mc (OW K T 0 n k t) ≠ 99999 := by
  obtain ⟨o, ho, a1, a2, a3, a4, a5⟩ := (NXb_iff K T n k s t).mp h1
  have hf : fitK K T 0 k t = true := Classical.byContradiction (fun q => a5 (mc_no (fun c => by unfold OW; rw [if_neg q])))
  rw [OW_next K T 0 hk t hf]
  refine ⟨rfl, ?_⟩
  rw [← OW_next K T 0 hk t hf]
  exact a5
theorem bsS_ok (K T : Nat → Int32) {n b : Nat} (hn : n ≤ 8) (hb : b < 2187) (hf : mc (BR K T 0 n n b) ≠ 99999) : ∀ k, k ≤ n → bsS K T n b k < 2187 ∧ (k < n → mc (BR K T 0 n (n - k) (bsS K T n b k)) ≠ 99999)
  | 0, _ => ⟨hb, fun _ => by rw [Nat.sub_zero]; exact hf⟩
  | k + 1, h => by
    obtain ⟨h1, h2⟩ := bsS_ok K T hn hb hf k (by omega)
    obtain ⟨a1, a2, -⟩ := nxt_ok K T hn (by omega) h1 (h2 (by omega))
    refine ⟨a1, fun hk => ?_⟩
    have h3 := nxt_mc K T hn hk a2
    show mc (BR K T 0 n (n - (k + 1)) (nxt K T n k (bsS K T n b k))) ≠ 99999
    rw [h3.1]
    exact h3.2
