/-! the page read: one pure reading for both sides -/
def pg_kd (c : Nat) : Option Nat := if c = 98 then some 4 else if c = 99 then some 0 else if c = 103 then some 1 else if c = 104 then some 2 else if c = 113 then some 3 else none
def pg_bg (G : Nat → Nat) : Nat → Nat
  | 0 => 0
  | j + 1 => 3 * pg_bg G j + (G j - 48)
def pg_up (f : Nat → Nat) (i v : Nat) : Nat → Nat := fun j => if j = i then v else f j
theorem pg_us {f : Nat → Nat} {i v : Nat} : pg_up f i v i = v := if_pos rfl
theorem pg_un {f : Nat → Nat} {i v j : Nat} (h : j ≠ i) : pg_up f i v j = f j := if_neg h
def pg_step (G : Nat → Nat) (k : Nat) (st : Nat × Nat × (Nat → Nat) × (Nat → Nat)) : Option (Nat × Nat × (Nat → Nat) × (Nat → Nat)) :=
  if k < 7 then (if 48 ≤ G k ∧ G k ≤ 50 then some st else none)
  else if k = 7 then (if G k = 59 then some st else none)
  else if st.2.1 = 0 then (match pg_kd (G k) with
    | none => none
    | some y => some (st.1 + 1, 1, pg_up st.2.2.1 st.1 y, pg_up st.2.2.2 st.1 0))
  else if 97 ≤ G k ∧ G k ≤ 108 ∧ st.2.1 ≤ 4 ∧ st.2.2.2 (st.1 - 1) < 2 ^ (G k - 97) then some (st.1, st.2.1 + 1, st.2.2.1, pg_up st.2.2.2 (st.1 - 1) (st.2.2.2 (st.1 - 1) + 2 ^ (G k - 97)))
  else if G k = 44 ∧ 2 ≤ st.2.1 ∧ st.1 < 8 then some (st.1, 0, st.2.2.1, st.2.2.2) else none
def pg_rs (G : Nat → Nat) : Nat → Option (Nat × Nat × (Nat → Nat) × (Nat → Nat))
  | 0 => some (0, 0, fun _ => 0, fun _ => 0)
  | k + 1 => match pg_rs G k with
    | none => none
    | some st => pg_step G k st
def pg_P (G : Nat → Nat) (k : Nat) (st : Nat × Nat × (Nat → Nat) × (Nat → Nat)) : Prop :=
  st.1 ≤ 8 ∧ st.2.1 ≤ 5 ∧ (k ≤ 8 → st.1 = 0 ∧ st.2.1 = 0) ∧ (st.2.1 = 0 → st.1 < 8 ∨ k ≤ 8) ∧ (st.2.1 ≠ 0 → 0 < st.1 ∧ pcn (st.2.2.2 (st.1 - 1)) 12 = st.2.1 - 1) ∧ (st.2.1 = 1 → st.2.2.2 (st.1 - 1) = 0) ∧ (2 ≤ st.2.1 → 97 ≤ G (k - 1) ∧ G (k - 1) ≤ 108 ∧ 2 ^ (G (k - 1) - 97) ≤ st.2.2.2 (st.1 - 1) ∧ st.2.2.2 (st.1 - 1) < 2 ^ (G (k - 1) - 97 + 1)) ∧ (∀ x, x < st.1 → st.2.2.2 x < 4096) ∧ (∀ x, x < k → x < 7 → 48 ≤ G x ∧ G x ≤ 50)
section
variable {G : Nat → Nat} {k m h : Nat} {K T : Nat → Nat}
theorem pg_s1 (h1 : k < 7) (h2 : 48 ≤ G k ∧ G k ≤ 50) {st : Nat × Nat × (Nat → Nat) × (Nat → Nat)} : pg_step G k st = some st := by
  unfold pg_step
  rw [if_pos h1, if_pos h2]
theorem pg_n1 (h1 : k < 7) (h2 : ¬ (48 ≤ G k ∧ G k ≤ 50)) {st : Nat × Nat × (Nat → Nat) × (Nat → Nat)} : pg_step G k st = none := by
  unfold pg_step
  rw [if_pos h1, if_neg h2]
theorem pg_s2 (h1 : k = 7) (h2 : G k = 59) {st : Nat × Nat × (Nat → Nat) × (Nat → Nat)} : pg_step G k st = some st := by
  unfold pg_step
  rw [if_neg (by omega), if_pos h1, if_pos h2]
theorem pg_n2 (h1 : k = 7) (h2 : ¬ G k = 59) {st : Nat × Nat × (Nat → Nat) × (Nat → Nat)} : pg_step G k st = none := by
  unfold pg_step
  rw [if_neg (by omega), if_pos h1, if_neg h2]
theorem pg_s3 (h1 : 7 < k) {y : Nat} (h2 : pg_kd (G k) = some y) : pg_step G k (m, 0, K, T) = some (m + 1, 1, pg_up K m y, pg_up T m 0) := by
  unfold pg_step
  rw [if_neg (by omega), if_neg (by omega), if_pos rfl, h2]
theorem pg_n3 (h1 : 7 < k) (h2 : pg_kd (G k) = none) : pg_step G k (m, 0, K, T) = none := by
  unfold pg_step
  rw [if_neg (by omega), if_neg (by omega), if_pos rfl, h2]
theorem pg_s4 (h1 : 7 < k) (h0 : h ≠ 0) (h2 : 97 ≤ G k ∧ G k ≤ 108 ∧ h ≤ 4 ∧ T (m - 1) < 2 ^ (G k - 97)) : pg_step G k (m, h, K, T) = some (m, h + 1, K, pg_up T (m - 1) (T (m - 1) + 2 ^ (G k - 97))) := by
  unfold pg_step
  rw [if_neg (by omega), if_neg (by omega), if_neg h0, if_pos h2]
theorem pg_s5 (h1 : 7 < k) (h0 : h ≠ 0) (h2 : G k = 44 ∧ 2 ≤ h ∧ m < 8) : pg_step G k (m, h, K, T) = some (m, 0, K, T) := by
  unfold pg_step
  rw [if_neg (by omega), if_neg (by omega), if_neg h0, if_neg (fun z => by have := z.1; omega), if_pos h2]
theorem pg_n5 (h1 : 7 < k) (h0 : h ≠ 0) (h3 : ¬ (97 ≤ G k ∧ G k ≤ 108 ∧ h ≤ 4 ∧ T (m - 1) < 2 ^ (G k - 97))) (h2 : ¬ (G k = 44 ∧ 2 ≤ h ∧ m < 8)) : pg_step G k (m, h, K, T) = none := by
  unfold pg_step
  rw [if_neg (by omega), if_neg (by omega), if_neg h0, if_neg h3, if_neg h2]
end
def pg_pcOk (a : Nat) : Bool := (List.range 12).all (fun j => !decide (a < 2 ^ j) || decide (pcn (a + 2 ^ j) 12 = pcn a 12 + 1))
theorem pg_pc_all : ∀ h, h < 64 → ∀ l, l < 64 → pg_pcOk (64 * h + l) = true := by decide +kernel
theorem pg_pc {a j : Nat} (hj : j < 12) (h : a < 2 ^ j) : pcn (a + 2 ^ j) 12 = pcn a 12 + 1 := by
  have h12 : 2 ^ j ≤ 2 ^ 11 := Nat.pow_le_pow_right (by decide) (by omega)
  have e := pg_pc_all (a / 64) (by omega) (a % 64) (by omega)
  rw [show 64 * (a / 64) + a % 64 = a by omega] at e
  unfold pg_pcOk at e
  have e2 := List.all_eq_true.mp e j (List.mem_range.mpr hj)
  rw [decide_eq_true h] at e2
  exact of_decide_eq_true e2
theorem pg_top {a b t : Nat} (h1 : 2 ^ a ≤ t) (h2 : t < 2 ^ (a + 1)) : t < 2 ^ b ↔ a < b := by
  constructor
  · intro h
    apply Nat.not_le.mp
    intro hle
    have := Nat.pow_le_pow_right (n := 2) (by decide) hle
    omega
  · intro h
    have := Nat.pow_le_pow_right (n := 2) (by decide) (show a + 1 ≤ b from h)
    omega
theorem pg_Pstep {G : Nat → Nat} {k : Nat} {st st2 : Nat × Nat × (Nat → Nat) × (Nat → Nat)} (hP : pg_P G k st) (hs : pg_step G k st = some st2) : pg_P G (k + 1) st2 := by
  obtain ⟨m, h, K, T⟩ := st
  obtain ⟨p1, p2, p3, p4, p5, p6, p7, p8, p9⟩ := hP
  dsimp only at p1 p2 p3 p4 p5 p6 p7 p8
  by_cases k7 : k < 7
  · by_cases c : 48 ≤ G k ∧ G k ≤ 50
    · rw [pg_s1 k7 c] at hs
      cases hs
      obtain ⟨q1, q2⟩ := p3 (by omega)
      refine ⟨p1, p2, fun _ => p3 (by omega), fun _ => Or.inr (by omega), fun z => absurd q2 z, fun z => absurd (show h = 1 from z) (by omega), fun z => absurd (show 2 ≤ h from z) (by omega), p8, fun x hx h7 => ?_⟩
      by_cases e : x = k
      · rw [e]; exact c
      · exact p9 x (by omega) h7
    · rw [pg_n1 k7 c] at hs
      cases hs
  · by_cases e7 : k = 7
    · by_cases c : G k = 59
      · rw [pg_s2 e7 c] at hs
        cases hs
        obtain ⟨q1, q2⟩ := p3 (by omega)
        exact ⟨p1, p2, fun _ => p3 (by omega), fun _ => Or.inr (by omega), fun z => absurd q2 z, fun z => absurd (show h = 1 from z) (by omega), fun z => absurd (show 2 ≤ h from z) (by omega), p8, fun x hx h7 => p9 x (by omega) h7⟩
      · rw [pg_n2 e7 c] at hs
        cases hs
    · have g7 : 7 < k := by omega
      have p9' : ∀ x, x < k + 1 → x < 7 → 48 ≤ G x ∧ G x ≤ 50 := fun x hx h7 => p9 x (by omega) h7
      by_cases e0 : h = 0
      · subst e0
        cases c : pg_kd (G k) with
        | none => rw [pg_n3 g7 c] at hs; cases hs
        | some y =>
          rw [pg_s3 g7 c] at hs
          cases hs
          have hm : m < 8 := by
            rcases p4 rfl with z | z
            · exact z
            · have := (p3 z).1; omega
          refine ⟨by show m + 1 ≤ 8; omega, by show 1 ≤ 5; omega, fun z => absurd z (by omega), fun z => absurd (show (1 : Nat) = 0 from z) (by omega), fun _ => ⟨by show 0 < m + 1; omega, ?_⟩, fun _ => ?_, fun z => absurd (show (2 : Nat) ≤ 1 from z) (by omega), fun x hx => ?_, p9'⟩
          · show pcn (pg_up T m 0 (m + 1 - 1)) 12 = 1 - 1
            rw [Nat.add_sub_cancel, pg_us]
            rfl
          · show pg_up T m 0 (m + 1 - 1) = 0
            rw [Nat.add_sub_cancel, pg_us]
          · show pg_up T m 0 x < 4096
            by_cases e : x = m
            · rw [e, pg_us]; omega
            · rw [pg_un e]
              exact p8 x (by have : x < m + 1 := hx; omega)
      · by_cases c : 97 ≤ G k ∧ G k ≤ 108 ∧ h ≤ 4 ∧ T (m - 1) < 2 ^ (G k - 97)
        · rw [pg_s4 g7 e0 c] at hs
          cases hs
          obtain ⟨c1, c2, c3, c4⟩ := c
          obtain ⟨q1, q2⟩ := p5 e0
          have h12 : 2 ^ (G k - 97) ≤ 2 ^ 11 := Nat.pow_le_pow_right (by decide) (by omega)
          refine ⟨p1, by show h + 1 ≤ 5; omega, fun z => absurd z (by omega), fun z => absurd (show h + 1 = 0 from z) (by omega), fun _ => ⟨q1, ?_⟩, fun z => absurd (show h + 1 = 1 from z) (by omega), fun _ => ⟨c1, c2, ?_, ?_⟩, fun x hx => ?_, p9'⟩
          · show pcn (pg_up T (m - 1) (T (m - 1) + 2 ^ (G k - 97)) (m - 1)) 12 = h + 1 - 1
            rw [pg_us, pg_pc (by omega) c4, q2]
            omega
          · show 2 ^ (G k - 97) ≤ pg_up T (m - 1) (T (m - 1) + 2 ^ (G k - 97)) (m - 1)
            rw [pg_us]
            omega
          · show pg_up T (m - 1) (T (m - 1) + 2 ^ (G k - 97)) (m - 1) < 2 ^ (G k - 97 + 1)
            rw [pg_us, Nat.pow_succ]
            omega
          · show pg_up T (m - 1) (T (m - 1) + 2 ^ (G k - 97)) x < 4096
            by_cases e : x = m - 1
            · rw [e, pg_us]; omega
            · rw [pg_un e]
              exact p8 x hx
        · by_cases d : G k = 44 ∧ 2 ≤ h ∧ m < 8
          · rw [pg_s5 g7 e0 d] at hs
            cases hs
            exact ⟨p1, by show 0 ≤ 5; omega, fun z => absurd z (by omega), fun _ => Or.inl d.2.2, fun z => absurd rfl z, fun z => absurd (show (0 : Nat) = 1 from z) (by omega), fun z => absurd (show (2 : Nat) ≤ 0 from z) (by omega), p8, p9'⟩
          · rw [pg_n5 g7 e0 c d] at hs
            cases hs
theorem pg_rsS {G : Nat → Nat} {k : Nat} {st : Nat × Nat × (Nat → Nat) × (Nat → Nat)} (h : pg_rs G k = some st) : pg_rs G (k + 1) = pg_step G k st := by
  show (match pg_rs G k with
    | none => none
    | some st => pg_step G k st) = _
  rw [h]
theorem pg_rsN {G : Nat → Nat} {k : Nat} (h : pg_rs G k = none) : pg_rs G (k + 1) = none := by
  show (match pg_rs G k with
    | none => none
    | some st => pg_step G k st) = _
  rw [h]
theorem pg_rsP {G : Nat → Nat} : ∀ (k : Nat) (st : Nat × Nat × (Nat → Nat) × (Nat → Nat)), pg_rs G k = some st → pg_P G k st
  | 0, st, h => by
    cases h
    exact ⟨by show 0 ≤ 8; omega, by show 0 ≤ 5; omega, fun _ => ⟨rfl, rfl⟩, fun _ => Or.inr (by omega), fun z => absurd rfl z, fun z => absurd (show (0 : Nat) = 1 from z) (by omega), fun z => absurd (show (2 : Nat) ≤ 0 from z) (by omega), fun x hx => absurd (show x < 0 from hx) (by omega), fun x hx => absurd hx (by omega)⟩
  | k + 1, st, h => by
    cases e : pg_rs G k with
    | none => rw [pg_rsN e] at h; cases h
    | some st0 => rw [pg_rsS e] at h; exact pg_Pstep (pg_rsP k st0 e) h
theorem pg_rsL {G : Nat → Nat} {i : Nat} : ∀ (j : Nat) (st : Nat × Nat × (Nat → Nat) × (Nat → Nat)), i ≤ j → pg_rs G j = some st → ∃ st2, pg_rs G i = some st2
  | 0, st, hi, h => ⟨st, by rw [show i = 0 by omega]; exact h⟩
  | j + 1, st, hi, h => by
    by_cases e : i = j + 1
    · exact ⟨st, by rw [e]; exact h⟩
    · cases e2 : pg_rs G j with
      | none => rw [pg_rsN e2] at h; cases h
      | some st0 => exact pg_rsL j st0 (by omega) e2
theorem pg_stop (G : Nat → Nat) : ∀ g, ∃ (j : Nat) (st : Nat × Nat × (Nat → Nat) × (Nat → Nat)), j ≤ g ∧ pg_rs G j = some st ∧ (j < g → pg_rs G (j + 1) = none)
  | 0 => ⟨0, (0, 0, fun _ => 0, fun _ => 0), Nat.le_refl 0, rfl, fun z => absurd z (by omega)⟩
  | g + 1 => by
    obtain ⟨j, st, h1, h2, h3⟩ := pg_stop G g
    by_cases e : j < g
    · exact ⟨j, st, by omega, h2, fun _ => h3 e⟩
    · have ej : j = g := by omega
      subst ej
      cases e2 : pg_rs G (j + 1) with
      | none => exact ⟨j, st, by omega, h2, fun _ => e2⟩
      | some st2 => exact ⟨j + 1, st2, by omega, e2, fun z => absurd z (by omega)⟩
theorem pg_bgL {G : Nat → Nat} : ∀ j, (∀ x, x < j → 48 ≤ G x ∧ G x ≤ 50) → pg_bg G j < 3 ^ j
  | 0, _ => by show 0 < 1; omega
  | j + 1, h => by
    have h1 := pg_bgL j (fun x hx => h x (by omega))
    have h2 := h j (by omega)
    show 3 * pg_bg G j + (G j - 48) < 3 ^ (j + 1)
    rw [Nat.pow_succ]
    omega
theorem nI_lit {n c : Nat} {C : Int32} (h : C = nI c) (hn : n < 2 ^ 31) (hc : c < 2 ^ 31) : nI n = C ↔ n = c := by subst h; exact nI_eq hn hc
theorem le_lit {n c : Nat} {C : Int32} (h : C = nI c) (hn : n < 2 ^ 31) (hc : c < 2 ^ 31) : C ≤ nI n ↔ c ≤ n := by subst h; exact nI_leI hc hn
theorem le_litR {n c : Nat} {C : Int32} (h : C = nI c) (hn : n < 2 ^ 31) (hc : c < 2 ^ 31) : nI n ≤ C ↔ n ≤ c := by subst h; exact nI_leI hn hc
theorem lt_lit {n c : Nat} {C : Int32} (h : C = nI c) (hn : n < 2 ^ 31) (hc : c < 2 ^ 31) : nI n < C ↔ n < c := by subst h; exact nI_ltI hn hc
theorem lt_litL {n c : Nat} {C : Int32} (h : C = nI c) (hn : n < 2 ^ 31) (hc : c < 2 ^ 31) : C < nI n ↔ c < n := by subst h; exact nI_ltI hc hn
theorem pg_shl : ∀ j, j < 12 → (1 : Int32) <<< (nI j &&& 31) = nI (2 ^ j) := by decide
theorem pg_sm : ∀ j, j < 12 → ((nI j &&& 31).toBitVec.smod 32).toNat = j := by decide
theorem pg_shr {t j : Nat} (hj : j < 12) (ht : t < 4096) : nI t >>> (nI j &&& 31) = 0 ↔ t < 2 ^ j := by
  have e5 : t / 2 ^ j ≤ t := Nat.div_le_self _ _
  rw [pk_shrN (k := j) (by omega) _ (pg_sm j hj), nI_is0 (by omega), Nat.div_eq_zero_iff]
  have := Nat.two_pow_pos j
  omega
theorem pg_or {t j : Nat} (h : t < 2 ^ j) : nI t ||| nI (2 ^ j) = nI (t + 2 ^ j) := by
  have e := fa_or_sum (a := t) (k := j) 1 h
  rw [Nat.mul_one] at e
  rw [Int32.or_comm, e, Nat.add_comm]
