/-! settings as numbers to the base of three; what one pedal, one foot, both feet make of them -/
def wt (p : Nat) : Nat := if p = 0 then 729 else if p = 1 then 243 else if p = 2 then 81 else if p = 3 then 27 else if p = 4 then 9 else if p = 5 then 3 else 1
def pos (s p : Nat) : Nat := s / wt p % 3
def setP (s p d : Nat) : Nat := s - pos s p * wt p + d * wt p
theorem seven {p : Nat} (h : p < 7) : p = 0 ∨ p = 1 ∨ p = 2 ∨ p = 3 ∨ p = 4 ∨ p = 5 ∨ p = 6 := by omega
theorem pos_lt (s p : Nat) : pos s p < 3 := Nat.mod_lt _ (by decide)
theorem pos_le {s p : Nat} : pos s p * wt p ≤ s := by
  have h1 : s / wt p % 3 ≤ s / wt p := Nat.mod_le _ _
  have h2 : s / wt p * wt p ≤ s := Nat.div_mul_le_self s (wt p)
  exact Nat.le_trans (Nat.mul_le_mul_right _ h1) h2
theorem setP_add (s p d : Nat) : setP s p d + pos s p * wt p = s + d * wt p := by
  have h := pos_le (s := s) (p := p)
  unfold setP
  omega
theorem setP_lt {s p d : Nat} (hp : p < 7) (hs : s < 2187) (hd : d < 3) : setP s p d < 2187 := by
  rcases seven hp with rfl | rfl | rfl | rfl | rfl | rfl | rfl <;> simp only [setP, pos, wt] <;> simp <;> omega
theorem pos_setP {s p d : Nat} (hp : p < 7) (hs : s < 2187) (hd : d < 3) : pos (setP s p d) p = d := by
  rcases seven hp with rfl | rfl | rfl | rfl | rfl | rfl | rfl <;> simp only [setP, pos, wt] <;> simp <;> omega
theorem pos_setP_ne {s p d r : Nat} (hp : p < 7) (hr : r < 7) (hne : p ≠ r) (hs : s < 2187) (hd : d < 3) : pos (setP s p d) r = pos s r := by
  rcases seven hp with rfl | rfl | rfl | rfl | rfl | rfl | rfl <;> rcases seven hr with rfl | rfl | rfl | rfl | rfl | rfl | rfl <;> first | exact absurd rfl hne | (simp only [setP, pos, wt]; simp; omega)
theorem setP_self {s p : Nat} : setP s p (pos s p) = s := by
  have := setP_add s p (pos s p)
  omega
theorem setP_setP {s p d d2 : Nat} (hp : p < 7) (hs : s < 2187) (hd : d < 3) : setP (setP s p d) p d2 = setP s p d2 := by
  have h1 := setP_add s p d
  have h2 := setP_add (setP s p d) p d2
  have h3 := setP_add s p d2
  rw [pos_setP hp hs hd] at h2
  omega
theorem setP_comm {s p r d d2 : Nat} (hp : p < 7) (hr : r < 7) (hne : p ≠ r) (hs : s < 2187) (hd : d < 3) (hd2 : d2 < 3) : setP (setP s p d) r d2 = setP (setP s r d2) p d := by
  have h1 := setP_add s p d
  have h2 := setP_add (setP s p d) r d2
  have h3 := setP_add s r d2
  have h4 := setP_add (setP s r d2) p d
  rw [pos_setP_ne hp hr hne hs hd] at h2
  rw [pos_setP_ne hr hp (fun h => hne h.symm) hs hd2] at h4
  omega
theorem pos_ext {s t : Nat} (hs : s < 2187) (ht : t < 2187) (h : ∀ p, p < 7 → pos s p = pos t p) : s = t := by
  have h0 := h 0 (by decide)
  have h1 := h 1 (by decide)
  have h2 := h 2 (by decide)
  have h3 := h 3 (by decide)
  have h4 := h 4 (by decide)
  have h5 := h 5 (by decide)
  have h6 := h 6 (by decide)
  simp only [pos, wt] at h0 h1 h2 h3 h4 h5 h6
  simp at h0 h1 h2 h3 h4 h5 h6
  omega
/-- a pedal moved on by k positions, round -/
def turn (s p k : Nat) : Nat := setP s p ((pos s p + k) % 3)
theorem turn_lt {s p k : Nat} (hp : p < 7) (hs : s < 2187) : turn s p k < 2187 := setP_lt hp hs (Nat.mod_lt _ (by decide))
theorem pos_turn {s p k : Nat} (hp : p < 7) (hs : s < 2187) : pos (turn s p k) p = (pos s p + k) % 3 := pos_setP hp hs (Nat.mod_lt _ (by decide))
theorem pos_turn_ne {s p k r : Nat} (hp : p < 7) (hr : r < 7) (hne : p ≠ r) (hs : s < 2187) : pos (turn s p k) r = pos s r := pos_setP_ne hp hr hne hs (Nat.mod_lt _ (by decide))
theorem turn_turn {s p k j : Nat} (hp : p < 7) (hs : s < 2187) (h : (k + j) % 3 = 0) : turn (turn s p k) p j = s := by
  unfold turn
  rw [pos_setP hp hs (Nat.mod_lt _ (by decide)), setP_setP hp hs (Nat.mod_lt _ (by decide))]
  have h1 := pos_lt s p
  rw [show ((pos s p + k) % 3 + j) % 3 = pos s p by omega, setP_self]
theorem turn_comm {s p r k j : Nat} (hp : p < 7) (hr : r < 7) (hne : p ≠ r) (hs : s < 2187) : turn (turn s p k) r j = turn (turn s r j) p k := by
  have e1 : pos (turn s p k) r = pos s r := pos_turn_ne hp hr hne hs
  have e2 : pos (turn s r j) p = pos s p := pos_turn_ne hr hp (fun h => hne h.symm) hs
  show setP (turn s p k) r ((pos (turn s p k) r + j) % 3) = setP (turn s r j) p ((pos (turn s r j) p + k) % 3)
  rw [e1, e2]
  exact setP_comm hp hr hne hs (Nat.mod_lt _ (by decide)) (Nat.mod_lt _ (by decide))
/-- the left foot's seven choices, the right foot's nine: which pedal, by how much -/
def lp (l : Nat) : Nat := (l - 1) / 2
def rp (r : Nat) : Nat := 3 + (r - 1) / 2
def bk (l : Nat) : Nat := 1 + (l + 1) % 2
def aL (s l : Nat) : Nat := if l = 0 then s else turn s (lp l) (bk l)
def aR (s r : Nat) : Nat := if r = 0 then s else turn s (rp r) (bk r)
def m1 (l : Nat) : Nat := if l = 0 then 0 else 1
def af (s o : Nat) : Nat := aR (aL s (o % 7)) (o / 7)
def mv (o : Nat) : Nat := m1 (o % 7) + m1 (o / 7)
/-- the choice that takes it back -/
def ic (l : Nat) : Nat := if l = 0 then 0 else if l % 2 = 1 then l + 1 else l - 1
theorem lp_lt {l : Nat} (h : l < 7) : lp l < 3 := by unfold lp; omega
theorem rp_lt {r : Nat} (h : r < 9) : rp r < 7 := by unfold rp; omega
theorem rp_ge (r : Nat) : 3 ≤ rp r := by unfold rp; omega
theorem aL_lt {s l : Nat} (h : l < 7) (hs : s < 2187) : aL s l < 2187 := by
  unfold aL
  split
  · exact hs
  · exact turn_lt (by have := lp_lt h; omega) hs
theorem aR_lt {s r : Nat} (h : r < 9) (hs : s < 2187) : aR s r < 2187 := by
  unfold aR
  split
  · exact hs
  · exact turn_lt (rp_lt h) hs
theorem af_lt {s o : Nat} (h : o < 63) (hs : s < 2187) : af s o < 2187 := aR_lt (by omega) (aL_lt (by omega) hs)
theorem ic_lt7 {l : Nat} (h : l < 7) : ic l < 7 := by unfold ic; split <;> (try split) <;> omega
theorem ic_lt9 {l : Nat} (h : l < 9) : ic l < 9 := by unfold ic; split <;> (try split) <;> omega
theorem ic_0 {l : Nat} : ic l = 0 ↔ l = 0 := by unfold ic; split <;> (try split) <;> omega
theorem m1_ic (l : Nat) : m1 (ic l) = m1 l := by
  unfold m1
  by_cases h : l = 0
  · rw [if_pos h, if_pos (ic_0.mpr h)]
  · rw [if_neg h, if_neg (fun q => h (ic_0.mp q))]
theorem lp_ic {l : Nat} (h : l ≠ 0) : lp (ic l) = lp l := by unfold lp ic; rw [if_neg h]; split <;> omega
theorem rp_ic {l : Nat} (h : l ≠ 0) : rp (ic l) = rp l := by unfold rp ic; rw [if_neg h]; split <;> omega
theorem bk_ic {l : Nat} (h : l ≠ 0) : (bk l + bk (ic l)) % 3 = 0 := by unfold bk ic; rw [if_neg h]; split <;> omega
theorem aL_back {s l : Nat} (h : l < 7) (hs : s < 2187) : aL (aL s l) (ic l) = s := by
  by_cases h0 : l = 0
  · subst h0; rfl
  · unfold aL
    rw [if_neg h0, if_neg (fun q => h0 (ic_0.mp q)), lp_ic h0]
    exact turn_turn (by have := lp_lt h; omega) hs (bk_ic h0)
theorem aR_back {s r : Nat} (h : r < 9) (hs : s < 2187) : aR (aR s r) (ic r) = s := by
  by_cases h0 : r = 0
  · subst h0; rfl
  · unfold aR
    rw [if_neg h0, if_neg (fun q => h0 (ic_0.mp q)), rp_ic h0]
    exact turn_turn (rp_lt h) hs (bk_ic h0)
theorem aL_aR {s l r : Nat} (hl : l < 7) (hr : r < 9) (hs : s < 2187) : aR (aL s l) r = aL (aR s r) l := by
  unfold aL aR
  by_cases h0 : l = 0
  · rw [if_pos h0, if_pos h0]
  · by_cases h1 : r = 0
    · rw [if_pos h1, if_pos h1]
    · rw [if_neg h0, if_neg h0, if_neg h1, if_neg h1]
      exact turn_comm (by have := lp_lt hl; omega) (rp_lt hr) (by have := lp_lt hl; have := rp_ge r; omega) hs
theorem pos_aL_r {s l p : Nat} (hl : l < 7) (hp : 3 ≤ p) (hp7 : p < 7) (hs : s < 2187) : pos (aL s l) p = pos s p := by
  unfold aL
  split
  · rfl
  · exact pos_turn_ne (by have := lp_lt hl; omega) hp7 (by have := lp_lt hl; omega) hs
theorem pos_aR_l {s r p : Nat} (hr : r < 9) (hp : p < 3) (hs : s < 2187) : pos (aR s r) p = pos s p := by
  unfold aR
  split
  · rfl
  · exact pos_turn_ne (rp_lt hr) (by omega) (by have := rp_ge r; omega) hs
/-- may a pedal go from position a to position b -/
def okL (ok : Nat → Nat → Nat → Bool) (t l : Nat) : Bool := decide (l = 0) || ok (lp l) ((pos t (lp l) + bk l) % 3) (pos t (lp l))
def okR (ok : Nat → Nat → Nat → Bool) (t r : Nat) : Bool := decide (r = 0) || ok (rp r) ((pos t (rp r) + bk r) % 3) (pos t (rp r))
def okO (ok : Nat → Nat → Nat → Bool) (t o : Nat) : Bool := okL ok t (o % 7) && okR ok t (o / 7)
def sh (m : Nat) (G : Nat → Nat) (c : Nat) : Nat := if m ≤ c then G (c - m) else 0
/-- the sum over all that both feet can do, at most M pedals -/
def Zs (M : Nat) (ok : Nat → Nat → Nat → Bool) (G : Nat → Nat → Nat) (t c : Nat) : Nat := fb_sm (fun o => if mv o ≤ M ∧ okO ok t o = true then sh (mv o) (G (af t o)) c else 0) 63
/-- the sum as a row of pedals and positions makes it -/
def Pd (ok : Nat → Nat → Nat → Bool) (G : Nat → Nat → Nat) (t c p : Nat) : Nat := fb_sm (fun d => if d ≠ pos t p ∧ ok p d (pos t p) = true then sh 1 (G (setP t p d)) c else 0) 3
def Rg (a n : Nat) (ok : Nat → Nat → Nat → Bool) (G : Nat → Nat → Nat) (t c : Nat) : Nat := G t c + fb_sm (fun p => Pd ok G t c (a + p)) n
theorem sh_0 (G : Nat → Nat) (c : Nat) : sh 0 G c = G c := by unfold sh; rw [if_pos (Nat.zero_le _), Nat.sub_zero]
theorem sh_sh (a b : Nat) (G : Nat → Nat) (c : Nat) : sh a (sh b G) c = sh (a + b) G c := by
  unfold sh
  by_cases h : a ≤ c
  · rw [if_pos h]
    by_cases h2 : b ≤ c - a
    · rw [if_pos h2, if_pos (by omega), show c - a - b = c - (a + b) by omega]
    · rw [if_neg h2, if_neg (by omega)]
  · rw [if_neg h, if_neg (by omega)]
def tm (ok : Nat → Nat → Nat → Bool) (G : Nat → Nat → Nat) (t c p k : Nat) : Nat := if ok p ((pos t p + k) % 3) (pos t p) = true then sh 1 (G (turn t p k)) c else 0
theorem Pd_tm (ok : Nat → Nat → Nat → Bool) (G : Nat → Nat → Nat) (t c p : Nat) : Pd ok G t c p = tm ok G t c p 1 + tm ok G t c p 2 := by
  have h := pos_lt t p
  unfold Pd tm turn
  rcases (show pos t p = 0 ∨ pos t p = 1 ∨ pos t p = 2 by omega) with e | e | e <;> rw [e] <;> simp [fb_sm] <;> omega
theorem Rg_L (ok : Nat → Nat → Nat → Bool) (G : Nat → Nat → Nat) (t c : Nat) : Rg 0 3 ok G t c = fb_sm (fun l => if okL ok t l = true then sh (m1 l) (G (aL t l)) c else 0) 7 := by
  unfold Rg
  simp only [Pd_tm, fb_sm, okL, m1, aL, lp, bk, tm]
  simp [sh_0]
  omega
theorem Rg_R (ok : Nat → Nat → Nat → Bool) (G : Nat → Nat → Nat) (t c : Nat) : Rg 3 4 ok G t c = fb_sm (fun r => if okR ok t r = true then sh (m1 r) (G (aR t r)) c else 0) 9 := by
  unfold Rg
  simp only [Pd_tm, fb_sm, okR, m1, aR, rp, bk, tm]
  simp [sh_0]
  omega
theorem sm_block (f : Nat → Nat) (b : Nat) : ∀ n, fb_sm f (b * n) = fb_sm (fun r => fb_sm (fun l => f (b * r + l)) b) n
  | 0 => rfl
  | n + 1 => by rw [Nat.mul_succ, fb_sm_split, fb_sm_succ, sm_block f b n]
theorem sm_comm (f : Nat → Nat → Nat) (n : Nat) : ∀ m, fb_sm (fun i => fb_sm (fun j => f i j) n) m = fb_sm (fun j => fb_sm (fun i => f i j) m) n
  | 0 => by
    show 0 = fb_sm (fun _ => 0) n
    rw [fb_sm_const]
    simp
  | m + 1 => by
    rw [fb_sm_succ, sm_comm f n m, ← fb_sm_add]
    rfl
theorem sm_if (c : Prop) [Decidable c] (f : Nat → Nat) (n : Nat) : fb_sm (fun k => if c then f k else 0) n = if c then fb_sm f n else 0 := by
  by_cases h : c
  · rw [if_pos h]; exact fb_sm_cong (fun k _ => if_pos h)
  · rw [if_neg h, fb_sm_cong (g := fun _ => 0) (fun k _ => if_neg h), fb_sm_const]; simp
theorem sm_delta (f : Nat → Nat) (a : Nat) : ∀ n, fb_sm (fun s => if s = a then f s else 0) n = if a < n then f a else 0
  | 0 => rfl
  | n + 1 => by
    rw [fb_sm_succ, sm_delta f a n]
    by_cases h : a < n
    · have h2 : n ≠ a := by omega
      simp [h, h2, show a < n + 1 by omega]
    · by_cases h2 : n = a
      · subst h2
        simp
      · simp [h, h2, show ¬ a < n + 1 by omega]
