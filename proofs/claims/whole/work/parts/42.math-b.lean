/-! the sums of both feet, as the class makes them and as the reference does -/
theorem okR_aL {ok : Nat → Nat → Nat → Bool} {t l r : Nat} (hl : l < 7) (hr : r < 9) (ht : t < 2187) : okR ok (aL t l) r = okR ok t r := by
  unfold okR
  by_cases h : r = 0
  · simp [h]
  · rw [pos_aL_r hl (rp_ge r) (rp_lt hr) ht]
theorem Z_sum (M : Nat) (ok : Nat → Nat → Nat → Bool) (G : Nat → Nat → Nat) (t c : Nat) : Zs M ok G t c = fb_sm (fun l => fb_sm (fun r => if m1 l + m1 r ≤ M ∧ (okL ok t l && okR ok t r) = true then sh (m1 l + m1 r) (G (aR (aL t l) r)) c else 0) 9) 7 := by
  rw [← sm_comm]
  show fb_sm _ (7 * 9) = _
  rw [sm_block]
  refine fb_sm_cong (fun r hr => fb_sm_cong (fun l hl => ?_))
  have e1 : (7 * r + l) % 7 = l := by omega
  have e2 : (7 * r + l) / 7 = r := by omega
  simp only [mv, okO, af, e1, e2]
theorem Z_2 (ok : Nat → Nat → Nat → Bool) (G : Nat → Nat → Nat) {t : Nat} (ht : t < 2187) (c : Nat) : Zs 2 ok G t c = Rg 0 3 ok (Rg 3 4 ok G) t c := by
  rw [Z_sum, Rg_L]
  refine fb_sm_cong (fun l hl => ?_)
  by_cases h : okL ok t l = true
  · rw [if_pos h]
    unfold sh
    by_cases h2 : m1 l ≤ c
    · rw [if_pos h2, Rg_R]
      refine fb_sm_cong (fun r hr => ?_)
      rw [okR_aL hl hr ht]
      have e : m1 l + m1 r ≤ 2 := by unfold m1; split <;> split <;> omega
      by_cases h3 : okR ok t r = true
      · rw [if_pos ⟨e, by rw [h, h3]; rfl⟩, if_pos h3]
        unfold sh
        by_cases h4 : m1 r ≤ c - m1 l
        · rw [if_pos (by omega), if_pos h4, show c - (m1 l + m1 r) = c - m1 l - m1 r by omega]
        · rw [if_neg (by omega), if_neg h4]
      · rw [if_neg (by rintro ⟨-, q⟩; rw [h, Bool.true_and] at q; exact h3 q), if_neg h3]
    · rw [if_neg h2, fb_sm_cong (g := fun _ => 0) (fun r _ => ?_), fb_sm_const]
      split
      · rw [if_neg (by omega)]
      · rfl
  · rw [if_neg h, fb_sm_cong (g := fun _ => 0) (fun r _ => if_neg (by rintro ⟨-, q⟩; rw [Bool.and_eq_true] at q; exact h q.1)), fb_sm_const]
theorem Z_1 (ok : Nat → Nat → Nat → Bool) (G : Nat → Nat → Nat) {t : Nat} (ht : t < 2187) (c : Nat) : Zs 1 ok G t c = Rg 0 7 ok G t c := by
  have h7 : Rg 0 7 ok G t c + G t c = Rg 0 3 ok G t c + Rg 3 4 ok G t c := by
    unfold Rg
    simp only [fb_sm]
    simp
    omega
  have hX : Zs 1 ok G t c + G t c = Rg 0 3 ok G t c + Rg 3 4 ok G t c := by
    rw [Z_sum, Rg_L, Rg_R]
    have hl : ∀ l, l < 7 → fb_sm (fun r => if m1 l + m1 r ≤ 1 ∧ (okL ok t l && okR ok t r) = true then sh (m1 l + m1 r) (G (aR (aL t l) r)) c else 0) 9 = if l = 0 then fb_sm (fun r => if okR ok t r = true then sh (m1 r) (G (aR t r)) c else 0) 9 else if okL ok t l = true then sh (m1 l) (G (aL t l)) c else 0 := by
      intro l hl
      by_cases h0 : l = 0
      · subst h0
        rw [if_pos rfl]
        refine fb_sm_cong (fun r hr => ?_)
        have e0 : m1 0 = 0 := rfl
        have e1 : m1 r ≤ 1 := by unfold m1; split <;> omega
        have e2 : okL ok t 0 = true := rfl
        have e3 : aL t 0 = t := rfl
        rw [e0, e2, e3, Nat.zero_add, Bool.true_and]
        by_cases h3 : okR ok t r = true
        · rw [if_pos ⟨e1, h3⟩, if_pos h3]
        · rw [if_neg (fun q => h3 q.2), if_neg h3]
      · rw [if_neg h0]
        have e0 : m1 l = 1 := if_neg h0
        rw [e0, fb_sm_cong (g := fun r => if r = 0 then (if okL ok t l = true then sh 1 (G (aL t l)) c else 0) else 0), sm_delta (fun _ => if okL ok t l = true then sh 1 (G (aL t l)) c else 0), if_pos (by decide)]
        intro r hr
        by_cases hr0 : r = 0
        · subst hr0
          rw [if_pos rfl]
          have e1 : okR ok t 0 = true := rfl
          have e2 : aR (aL t l) 0 = aL t l := rfl
          have e3 : m1 0 = 0 := rfl
          rw [e1, e2, e3, Bool.and_true, Nat.add_zero]
          by_cases h3 : okL ok t l = true
          · rw [if_pos ⟨Nat.le_refl _, h3⟩, if_pos h3]
          · rw [if_neg (fun q => h3 q.2), if_neg h3]
        · rw [if_neg hr0, if_neg]
          rintro ⟨q, -⟩
          have : m1 r = 1 := if_neg hr0
          omega
    rw [fb_sm_cong hl]
    simp only [fb_sm]
    have e0 : okL ok t 0 = true := rfl
    have e1 : aL t 0 = t := rfl
    have e2 : m1 0 = 0 := rfl
    have e3 : okR ok t 0 = true := rfl
    have e4 : aR t 0 = t := rfl
    rw [e0, e1, e2, e3, e4, sh_0]
    simp
    omega
  omega
theorem Z_0 (ok : Nat → Nat → Nat → Bool) (G : Nat → Nat → Nat) (t c : Nat) : Zs 0 ok G t c = G t c := by
  unfold Zs
  rw [fb_sm_cong (g := fun o => if o = 0 then G t c else 0), sm_delta (fun _ => G t c), if_pos (by decide)]
  intro o ho
  by_cases h : o = 0
  · subst h
    rw [if_pos rfl, if_pos ⟨Nat.le_refl _, rfl⟩]
    exact sh_0 _ _
  · rw [if_neg h, if_neg]
    rintro ⟨q, -⟩
    unfold mv m1 at q
    split at q <;> split at q <;> omega
def io (o : Nat) : Nat := 7 * ic (o / 7) + ic (o % 7)
theorem io_lt {o : Nat} (h : o < 63) : io o < 63 := by
  have h1 := ic_lt7 (l := o % 7) (by omega)
  have h2 := ic_lt9 (l := o / 7) (by omega)
  unfold io
  omega
theorem io_l {o : Nat} (h : o < 63) : io o % 7 = ic (o % 7) := by
  have h1 := ic_lt7 (l := o % 7) (by omega)
  unfold io
  omega
theorem io_r {o : Nat} (h : o < 63) : io o / 7 = ic (o / 7) := by
  have h1 := ic_lt7 (l := o % 7) (by omega)
  unfold io
  omega
theorem mv_io {o : Nat} (h : o < 63) : mv (io o) = mv o := by
  unfold mv
  rw [io_l h, io_r h, m1_ic, m1_ic]
theorem af_back {s o : Nat} (h : o < 63) (hs : s < 2187) : af (af s o) (io o) = s := by
  unfold af
  rw [io_l h, io_r h]
  have hl : o % 7 < 7 := by omega
  have hr : o / 7 < 9 := by omega
  rw [aL_aR hl hr hs, aL_back hl (aR_lt hr hs), aR_back hr hs]
theorem af_io {s t o : Nat} (h : o < 63) (hs : s < 2187) (ht : t < 2187) : af s o = t ↔ s = af t (io o) := by
  constructor
  · rintro rfl
    exact (af_back h hs).symm
  · rintro rfl
    unfold af
    rw [io_l h, io_r h]
    have hl : o % 7 < 7 := by omega
    have hr : o / 7 < 9 := by omega
    have hl2 := ic_lt7 hl
    have hr2 := ic_lt9 hr
    have e : ∀ l, ic (ic l) = l := fun l => by
      by_cases h0 : l = 0
      · subst h0; rfl
      · by_cases h1 : l % 2 = 1
        · have h2 : ic l = l + 1 := by unfold ic; rw [if_neg h0, if_pos h1]
          rw [h2]
          unfold ic
          rw [if_neg (by omega), if_neg (by omega)]
          omega
        · have h2 : ic l = l - 1 := by unfold ic; rw [if_neg h0, if_neg h1]
          rw [h2]
          unfold ic
          rw [if_neg (by omega), if_pos (by omega)]
          omega
    rw [aL_aR hl2 hr2 ht]
    have h1 := aL_back hl2 (aR_lt hr2 ht)
    rw [e] at h1
    rw [h1]
    have h2 := aR_back hr2 ht
    rw [e] at h2
    exact h2
/-- none of the pedals of a choice is held where it stands -/
def canS (hb : Nat → Nat → Bool) (s o : Nat) : Bool := (decide (o % 7 = 0) || !hb (lp (o % 7)) (pos s (lp (o % 7)))) && (decide (o / 7 = 0) || !hb (rp (o / 7)) (pos s (rp (o / 7))))
theorem can_back (hb : Nat → Nat → Bool) (s o : Nat) : okO (fun p _ b => !hb p b) s o = canS hb s o := rfl
theorem can_ahead (hb : Nat → Nat → Bool) {t o : Nat} (h : o < 63) (ht : t < 2187) : okO (fun p a _ => !hb p a) t (io o) = canS hb (af t (io o)) o := by
  have hl : o % 7 < 7 := by omega
  have hr : o / 7 < 9 := by omega
  have hl2 := ic_lt7 hl
  have hr2 := ic_lt9 hr
  unfold okO okL okR canS af
  rw [io_l h, io_r h]
  congr 1
  · by_cases h0 : o % 7 = 0
    · have h1 := ic_0.mpr h0
      rw [show decide (ic (o % 7) = 0) = true from decide_eq_true h1, show decide (o % 7 = 0) = true from decide_eq_true h0, Bool.true_or, Bool.true_or]
    · have h1 : ic (o % 7) ≠ 0 := fun q => h0 (ic_0.mp q)
      rw [lp_ic h0, pos_aR_l hr2 (lp_lt hl) (aL_lt hl2 ht)]
      unfold aL
      rw [if_neg h1, lp_ic h0, pos_turn (by have := lp_lt hl; omega) ht]
      simp [h0, h1]
  · by_cases h0 : o / 7 = 0
    · have h1 := ic_0.mpr h0
      rw [show decide (ic (o / 7) = 0) = true from decide_eq_true h1, show decide (o / 7 = 0) = true from decide_eq_true h0, Bool.true_or, Bool.true_or]
    · have h1 : ic (o / 7) ≠ 0 := fun q => h0 (ic_0.mp q)
      rw [rp_ic h0]
      have e : pos (aR (aL t (ic (o % 7))) (ic (o / 7))) (rp (o / 7)) = (pos t (rp (o / 7)) + bk (ic (o / 7))) % 3 := by
        unfold aR
        rw [if_neg h1, rp_ic h0, pos_turn (rp_lt hr) (aL_lt hl2 ht), pos_aL_r hl2 (rp_ge _) (rp_lt hr) ht]
      rw [e]
      simp [h0, h1]
theorem sm_ic7 (f : Nat → Nat) : fb_sm (fun l => f (ic l)) 7 = fb_sm f 7 := by
  simp only [fb_sm, ic]
  simp
  omega
theorem sm_ic9 (f : Nat → Nat) : fb_sm (fun l => f (ic l)) 9 = fb_sm f 9 := by
  simp only [fb_sm, ic]
  simp
  omega
theorem sm_io (f : Nat → Nat) : fb_sm (fun o => f (io o)) 63 = fb_sm f 63 := by
  show fb_sm _ (7 * 9) = fb_sm _ (7 * 9)
  rw [sm_block, sm_block, ← sm_ic9 (fun r => fb_sm (fun l => f (7 * r + l)) 7)]
  refine fb_sm_cong (fun r hr => ?_)
  show _ = fb_sm (fun l => f (7 * ic r + l)) 7
  rw [← sm_ic7 (fun l => f (7 * ic r + l))]
  refine fb_sm_cong (fun l hl => ?_)
  have e1 : (7 * r + l) % 7 = l := by omega
  have e2 : (7 * r + l) / 7 = r := by omega
  show f (io (7 * r + l)) = _
  unfold io
  rw [e1, e2]
/-- what the reference pushes from every setting by every choice is what the class gathers -/
theorem push_Z (M : Nat) (hb : Nat → Nat → Bool) (G : Nat → Nat → Nat) {t : Nat} (ht : t < 2187) (c : Nat) : fb_sm (fun s => fb_sm (fun o => if (mv o ≤ M ∧ canS hb s o = true) ∧ af s o = t then sh (mv o) (G s) c else 0) 63) 2187 = Zs M (fun p a _ => !hb p a) G t c := by
  rw [sm_comm]
  unfold Zs
  rw [← sm_io (fun o => if mv o ≤ M ∧ okO (fun p a _ => !hb p a) t o = true then sh (mv o) (G (af t o)) c else 0)]
  refine fb_sm_cong (fun o ho => ?_)
  rw [mv_io ho, can_ahead hb ho ht]
  rw [fb_sm_cong (g := fun s => if s = af t (io o) then (if mv o ≤ M ∧ canS hb s o = true then sh (mv o) (G s) c else 0) else 0)]
  · rw [sm_delta (fun s => if mv o ≤ M ∧ canS hb s o = true then sh (mv o) (G s) c else 0), if_pos (af_lt (io_lt ho) ht)]
  · intro s hs
    by_cases h : s = af t (io o)
    · have h2 := (af_io ho hs ht).mpr h
      rw [if_pos h]
      by_cases h3 : mv o ≤ M ∧ canS hb s o = true
      · rw [if_pos ⟨h3, h2⟩, if_pos h3]
      · rw [if_neg (fun q => h3 q.1), if_neg h3]
    · rw [if_neg h, if_neg (fun q => h ((af_io ho hs ht).mp q.2))]
