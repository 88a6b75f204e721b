/-! how many bits -/
theorem us_nI {a k : Nat} {y : UInt32} (hy : y.toNat % 32 = k) (h : a < 2 ^ 31) : ((nI a).toUInt32 >>> y).toInt32 = nI (a / 2 ^ k) := by
  apply Int32.toBitVec_inj.mp
  apply BitVec.eq_of_toNat_eq
  subst hy
  have h1 : a / 2 ^ (y.toNat % 32) ≤ a := Nat.div_le_self _ _
  have h2 : (nI a).toBitVec.toNat = a := by
    show (BitVec.ofNat 32 a).toNat = a
    rw [BitVec.toNat_ofNat]
    exact Nat.mod_eq_of_lt (by omega)
  have h3 : (nI (a / 2 ^ (y.toNat % 32))).toBitVec.toNat = a / 2 ^ (y.toNat % 32) := by
    show (BitVec.ofNat 32 _).toNat = _
    rw [BitVec.toNat_ofNat]
    exact Nat.mod_eq_of_lt (by omega)
  rw [h3]
  show ((nI a).toUInt32 >>> y).toNat = _
  rw [UInt32.toNat_shiftRight]
  show (nI a).toBitVec.toNat >>> (y.toNat % 32) = _
  rw [h2, Nat.shiftRight_eq_div_pow]
def pcn (t : Nat) : Nat → Nat
  | 0 => 0
  | j + 1 => pcn t j + t / 2 ^ j % 2
def swA (a : Nat) : Nat := a - ((a / 2 ^ 1) &&& 1431655765)
def swB (a : Nat) : Nat := (a &&& 858993459) + ((a / 2 ^ 2) &&& 858993459)
def swC (a : Nat) : Nat := (a + a / 2 ^ 4) &&& 252645135
def swD (a : Nat) : Nat := a + a / 2 ^ 8
def swE (a : Nat) : Nat := a + a / 2 ^ 16
def swOk (a : Nat) : Bool := decide (((a / 2 ^ 1) &&& 1431655765) ≤ a) && (decide (swB (swA a) < 65536) && (decide (swC (swB (swA a)) < 65536) && (decide (swE (swD (swC (swB (swA a)))) < 65536) && decide ((swE (swD (swC (swB (swA a)))) &&& 63) = pcn a 12))))
theorem sw_all : ∀ h, h < 64 → ∀ l, l < 64 → swOk (64 * h + l) = true := by decide +kernel
theorem sw_ok {a : Nat} (h : a < 4096) : swOk a = true := by
  have := sw_all (a / 64) (by omega) (a % 64) (by omega)
  rw [show 64 * (a / 64) + a % 64 = a by omega] at this
  exact this
theorem s_bits {t : Nat} {I : Nat → Int32} {F : Nat → Nat → Int32} {post : Int32 → Prop} (ht : t < 4096) (h : post (nI (pcn t 12))) : w_J6_bitCount_0f7a4 (nI t) I F post := by
  have hk := sw_ok ht
  unfold swOk at hk
  simp only [Bool.and_eq_true, decide_eq_true_eq] at hk
  obtain ⟨k1, k2, k3, k4, k5⟩ := hk
  unfold w_J6_bitCount_0f7a4
  intro v1 e1 v2 e2 v3 e3 v4 e4 v5 e5
  have a1 : swA t ≤ t := Nat.sub_le _ _
  rw [us_nI (k := 1) (by decide) (by omega), show (1431655765 : Int32) = nI 1431655765 by decide, fa_and, pk_sub k1] at e1
  have f1 : v1 = nI (swA t) := e1
  subst f1
  rw [us_nI (k := 2) (by decide) (by omega), show (858993459 : Int32) = nI 858993459 by decide, fa_and, fa_and, nI_add] at e2
  have f2 : v2 = nI (swB (swA t)) := e2
  subst f2
  rw [us_nI (k := 4) (by decide) (by omega), show (252645135 : Int32) = nI 252645135 by decide, nI_add, fa_and] at e3
  have f3 : v3 = nI (swC (swB (swA t))) := e3
  subst f3
  rw [us_nI (k := 8) (by decide) (by omega), nI_add] at e4
  have f4 : v4 = nI (swD (swC (swB (swA t)))) := e4
  subst f4
  have hd : swD (swC (swB (swA t))) ≤ swE (swD (swC (swB (swA t)))) := Nat.le_add_right _ _
  rw [us_nI (k := 16) (by decide) (by omega), nI_add] at e5
  have f5 : v5 = nI (swE (swD (swC (swB (swA t))))) := e5
  subst f5
  rw [show (63 : Int32) = nI 63 by decide, fa_and, k5]
  exact h
theorem m_ones {t : Nat} {I : Nat → Int32} {F : Nat → Nat → Int32} {hs : Int64} {post : Int32 → Prop} (ht : t < 4096) (h : post (nI (pcn t 12))) : w_X9_ones (nI t) I F hs post := by
  unfold w_X9_ones
  refine gL_inv (fun j v => v.2 = nI j ∧ v.1 = nI (pcn t j)) 12 ?_ ?_ ⟨rfl, rfl⟩
  · rintro j hj ⟨x1, x2⟩ ⟨g2, g1⟩ again hag
    dsimp only at g1 g2 ⊢
    subst g1
    subst g2
    unfold w_X9_ones_B4
    refine ⟨fun q => absurd ((nI_leI (a := 12) (by omega) (by omega)).mp q) (by omega), fun _ v2 e2 => hag _ ⟨nI_1 j, ?_⟩⟩
    show v2 = nI (pcn t j + t / 2 ^ j % 2)
    have e4 : ∀ j, j < 12 → ((nI j &&& 31).toBitVec.smod 32).toNat = j := by decide
    have e5 : t / 2 ^ j ≤ t := Nat.div_le_self _ _
    rw [e2, pk_shrN (k := j) (by omega) _ (e4 j hj), pk_andN (k := 1) (by omega) (by decide), nI_add]
  · rintro ⟨x1, x2⟩ ⟨g2, g1⟩ again
    dsimp only at g1 g2 ⊢
    subst g1
    subst g2
    unfold w_X9_ones_B4
    exact ⟨fun _ => h, fun q => absurd (by decide) q⟩
/-! joint: put -/
def inR (A : Nat → Int32) (a : Nat) (v : Int32) (x : Nat) : Int32 := if x < a then A x else if x = a then v else A (x - 1)
theorem dec_nI {m : Nat} (h : 0 < m) : nI m + (-1 : Int32) = nI (m - 1) := by
  obtain ⟨c, rfl⟩ : ∃ c, m = c + 1 := ⟨m - 1, by omega⟩
  rw [Nat.add_sub_cancel, ← nI_1 c]
  grind
theorem s_insert {n k : Nat} {v w : Int32} {I : Nat → Int32} {F : Nat → Nat → Int32} {kk : Int32 → (Nat → Int32) → (Nat → Nat → Int32) → Prop} (hn : n < 8) (hk : k ≤ n)
    (hp : ∀ y F2, (∀ r, r ≠ 17 → r ≠ 18 → F2 r = F r) → (∀ x, x ≤ n → F2 17 x = (if k < x then F 17 (x - 1) else F 17 x) ∧ F2 18 x = (if k < x then F 18 (x - 1) else F 18 x)) → kk y I F2) : gL (fun ag z => w_X2_insert_4_B29 (nI k) v w kk (fun b0 b1 b2 => ag (b0, b1, b2)) z.1 z.2.1 z.2.2) (nI n, I, F) := by
  refine gL_inv (fun j z => z.1 = nI (n - j) ∧ z.2.1 = I ∧ (∀ r, r ≠ 17 → r ≠ 18 → z.2.2 r = F r) ∧ (∀ x, x ≤ n → z.2.2 17 x = (if n - j < x then F 17 (x - 1) else F 17 x) ∧ z.2.2 18 x = (if n - j < x then F 18 (x - 1) else F 18 x))) (n - k) ?_ ?_ ⟨rfl, rfl, fun _ _ _ => rfl, fun x hx => ?_⟩
  · rintro j hj ⟨x1, J, L⟩ ⟨g1, g2, g3, g4⟩ again hag
    dsimp only at g1 g2 g3 g4 ⊢
    subst g1
    subst g2
    unfold w_X2_insert_4_B29
    have sb : nI (n - j) - (1 : Int32) = nI (n - (j + 1)) := by
      rw [show (1 : Int32) = nI 1 by decide, pk_sub (by omega)]
      exact congrArg nI (by omega)
    rw [sb]
    have hv : vp_in (nI (n - j)) 8 := vp_in_nI (by omega) (by decide)
    have hv1 : vp_in (nI (n - (j + 1))) 8 := vp_in_nI (by omega) (by decide)
    refine ⟨fun q => absurd ((nI_leI (a := n - j) (b := k) (by omega) (by omega)).mp q) (by omega), fun _ => ⟨hv1, hv, fun F2 e2 => ⟨hv1, hv, fun F3 e3 => hag _ ⟨?_, rfl, ?_⟩⟩⟩⟩
    · show nI (n - j) + (-1 : Int32) = _
      rw [dec_nI (by omega)]
      exact congrArg nI (by omega)
    rw [nI_clamp (by omega)] at e2 e3
    rw [nI_clamp (by omega)] at e2 e3
    have f17 : F3 17 = upd (L 17) (n - j) (L 17 (n - (j + 1))) := by rw [e3, upF_n _ _ (by decide), e2, upF_s]
    have f18 : F3 18 = upd (L 18) (n - j) (L 18 (n - (j + 1))) := by rw [e3, upF_s, e2, upF_n _ _ (by decide)]
    refine ⟨fun r h1 h2 => ?_, fun x hx => ?_⟩
    · show F3 r = F r
      rw [e3, upF_n _ _ h2, e2, upF_n _ _ h1]
      exact g3 r h1 h2
    · show F3 17 x = _ ∧ F3 18 x = _
      rw [f17, f18]
      by_cases e : x = n - j
      · subst e
        have n1 : n - (j + 1) < n - j := by omega
        have n2 : ¬ n - j < n - (j + 1) := by omega
        have := g4 (n - (j + 1)) (by omega)
        rw [if_neg n2, if_neg n2] at this
        rw [pk_us, pk_us, if_pos n1, if_pos n1, show n - j - 1 = n - (j + 1) by omega]
        exact this
      · rw [pk_un e, pk_un e]
        have := g4 x hx
        by_cases e2 : n - j < x
        · have n1 : n - (j + 1) < x := by omega
          rw [if_pos e2, if_pos e2] at this
          rw [if_pos n1, if_pos n1]
          exact this
        · have n1 : ¬ n - (j + 1) < x := by omega
          rw [if_neg e2, if_neg e2] at this
          rw [if_neg n1, if_neg n1]
          exact this
  · rintro ⟨x1, J, L⟩ ⟨g1, g2, g3, g4⟩ again
    dsimp only at g1 g2 g3 g4 ⊢
    subst g1
    subst g2
    rw [show n - (n - k) = k by omega] at g4 ⊢
    unfold w_X2_insert_4_B29
    exact ⟨fun _ => hp _ L g3 g4, fun q => absurd (Int32.le_refl _) q⟩
  · show F 17 x = _ ∧ F 18 x = _
    have n1 : ¬ n - 0 < x := by omega
    rw [if_neg n1, if_neg n1]
    exact ⟨rfl, rfl⟩
theorem m_insert {n k : Nat} {v w : Int32} {I : Nat → Int32} {F : Nat → Nat → Int32} {hs : Int64} {kk : Int32 → (Nat → Int32) → (Nat → Nat → Int32) → Int64 → Prop} (hn : n < 8) (hk : k ≤ n)
    (hp : ∀ y F2, (∀ r, r ≠ 14 → r ≠ 15 → F2 r = F r) → (∀ x, x ≤ n → F2 14 x = (if k < x then F 14 (x - 1) else F 14 x) ∧ F2 15 x = (if k < x then F 15 (x - 1) else F 15 x)) → kk y I F2 hs) : gL (fun ag z => w_X9_put_B80 (nI k) v w kk (fun b0 b1 b2 b3 => ag (b0, b1, b2, b3)) z.1 z.2.1 z.2.2.1 z.2.2.2) (nI n, I, F, hs) := by
  refine gL_inv (fun j z => z.1 = nI (n - j) ∧ z.2.1 = I ∧ z.2.2.2 = hs ∧ (∀ r, r ≠ 14 → r ≠ 15 → z.2.2.1 r = F r) ∧ (∀ x, x ≤ n → z.2.2.1 14 x = (if n - j < x then F 14 (x - 1) else F 14 x) ∧ z.2.2.1 15 x = (if n - j < x then F 15 (x - 1) else F 15 x))) (n - k) ?_ ?_ ⟨rfl, rfl, rfl, fun _ _ _ => rfl, fun x hx => ?_⟩
  · rintro j hj ⟨x1, J, L, hz⟩ ⟨g1, g2, gz, g3, g4⟩ again hag
    dsimp only at g1 g2 gz g3 g4 ⊢
    subst g1
    subst g2
    subst gz
    unfold w_X9_put_B80
    have sb : nI (n - j) - (1 : Int32) = nI (n - (j + 1)) := by
      rw [show (1 : Int32) = nI 1 by decide, pk_sub (by omega)]
      exact congrArg nI (by omega)
    rw [sb]
    have hv : vp_in (nI (n - j)) 8 := vp_in_nI (by omega) (by decide)
    have hv1 : vp_in (nI (n - (j + 1))) 8 := vp_in_nI (by omega) (by decide)
    refine ⟨fun q => absurd ((nI_leI (a := n - j) (b := k) (by omega) (by omega)).mp q) (by omega), fun _ => ⟨hv1, hv, fun F2 e2 => ⟨hv1, hv, fun F3 e3 => hag _ ⟨?_, rfl, rfl, ?_⟩⟩⟩⟩
    · show nI (n - j) + (-1 : Int32) = _
      rw [dec_nI (by omega)]
      exact congrArg nI (by omega)
    rw [nI_clamp (by omega)] at e2 e3
    rw [nI_clamp (by omega)] at e2 e3
    have f14 : F3 14 = upd (L 14) (n - j) (L 14 (n - (j + 1))) := by rw [e3, upF_n _ _ (by decide), e2, upF_s]
    have f15 : F3 15 = upd (L 15) (n - j) (L 15 (n - (j + 1))) := by rw [e3, upF_s, e2, upF_n _ _ (by decide)]
    refine ⟨fun r h1 h2 => ?_, fun x hx => ?_⟩
    · show F3 r = F r
      rw [e3, upF_n _ _ h2, e2, upF_n _ _ h1]
      exact g3 r h1 h2
    · show F3 14 x = _ ∧ F3 15 x = _
      rw [f14, f15]
      by_cases e : x = n - j
      · subst e
        have n1 : n - (j + 1) < n - j := by omega
        have n2 : ¬ n - j < n - (j + 1) := by omega
        have := g4 (n - (j + 1)) (by omega)
        rw [if_neg n2, if_neg n2] at this
        rw [pk_us, pk_us, if_pos n1, if_pos n1, show n - j - 1 = n - (j + 1) by omega]
        exact this
      · rw [pk_un e, pk_un e]
        have := g4 x hx
        by_cases e2 : n - j < x
        · have n1 : n - (j + 1) < x := by omega
          rw [if_pos e2, if_pos e2] at this
          rw [if_pos n1, if_pos n1]
          exact this
        · have n1 : ¬ n - (j + 1) < x := by omega
          rw [if_neg e2, if_neg e2] at this
          rw [if_neg n1, if_neg n1]
          exact this
  · rintro ⟨x1, J, L, hz⟩ ⟨g1, g2, gz, g3, g4⟩ again
    dsimp only at g1 g2 gz g3 g4 ⊢
    subst g1
    subst g2
    subst gz
    rw [show n - (n - k) = k by omega] at g4 ⊢
    unfold w_X9_put_B80
    exact ⟨fun _ => hp _ L g3 g4, fun q => absurd (Int32.le_refl _) q⟩
  · show F 14 x = _ ∧ F 15 x = _
    have n1 : ¬ n - 0 < x := by omega
    rw [if_neg n1, if_neg n1]
    exact ⟨rfl, rfl⟩
