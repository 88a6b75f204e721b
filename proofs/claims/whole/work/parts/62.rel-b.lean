/-! the relation of the two sides -/
def PR (n : Nat) (Kc Tc Km Tm : Nat → Int32) : Prop := ∀ k, k < n → (Kc k = Km k ∧ Tc k = Tm k) ∧ ∃ t, t < 4096 ∧ Tc k = nI t
def SR (w : Nat) (A B C : Nat → Int32) : Prop := ∀ j, j < w → A j = C (3 * j) ∧ ∃ q, q < 4 ∧ C (3 * j + 1) = nI q ∧ ((C (3 * j + 2) = 1 ∧ B j = tabK q) ∨ (C (3 * j + 2) = 0 ∧ B j = (31 : Int32) - tabK q))
def RPart (n b : Nat) (Ic : Nat → Int32) (Fc : Nat → Nat → Int32) (Im : Nat → Int32) (Fm : Nat → Nat → Int32) : Prop := Ic 8 = nI n ∧ Im 3 = nI n ∧ Ic 7 = nI b ∧ Im 4 = nI b ∧ PR n (Fc 17) (Fc 18) (Fm 14) (Fm 15)
def RPage (g : Nat) (Ic : Nat → Int32) (Fc : Nat → Nat → Int32) (Im : Nat → Int32) (Fm : Nat → Nat → Int32) : Prop := Ic 2 = nI g ∧ Im 0 = nI g ∧ ∀ k, k < g → Fc 14 k = Fm 11 k ∧ ∃ c, 1 ≤ c ∧ c ≤ 126 ∧ Fc 14 k = nI c
def RSeen (w : Nat) (Ic : Nat → Int32) (Fc : Nat → Nat → Int32) (Im : Nat → Int32) (Fm : Nat → Nat → Int32) : Prop := Ic 11 = nI w ∧ Im 11 = nI w ∧ SR w (Fc 21) (Fc 22) (Fm 22)
def RKept (p : Nat) (Ic : Nat → Int32) (Fc : Nat → Nat → Int32) (Im : Nat → Int32) (Fm : Nat → Nat → Int32) : Prop := (Im 14 = (-1 : Int32) ∨ ∃ e, e ≤ p ∧ Im 14 = nI e) ∧ ((Ic 10 = 0 ∧ ¬ Im 14 = Im 5) ∨ (Im 14 = Im 5 ∧ ∃ n b w, 0 < n ∧ n ≤ 8 ∧ b < 2187 ∧ w ≤ 6 ∧ Ic 10 = nI n ∧ Im 15 = nI n ∧ Ic 9 = nI b ∧ Im 16 = nI b ∧ Ic 12 = nI w ∧ Im 17 = nI w ∧ PR n (Fc 19) (Fc 20) (Fm 23) (Fm 24) ∧ SR w (Fc 23) (Fc 24) (Fm 25)))
def RTab (Fc Fm : Nat → Nat → Int32) : Prop := (∀ s, s < 2187 → Fc 25 s = hasR s 7) ∧ mTab Fm
def RCac (n b : Nat) (Ic : Nat → Int32) (Fc : Nat → Nat → Int32) (Im : Nat → Int32) (Fm : Nat → Nat → Int32) : Prop := cacheF n b Ic Fc ∧ cacheB n b Ic Fc ∧ (0 < n → cacheM n b Im Fm)
def RCnt (p s : Nat) (Ic Im : Nat → Int32) : Prop := Ic 0 = nI p ∧ Im 5 = nI p ∧ Ic 1 = nI s ∧ Im 10 = nI s
def RB (i n b g w p s : Nat) (Ic : Nat → Int32) (Fc : Nat → Nat → Int32) (Im : Nat → Int32) (Fm : Nat → Nat → Int32) : Prop := n ≤ 8 ∧ b < 2187 ∧ g ≤ 56 ∧ w ≤ 6 ∧ p ≤ i ∧ s ≤ 5 ∧ RPart n b Ic Fc Im Fm ∧ RPage g Ic Fc Im Fm ∧ RSeen w Ic Fc Im Fm ∧ RCnt p s Ic Im ∧ RKept p Ic Fc Im Fm ∧ RTab Fc Fm
def RR (i : Nat) (Ic : Nat → Int32) (Fc : Nat → Nat → Int32) (Im : Nat → Int32) (Fm : Nat → Nat → Int32) : Prop := ∃ n b g w p s, RB i n b g w p s Ic Fc Im Fm ∧ RCac n b Ic Fc Im Fm
def sI (s : List Nat) (I I2 : Nat → Int32) : Prop := ∀ j, j ∈ s → I2 j = I j
def sF (s : List Nat) (F F2 : Nat → Nat → Int32) : Prop := ∀ j, j ∈ s → F2 j = F j
theorem RB_keep {i n b g w p s : Nat} {Ic Ic2 : Nat → Int32} {Fc Fc2 : Nat → Nat → Int32} {Im Im2 : Nat → Int32} {Fm Fm2 : Nat → Nat → Int32} (h : RB i n b g w p s Ic Fc Im Fm) (h1 : sI [0, 1, 2, 7, 8, 9, 10, 11, 12] Ic Ic2) (h2 : sF [14, 17, 18, 19, 20, 21, 22, 23, 24, 25] Fc Fc2) (h3 : sI [0, 3, 4, 5, 10, 11, 14, 15, 16, 17] Im Im2) (h4 : sF [1, 2, 3, 8, 9, 10, 11, 14, 15, 22, 23, 24, 25] Fm Fm2) : RB i n b g w p s Ic2 Fc2 Im2 Fm2 := by
  unfold RB RPart RPage RSeen RCnt RKept RTab mTab
  rw [h1 0 (by decide), h1 1 (by decide), h1 2 (by decide), h1 7 (by decide), h1 8 (by decide), h1 9 (by decide), h1 10 (by decide), h1 11 (by decide), h1 12 (by decide)]
  rw [h2 14 (by decide), h2 17 (by decide), h2 18 (by decide), h2 19 (by decide), h2 20 (by decide), h2 21 (by decide), h2 22 (by decide), h2 23 (by decide), h2 24 (by decide), h2 25 (by decide)]
  rw [h3 0 (by decide), h3 3 (by decide), h3 4 (by decide), h3 5 (by decide), h3 10 (by decide), h3 11 (by decide), h3 14 (by decide), h3 15 (by decide), h3 16 (by decide), h3 17 (by decide)]
  rw [h4 1 (by decide), h4 2 (by decide), h4 3 (by decide), h4 8 (by decide), h4 9 (by decide), h4 10 (by decide), h4 11 (by decide), h4 14 (by decide), h4 15 (by decide), h4 22 (by decide), h4 23 (by decide), h4 24 (by decide), h4 25 (by decide)]
  exact h
theorem sI_of {s t : List Nat} {I I2 : Nat → Int32} (h : kI t I I2) (hd : ∀ j, j ∈ s → j ∉ t) : sI s I I2 := fun j hj => h j (hd j hj)
theorem sF_of {s t : List Nat} {F F2 : Nat → Nat → Int32} (h : kF t F F2) (hd : ∀ j, j ∈ s → j ∉ t) : sF s F F2 := fun j hj => h j (hd j hj)
theorem PR_EQ {n : Nat} {Kc Tc Km Tm : Nat → Int32} (h : PR n Kc Tc Km Tm) : EQ n Kc Tc Km Tm := fun i hi => (h i hi).1
theorem cacheB_keep {n b : Nat} {I I2 : Nat → Int32} {F F2 : Nat → Nat → Int32} (hI : sI [13, 16] I I2) (hF : sF [17, 18, 27] F F2) (h : cacheB n b I F) : cacheB n b I2 F2 := by
  unfold cacheB
  rw [hI 13 (by decide), hI 16 (by decide), hF 17 (by decide), hF 18 (by decide), hF 27 (by decide)]
  exact h
theorem cacheF_keep {n b : Nat} {I I2 : Nat → Int32} {F F2 : Nat → Nat → Int32} (hI : sI [14, 15] I I2) (hF : sF [17, 18, 26] F F2) (h : cacheF n b I F) : cacheF n b I2 F2 := by
  unfold cacheF
  rw [hI 14 (by decide), hI 15 (by decide), hF 17 (by decide), hF 18 (by decide), hF 26 (by decide)]
  exact h
theorem cacheM_keep {n b : Nat} {I I2 : Nat → Int32} {F F2 : Nat → Nat → Int32} (hI : sI [6, 7, 8, 9] I I2) (hF : sF [14, 15, 20, 21] F F2) (h : cacheM n b I F) : cacheM n b I2 F2 := by
  unfold cacheM validM
  rw [hI 6 (by decide), hI 7 (by decide), hI 8 (by decide), hI 9 (by decide), hF 14 (by decide), hF 15 (by decide), hF 20 (by decide), hF 21 (by decide)]
  exact h
/-- both have planned: what is kept -/
theorem RR_plan {i n b g w p s : Nat} {Ic Ic2 : Nat → Int32} {Fc Fc2 : Nat → Nat → Int32} {Im Im2 : Nat → Int32} {Fm Fm2 : Nat → Nat → Int32} (h : RB i n b g w p s Ic Fc Im Fm) (hc : RCac n b Ic Fc Im Fm) (a1 : kI [14, 15, 17, 18] Ic Ic2) (a2 : kF [26, 28, 29, 30] Fc Fc2) (a3 : cacheF n b Ic2 Fc2) (b1 : kI [6, 7, 8, 9] Im Im2) (b2 : kF [16, 17, 18, 19, 20, 21] Fm Fm2) (b3 : 0 < n → cacheM n b Im2 Fm2) : RR i Ic2 Fc2 Im2 Fm2 :=
  ⟨n, b, g, w, p, s, RB_keep h (sI_of a1 (by decide)) (sF_of a2 (by decide)) (sI_of b1 (by decide)) (sF_of b2 (by decide)), a3, cacheB_keep (sI_of a1 (by decide)) (sF_of a2 (by decide)) hc.2.1, b3⟩
theorem RR_best {i n b g w p s : Nat} {Ic Ic2 : Nat → Int32} {Fc Fc2 : Nat → Nat → Int32} {Im Im2 : Nat → Int32} {Fm Fm2 : Nat → Nat → Int32} (h : RB i n b g w p s Ic Fc Im Fm) (hc : RCac n b Ic Fc Im Fm) (a1 : kI [13, 16, 17, 18] Ic Ic2) (a2 : ∀ r, r ≠ 27 → r ≠ 30 → r < 31 → Fc2 r = Fc r) (a3 : cacheB n b Ic2 Fc2) (b1 : kI [6, 7, 8, 9] Im Im2) (b2 : kF [16, 17, 18, 19, 20, 21] Fm Fm2) (b3 : 0 < n → cacheM n b Im2 Fm2) : RR i Ic2 Fc2 Im2 Fm2 := by
  have f1 : sF [14, 17, 18, 19, 20, 21, 22, 23, 24, 25] Fc Fc2 := fun j hj => a2 j (fun z => by subst z; exact absurd hj (by decide)) (fun z => by subst z; exact absurd hj (by decide)) (by simp at hj; omega)
  have f2 : sF [17, 18, 26] Fc Fc2 := fun j hj => a2 j (fun z => by subst z; exact absurd hj (by decide)) (fun z => by subst z; exact absurd hj (by decide)) (by simp at hj; omega)
  exact ⟨n, b, g, w, p, s, RB_keep h (sI_of a1 (by decide)) f1 (sI_of b1 (by decide)) (sF_of b2 (by decide)), cacheF_keep (sI_of a1 (by decide)) f2 hc.1, a3, b3⟩
theorem nI_is0 {n : Nat} (h : n < 2 ^ 31) : nI n = (0 : Int32) ↔ n = 0 := by
  rw [show (0 : Int32) = nI 0 by decide]
  exact nI_eq h (by omega)
theorem nI_n {n : Nat} (h : n < 2 ^ 31) {a : Int32} (h1 : ¬ a < 0) (h2 : ¬ nI n ≤ a) : ∃ k, k < n ∧ a = nI k := by
  have q1 : 0 ≤ a.toInt := by
    rw [Int32.lt_iff_toInt_lt, show (0 : Int32).toInt = 0 by decide] at h1
    omega
  rw [Int32.le_iff_toInt_le, nI_toInt h] at h2
  refine ⟨a.toInt.toNat, by omega, ?_⟩
  apply Int32.toInt_inj.mp
  rw [nI_toInt (by omega)]
  omega
theorem has_cases {n : Nat} {a : Int32} {Ic Im : Nat → Int32} {Fc Fm : Nat → Nat → Int32} (hn : n ≤ 8) (h8 : Ic 8 = nI n) (h3 : Im 3 = nI n) : (∃ k, k < n ∧ a = nI k) ∨ ((∀ post, post 0 → w_X2_has_4 a Ic Fc post) ∧ ∀ hm post, post 0 → w_X9_isChord a Im Fm hm post) := by
  by_cases q1 : a < 0
  · right
    refine ⟨fun post hp => ?_, fun hm post hp => ?_⟩
    · unfold w_X2_has_4
      exact ⟨fun _ => hp, fun q => absurd q1 q⟩
    · unfold w_X9_isChord
      exact in_i (l2 := 0) (h2 := Im 3 - 1) (by decide) rfl (fun _ => ⟨Or.inl rfl, hp⟩) (fun q => absurd q1 q)
  · by_cases q2 : nI n ≤ a
    · right
      refine ⟨fun post hp => ?_, fun hm post hp => ?_⟩
      · unfold w_X2_has_4
        rw [h8]
        exact ⟨fun _ => hp, fun _ => ⟨fun _ => hp, fun q => absurd q2 q⟩⟩
      · unfold w_X9_isChord
        refine in_i (l2 := 0) (h2 := Im 3 - 1) (by decide) rfl (fun _ => ⟨Or.inl rfl, hp⟩) (fun _ q => absurd ?_ q)
        rw [h3]
        rw [Int32.le_iff_toInt_le, nI_toInt (by omega)] at q2
        rw [Int32.lt_iff_toInt_lt]
        have e : (nI n - 1).toInt = (n : Int) - 1 := by
          rcases (show n = 0 ∨ n = 1 ∨ n = 2 ∨ n = 3 ∨ n = 4 ∨ n = 5 ∨ n = 6 ∨ n = 7 ∨ n = 8 by omega) with h | h | h | h | h | h | h | h | h <;> subst h <;> decide
        omega
    · exact Or.inl (nI_n (by omega) q1 q2)
theorem m_isChord {n k : Nat} {Im : Nat → Int32} {Fm : Nat → Nat → Int32} {hm : Int64} {post : Int32 → Prop} (hn : n ≤ 8) (h3 : Im 3 = nI n) (hk : k < n) (hp : post 1) : w_X9_isChord (nI k) Im Fm hm post := by
  unfold w_X9_isChord
  refine in_i (l2 := 0) (h2 := Im 3 - 1) (by decide) rfl (fun q => ?_) (fun _ _ => ⟨Or.inr rfl, hp⟩)
  exfalso
  rcases q with q | q
  · exact nI_nn (by omega) q
  · rw [h3, Int32.lt_iff_toInt_lt, nI_toInt (by omega)] at q
    have e : (nI n - 1).toInt = (n : Int) - 1 := by
      rcases (show n = 0 ∨ n = 1 ∨ n = 2 ∨ n = 3 ∨ n = 4 ∨ n = 5 ∨ n = 6 ∨ n = 7 ∨ n = 8 by omega) with h | h | h | h | h | h | h | h | h <;> subst h <;> decide
    omega
