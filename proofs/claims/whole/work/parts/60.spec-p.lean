/-! the least shift, both sides -/
def lsA (K T : Nat → Int32) (n b : Nat) : Nat → Nat × Nat := am (fun y => mc (BR K T (nI y) n n b))
def lsI (K T : Nat → Int32) (n b : Nat) : Int32 := if (lsA K T n b 12).1 = 2187 then -1 else nI (lsA K T n b 12).1
theorem lsA_succ (K T : Nat → Int32) (n b j : Nat) : lsA K T n b (j + 1) = if mc (BR K T (nI j) n n b) < (lsA K T n b j).2 then (j, mc (BR K T (nI j) n n b)) else lsA K T n b j := rfl
theorem lsA_le (K T : Nat → Int32) (n b j : Nat) (hj : j ≤ 12) : (lsA K T n b j).2 ≤ 99999 := by
  have h := am_spec (fun y => mc (BR K T (nI y) n n b)) j (by omega)
  rcases h with ⟨-, q, -⟩ | ⟨-, -, q, -⟩
  · exact Nat.le_of_eq q
  · exact Nat.le_of_lt q
theorem mc_BR16 (K T : Nat → Int32) (y : Int32) {n b : Nat} (hn : n ≤ 8) (hb : b < 2187) : mc (BR K T y n n b) = 99999 ∨ mc (BR K T y n n b) ≤ 16 := by
  rcases mc_cases (by omega) (BR_bd K T y (n := n) (d := n) hn hb) with ⟨h1, -⟩ | ⟨h1, -⟩
  · exact Or.inl h1
  · exact Or.inr h1
theorem kI_trans {s : List Nat} {I J L : Nat → Int32} (h1 : kI s I J) (h2 : kI s J L) : kI s I L := fun j hj => (h2 j hj).trans (h1 j hj)
theorem kF_trans {s : List Nat} {I J L : Nat → Nat → Int32} (h1 : kF s I J) (h2 : kF s J L) : kF s I L := fun j hj => (h2 j hj).trans (h1 j hj)
theorem s_least {n b : Nat} {I : Nat → Int32} {F : Nat → Nat → Int32} {post : Int32 → (Nat → Int32) → (Nat → Nat → Int32) → Prop} (hn : n ≤ 8) (hb : b < 2187) (h8 : I 8 = nI n) (h7 : I 7 = nI b) (hTb : ∀ s, s < 2187 → F 25 s = hasR s 7) (hc : cacheF n b I F)
    (hp : ∀ I2 F2, kI [14, 15, 17, 18] I I2 → kF [26, 28, 29, 30] F F2 → cacheF n b I2 F2 → post (lsI (F 17) (F 18) n b) I2 F2) : gL (fun ag v => w_X8_leastShift_B38 (fun (y10 : Int32) (y11 : Int32) (y12 : Int32) (I13 : Nat → Int32) (F14 : Nat → Nat → Int32) => post y10 I13 F14) (fun b0 b1 b2 b3 b4 => ag (b0, b1, b2, b3, b4)) v.1 v.2.1 v.2.2.1 v.2.2.2.1 v.2.2.2.2) ((-1 : Int32), (1073741824 : Int32), (0 : Int32), I, F) := by
  unfold lsI at hp
  generalize hKe : F 17 = K at *
  generalize hTe : F 18 = T at *
  refine gL_inv (fun j v => v.2.2.1 = nI j ∧ kI [14, 15, 17, 18] I v.2.2.2.1 ∧ kF [26, 28, 29, 30] F v.2.2.2.2 ∧ cacheF n b v.2.2.2.1 v.2.2.2.2 ∧ v.1 = (if (lsA K T n b j).1 = 2187 then -1 else nI (lsA K T n b j).1) ∧ v.2.1 = (if (lsA K T n b j).2 = 99999 then (1073741824 : Int32) else nI (lsA K T n b j).2)) 12 ?_ ?_ ⟨rfl, fun _ _ => rfl, fun _ _ => rfl, hc, rfl, rfl⟩
  · rintro j hj ⟨x1, x2, x3, J, L⟩ ⟨g3, gJ, gL', gc, g1, g2⟩ again hag
    dsimp only at g3 gJ gL' gc g1 g2 ⊢
    subst g3
    subst g1
    subst g2
    have l17 : L 17 = K := by rw [gL' 17 (by decide)]; exact hKe
    have l18 : L 18 = T := by rw [gL' 18 (by decide)]; exact hTe
    have e := lsA_succ K T n b j
    have hle := lsA_le K T n b j (by omega)
    generalize lsA K T n b j = p at e hle ⊢
    unfold w_X8_leastShift_B38
    refine ⟨fun q => absurd ((nI_leI (a := 12) (by omega) (by omega)).mp q) (by omega), fun _ => s_fewest hn hb hj (by rw [gJ 8 (by decide)]; exact h8) (by rw [gJ 7 (by decide)]; exact h7) (fun s hs => by rw [gL' 25 (by decide)]; exact hTb s hs) gc (fun I2 F2 a1 a2 a3 => ?_)⟩
    rw [l17, l18]
    unfold fewI
    have hm := mc_BR16 K T (nI j) hn hb
    generalize mc (BR K T (nI j) n n b) = m at e hm ⊢
    have hI2 := kI_trans gJ a1
    have hF2 := kF_trans gL' a2
    by_cases hno : m = 99999
    · rw [if_pos hno]
      refine ⟨fun _ => hag _ ⟨nI_1 j, hI2, hF2, a3, ?_⟩, fun q => absurd rfl q⟩
      have n1 : ¬ m < p.2 := by omega
      rw [e, if_neg n1]
      exact ⟨rfl, rfl⟩
    · rw [if_neg hno]
      refine ⟨fun q => absurd q (neg1_nI (by omega)), fun _ => ?_⟩
      by_cases h9 : p.2 = 99999
      · have n1 : m < p.2 := by omega
        rw [if_pos h9, if_pos n1] at *
        refine ⟨fun q => absurd q ?_, fun q => hag _ ⟨nI_1 j, hI2, hF2, a3, ?_⟩⟩
        · rw [show (1073741824 : Int32) = nI 1073741824 by decide, nI_leI (by omega) (by omega)]
          omega
        · rw [e]
          dsimp only
          have n2 : ¬ j = 2187 := by omega
          rw [if_neg n2, if_neg hno]
          exact ⟨rfl, rfl⟩
      · rw [if_neg h9, nI_leI (by omega) (by omega)]
        refine ⟨fun q => hag _ ⟨nI_1 j, hI2, hF2, a3, ?_⟩, fun q => hag _ ⟨nI_1 j, hI2, hF2, a3, ?_⟩⟩
        · have n1 : ¬ m < p.2 := by omega
          rw [e, if_neg n1]
          dsimp only
          rw [if_neg h9]
          exact ⟨rfl, rfl⟩
        · have n1 : m < p.2 := by omega
          rw [e, if_pos n1]
          dsimp only
          have n2 : ¬ j = 2187 := by omega
          rw [if_neg n2, if_neg hno]
          exact ⟨rfl, rfl⟩
  · rintro ⟨x1, x2, x3, J, L⟩ ⟨g3, gJ, gL', gc, g1, g2⟩ again
    dsimp only at g3 gJ gL' gc g1 g2 ⊢
    subst g3
    unfold w_X8_leastShift_B38
    exact ⟨fun _ => by rw [g1]; exact hp J L gJ gL' gc, fun q => absurd (by decide) q⟩
theorem m_least {n b : Nat} {I : Nat → Int32} {F : Nat → Nat → Int32} {hs : Int64} {post : Int32 → (Nat → Int32) → (Nat → Nat → Int32) → Int64 → Prop} (hM : mTab F) (hn : n ≤ 8) (hn0 : 0 < n) (h3 : I 3 = nI n) (h4 : I 4 = nI b) (hb : b < 2187) (hc : cacheM n b I F)
    (hp : ∀ I2 F2, kI [6, 7, 8, 9] I I2 → kF [16, 17, 18, 19, 20, 21] F F2 → cacheM n b I2 F2 → post (lsI (F 14) (F 15) n b) I2 F2 hs) : gL (fun ag v => w_X9_leastShift_B35 (fun (y18 : Int32) (y19 : Int32) (y20 : Int32) (I21 : Nat → Int32) (F22 : Nat → Nat → Int32) (hs23 : Int64) => post y18 I21 F22 hs23) (fun b0 b1 b2 b3 b4 b5 => ag (b0, b1, b2, b3, b4, b5)) v.1 v.2.1 v.2.2.1 v.2.2.2.1 v.2.2.2.2.1 v.2.2.2.2.2) ((-1 : Int32), (99999 : Int32), (0 : Int32), I, F, hs) := by
  unfold lsI at hp
  generalize hKe : F 14 = K at *
  generalize hTe : F 15 = T at *
  refine gL_inv (fun j v => v.2.2.1 = nI j ∧ kI [6, 7, 8, 9] I v.2.2.2.1 ∧ kF [16, 17, 18, 19, 20, 21] F v.2.2.2.2.1 ∧ cacheM n b v.2.2.2.1 v.2.2.2.2.1 ∧ v.2.2.2.2.2 = hs ∧ v.1 = (if (lsA K T n b j).1 = 2187 then -1 else nI (lsA K T n b j).1) ∧ v.2.1 = nI (lsA K T n b j).2) 12 ?_ ?_ ⟨rfl, fun _ _ => rfl, fun _ _ => rfl, hc, rfl, rfl, rfl⟩
  · rintro j hj ⟨x1, x2, x3, J, L, hz⟩ ⟨g3, gJ, gL', gc, gz, g1, g2⟩ again hag
    dsimp only at g3 gJ gL' gc gz g1 g2 ⊢
    subst g3
    subst g1
    subst g2
    subst gz
    have l14 : L 14 = K := by rw [gL' 14 (by decide)]; exact hKe
    have l15 : L 15 = T := by rw [gL' 15 (by decide)]; exact hTe
    have e := lsA_succ K T n b j
    have hle := lsA_le K T n b j (by omega)
    generalize lsA K T n b j = p at e hle ⊢
    unfold w_X9_leastShift_B35
    refine ⟨fun q => absurd ((nI_leI (a := 12) (by omega) (by omega)).mp q) (by omega), fun _ => m_shiftedOf (n := n) (b := b) (mTab_of (fun j hj => gL' j (by simp; omega)) hM) hn hn0 (by rw [gJ 3 (by decide)]; exact h3) (by rw [gJ 4 (by decide)]; exact h4) hb (fun I2 F2 a1 a2 a3 => ?_)⟩
    rw [l14, l15]
    unfold fewI
    have hm := mc_BR16 K T (nI j) hn hb
    generalize mc (BR K T (nI j) n n b) = m at e hm ⊢
    have hI2 := kI_trans gJ a1
    have hF2 := kF_trans gL' a2
    have hc2 : cacheM n b I2 F2 := Or.inl a3
    by_cases hno : m = 99999
    · rw [if_pos hno]
      refine ⟨fun _ => ⟨fun _ => hag _ ⟨nI_1 j, hI2, hF2, hc2, rfl, ?_⟩, fun q => absurd rfl q⟩, fun q => absurd rfl q⟩
      have n1 : ¬ m < p.2 := by omega
      rw [e, if_neg n1]
      exact ⟨rfl, rfl⟩
    · rw [if_neg hno, nI_leI (by omega) (by omega)]
      have hne : ¬ nI m = (-1 : Int32) := neg1_nI (by omega)
      have skip : p.2 ≤ m → again (if p.1 = 2187 then -1 else nI p.1, nI p.2, nI j + (1 : Int32), I2, F2, hz) := fun q => hag _ ⟨nI_1 j, hI2, hF2, hc2, rfl, by
        have n1 : ¬ m < p.2 := by omega
        rw [e, if_neg n1]
        exact ⟨rfl, rfl⟩⟩
      have take : ¬ p.2 ≤ m → again (nI j, nI m, nI j + (1 : Int32), I2, F2, hz) := fun q => hag _ ⟨nI_1 j, hI2, hF2, hc2, rfl, by
        have n1 : m < p.2 := by omega
        rw [e, if_pos n1]
        dsimp only
        have n2 : ¬ j = 2187 := by omega
        rw [if_neg n2]
        exact ⟨rfl, rfl⟩⟩
      exact ⟨fun q => absurd q hne, fun _ => ⟨fun q => ⟨fun q2 => absurd q2 hne, fun _ => ⟨fun _ => skip q, fun q2 => absurd q q2⟩⟩, fun q => ⟨fun q2 => absurd q2 hne, fun _ => ⟨fun q2 => absurd q2 q, fun _ => take q⟩⟩⟩⟩
  · rintro ⟨x1, x2, x3, J, L, hz⟩ ⟨g3, gJ, gL', gc, gz, g1, g2⟩ again
    dsimp only at g3 gJ gL' gc gz g1 g2 ⊢
    subst g3
    subst gz
    unfold w_X9_leastShift_B35
    exact ⟨fun _ => by rw [g1]; exact hp J L gJ gL' gc, fun q => absurd (by decide) q⟩
