/-! the class's digest: chords -/
def CK (n b : Nat) (I : Nat → Int32) (F : Nat → Nat → Int32) (I2 : Nat → Int32) (F2 : Nat → Nat → Int32) : Prop := sI [0, 1, 2, 7, 8, 9, 10, 11, 12] I I2 ∧ sF [14, 17, 18, 19, 20, 21, 22, 23, 24, 25] F F2 ∧ cacheF n b I2 F2 ∧ cacheB n b I2 F2
theorem CK_best {n b : Nat} {I J J2 : Nat → Int32} {F L L2 : Nat → Nat → Int32} (h : CK n b I F J L) (a1 : kI [13, 16, 17, 18] J J2) (a2 : ∀ r, r ≠ 27 → r ≠ 30 → r < 31 → L2 r = L r) (a3 : cacheB n b J2 L2) : CK n b I F J2 L2 := by
  have f1 : sF [14, 17, 18, 19, 20, 21, 22, 23, 24, 25] L L2 := fun j hj => a2 j (fun z => by subst z; exact absurd hj (by decide)) (fun z => by subst z; exact absurd hj (by decide)) (by simp at hj; omega)
  have f2 : sF [17, 18, 26] L L2 := fun j hj => a2 j (fun z => by subst z; exact absurd hj (by decide)) (fun z => by subst z; exact absurd hj (by decide)) (by simp at hj; omega)
  have i1 : sI [0, 1, 2, 7, 8, 9, 10, 11, 12] J J2 := sI_of a1 (by decide)
  exact ⟨fun j hj => (i1 j hj).trans (h.1 j hj), fun j hj => (f1 j hj).trans (h.2.1 j hj), cacheF_keep (sI_of a1 (by decide)) f2 h.2.2.1, a3⟩
theorem CK_plan {n b : Nat} {I J J2 : Nat → Int32} {F L L2 : Nat → Nat → Int32} (h : CK n b I F J L) (a1 : kI [14, 15, 17, 18] J J2) (a2 : kF [26, 28, 29, 30] L L2) (a3 : cacheF n b J2 L2) : CK n b I F J2 L2 := by
  have f1 : sF [14, 17, 18, 19, 20, 21, 22, 23, 24, 25] L L2 := sF_of a2 (by decide)
  have i1 : sI [0, 1, 2, 7, 8, 9, 10, 11, 12] J J2 := sI_of a1 (by decide)
  exact ⟨fun j hj => (i1 j hj).trans (h.1 j hj), fun j hj => (f1 j hj).trans (h.2.1 j hj), a3, cacheB_keep (sI_of a1 (by decide)) (sF_of a2 (by decide)) h.2.2.2⟩
theorem s_dgC {n w k : Nat} {x : Int64} {I : Nat → Int32} {F : Nat → Nat → Int32} {kk : Int64 → Int32 → Prop} (hn : n ≤ 8) (hk : k < n) (hw : w ≤ 6) (c8 : I 8 = nI n) (c11 : I 11 = nI w) (hT : ∀ s, s < 2187 → F 25 s = hasR s 7) (h : ∀ y, kk (dgC (F 17) (F 18) (F 21) (F 22) w k x 6) y) : gL (fun ag v => w_X8_digest_B20 (nI k) I F kk (fun b0 b1 => ag (b0, b1)) v.1 v.2) (x, (0 : Int32)) := by
  refine gL_inv (fun j v => v.2 = nI j ∧ v.1 = dgC (F 17) (F 18) (F 21) (F 22) w k x j) 6 ?_ ?_ ⟨rfl, rfl⟩
  · rintro j hj ⟨x1, x2⟩ ⟨g2, g1⟩ again hag
    dsimp only at g1 g2 ⊢
    subst g1
    subst g2
    unfold w_X8_digest_B20
    exact ⟨fun q => absurd ((nI_leI (a := 6) (by omega) (by omega)).mp q) (by omega), fun _ => s_chordV hn hk hj hw c8 c11 hT (fun v17 e17 => hag _ ⟨nI_1 j, e17⟩)⟩
  · rintro ⟨x1, x2⟩ ⟨g2, g1⟩ again
    dsimp only at g1 g2 ⊢
    subst g2
    unfold w_X8_digest_B20
    exact ⟨fun _ => by rw [g1]; exact h _, fun q => absurd (by decide) q⟩
theorem s_dgK {n b w : Nat} {I : Nat → Int32} {F : Nat → Nat → Int32} {kk : Int64 → Int32 → (Nat → Int32) → (Nat → Nat → Int32) → Prop} (hn : n ≤ 8) (hb : b < 2187) (hw : w ≤ 6) (c8 : I 8 = nI n) (c7 : I 7 = nI b) (c11 : I 11 = nI w) (hT : ∀ s, s < 2187 → F 25 s = hasR s 7) (htn : ∀ k, k < n → ∃ t, t < 4096 ∧ F 18 k = nI t) (hcF : cacheF n b I F) (hcB : cacheB n b I F)
    (h : ∀ y I2 F2, CK n b I F I2 F2 → kk (dgK (F 17) (F 18) (F 21) (F 22) n b w n) y I2 F2) : gL (fun ag v => w_X8_digest_B6 kk (fun b0 b1 b2 b3 => ag (b0, b1, b2, b3)) v.1 v.2.1 v.2.2.1 v.2.2.2) ((1423 : Int64), (0 : Int32), I, F) := by
  refine gL_inv (fun j v => v.2.1 = nI j ∧ CK n b I F v.2.2.1 v.2.2.2 ∧ v.1 = dgK (F 17) (F 18) (F 21) (F 22) n b w j) n ?_ ?_ ⟨rfl, ⟨fun _ _ => rfl, fun _ _ => rfl, hcF, hcB⟩, rfl⟩
  · rintro j hj ⟨x1, x2, J, L⟩ ⟨g2, gC, g1⟩ again hag
    dsimp only at g1 g2 gC ⊢
    subst g1
    subst g2
    have d8 : J 8 = nI n := by rw [gC.1 8 (by decide)]; exact c8
    have d7 : J 7 = nI b := by rw [gC.1 7 (by decide)]; exact c7
    have d11 : J 11 = nI w := by rw [gC.1 11 (by decide)]; exact c11
    have l17 : L 17 = F 17 := gC.2.1 17 (by decide)
    have l18 : L 18 = F 18 := gC.2.1 18 (by decide)
    have l21 : L 21 = F 21 := gC.2.1 21 (by decide)
    have l22 : L 22 = F 22 := gC.2.1 22 (by decide)
    have l25 : L 25 = F 25 := gC.2.1 25 (by decide)
    unfold w_X8_digest_B6
    refine ⟨fun q => absurd ((nI_leI (a := n) (b := j) (by omega) (by omega)).mp (by rw [← d8]; exact q)) (by omega), fun _ => s_dgC hn hj hw d8 d11 (by rw [l25]; exact hT) (fun y => ?_)⟩
    refine s_best hn hj hb d8 d7 (by rw [l25]; exact hT) (by rw [l18]; exact htn) gC.2.2.2 (fun I2 F2 a1 a2 a3 v24 e24 => ?_)
    have gC2 := CK_best gC a1 a2 a3
    have t17 : F2 17 = F 17 := gC2.2.1 17 (by decide)
    have t18 : F2 18 = F 18 := gC2.2.1 18 (by decide)
    refine s_reached hn hb hj (by rw [gC2.1 8 (by decide)]; exact c8) (by rw [gC2.1 7 (by decide)]; exact c7) (by rw [gC2.2.1 25 (by decide)]; exact hT) gC2.2.2.1 (fun I3 F3 b1 b2 b3 v28 e28 => hag _ ⟨nI_1 j, CK_plan gC2 b1 b2 b3, ?_⟩)
    show v28 = (31 : Int64) * ((31 : Int64) * dgC (F 17) (F 18) (F 21) (F 22) w j (dgK (F 17) (F 18) (F 21) (F 22) n b w j) 6 + (setI (F 17) (F 18) n b j).toInt64) + (nI (rc (F 17) (F 18) 0 b j)).toInt64
    rw [e28, e24, l17, l18, l21, l22, t17, t18]
  · rintro ⟨x1, x2, J, L⟩ ⟨g2, gC, g1⟩ again
    dsimp only at g1 g2 gC ⊢
    subst g1
    subst g2
    have d8 : J 8 = nI n := by rw [gC.1 8 (by decide)]; exact c8
    unfold w_X8_digest_B6
    exact ⟨fun _ => h _ J L gC, fun q => absurd (by rw [d8]; exact Int32.le_refl _) q⟩
