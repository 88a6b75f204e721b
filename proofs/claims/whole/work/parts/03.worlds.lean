/-! the coded worlds of the class (c) and of the reference (m): printed by wip/whole/worlds.py -/
def clen (k : Nat) : Nat := if k = 14 then 56 else if k < 21 then 8 else if k < 25 then 6 else if k = 26 then 8 else if k = 27 then 8 else 2187
def cE (q : Nat → Nat) (cI cO : ClassId) (I : Nat → Int32) (F : Nat → Nat → Int32) (k : Nat) : va_E := match k with
  | 0 => .inr (8, [.ref (q 1), .ref (q 2), .ref (q 4), .ref (q 5), .ref (q 6), .ref (q 7), .ref (q 8), .ref (q 9), .ref (q 11), .int (I 0), .int (I 1)])
  | 1 => .inr (1, [.ref (q 14), .int (I 2)])
  | 2 => .inr (5, [.ref (q 3), .int (I 3), .int (I 4)])
  | 3 => .inr (2, [.int (I 5), .int (I 6), .ref (q 15), .ref (q 16)])
  | 4 => .inr (2, [.int (I 7), .int (I 8), .ref (q 17), .ref (q 18)])
  | 5 => .inr (2, [.int (I 9), .int (I 10), .ref (q 19), .ref (q 20)])
  | 6 => .inr (6, [.int (I 11), .ref (q 21), .ref (q 22)])
  | 7 => .inr (6, [.int (I 12), .ref (q 23), .ref (q 24)])
  | 8 => .inr (7, [.ref (q 25)])
  | 9 => .inr (3, [.ref (q 8), .ref (q 10), .ref (q 28), .ref (q 29), .ref (q 30), .ref (q 13), .ref (q 26), .ref (q 27), .int (I 13), .int (I 14), .int (I 15), .int (I 16)])
  | 10 => .inr (0, [.int (I 17), .int (I 18)])
  | 11 => .inr (4, [.ref (q 8), .ref (q 12), .int (I 19), .int (I 20), .int (I 21), .int (I 22)])
  | 12 => .inr (0, [.int (I 23), .int (I 24)])
  | 13 => .inl (cO, 8, .inr (.inr (.inr (.inr (fun i => if i < 8 then some (q (31 + i)) else none)))))
  | k => .inl (cI, clen k, .inl (F k))
def cW (q : Nat → Nat) (cI cO : ClassId) (I : Nat → Int32) (F : Nat → Nat → Int32) : va_W := (List.range 39).map (fun k => (q k, cE q cI cO I F k))
def cA (q : Nat → Nat) : Nat → Prop := fun x => ∃ k : Nat, k < 39 ∧ x = q k
def cOk (q : Nat → Nat) : Prop := ∀ i j : Nat, i < 39 → j < 39 → q i = q j → i = j
section
variable {q : Nat → Nat} {cI cO : ClassId} {I I2 : Nat → Int32} {F F2 : Nat → Nat → Int32}
theorem cW_at (k : Nat) (hk : k < 39) : (cW q cI cO I F)[k]? = some (q k, cE q cI cO I F k) := by unfold cW; rw [List.getElem?_map, List.getElem?_range hk]; rfl
theorem cW_set (k : Nat) (hk : k < 39) {e : va_E} (he : e = cE q cI cO I2 F2 k) (ho : ∀ j : Nat, j < 39 → j ≠ k → cE q cI cO I F j = cE q cI cO I2 F2 j) : (cW q cI cO I F).set k (q k, e) = cW q cI cO I2 F2 := by
  apply List.ext_getElem?
  intro j
  rw [List.getElem?_set]
  have hlen : (cW q cI cO I F).length = 39 := by unfold cW; rw [List.length_map, List.length_range]
  by_cases hj : j < 39
  · by_cases hjk : k = j
    · subst hjk
      rw [if_pos rfl, if_pos (by rw [hlen]; exact hj), cW_at k hj, he]
    · rw [if_neg hjk, cW_at j hj, cW_at j hj, ho j hj (fun q => hjk q.symm)]
  · rw [if_neg (by omega), List.getElem?_eq_none (by rw [hlen]; omega), List.getElem?_eq_none (by unfold cW; rw [List.length_map, List.length_range]; omega)]
theorem cD (hq : cOk q) : va_D (cA q) (cW q cI cO I F) := by
  have hlen : (cW q cI cO I F).length = 39 := by unfold cW; rw [List.length_map, List.length_range]
  have hat : ∀ (i : Nat) (x : Nat × va_E), (cW q cI cO I F)[i]? = some x → i < 39 ∧ x.1 = q i := fun i x hx => by
    have hi : i < 39 := by rw [← hlen]; exact (List.getElem?_eq_some_iff.mp hx).1
    rw [cW_at i hi] at hx
    cases hx
    exact ⟨hi, rfl⟩
  refine ⟨fun i j x y hi hj hxy => ?_, fun k x hk => ?_⟩
  · obtain ⟨a1, a2⟩ := hat i x hi
    obtain ⟨b1, b2⟩ := hat j y hj
    exact hq i j a1 b1 (by rw [← a2, ← b2]; exact hxy)
  · obtain ⟨a1, a2⟩ := hat k x hk
    exact ⟨k, a1, a2⟩
theorem cAt0 : (cW q cI cO I F)[0]? = some (q 0, .inr (8, [.ref (q 1), .ref (q 2), .ref (q 4), .ref (q 5), .ref (q 6), .ref (q 7), .ref (q 8), .ref (q 9), .ref (q 11), .int (I 0), .int (I 1)])) := cW_at 0 (by decide)
theorem cAt1 : (cW q cI cO I F)[1]? = some (q 1, .inr (1, [.ref (q 14), .int (I 2)])) := cW_at 1 (by decide)
theorem cAt2 : (cW q cI cO I F)[2]? = some (q 2, .inr (5, [.ref (q 3), .int (I 3), .int (I 4)])) := cW_at 2 (by decide)
theorem cAt3 : (cW q cI cO I F)[3]? = some (q 3, .inr (2, [.int (I 5), .int (I 6), .ref (q 15), .ref (q 16)])) := cW_at 3 (by decide)
theorem cAt4 : (cW q cI cO I F)[4]? = some (q 4, .inr (2, [.int (I 7), .int (I 8), .ref (q 17), .ref (q 18)])) := cW_at 4 (by decide)
theorem cAt5 : (cW q cI cO I F)[5]? = some (q 5, .inr (2, [.int (I 9), .int (I 10), .ref (q 19), .ref (q 20)])) := cW_at 5 (by decide)
theorem cAt6 : (cW q cI cO I F)[6]? = some (q 6, .inr (6, [.int (I 11), .ref (q 21), .ref (q 22)])) := cW_at 6 (by decide)
theorem cAt7 : (cW q cI cO I F)[7]? = some (q 7, .inr (6, [.int (I 12), .ref (q 23), .ref (q 24)])) := cW_at 7 (by decide)
theorem cAt8 : (cW q cI cO I F)[8]? = some (q 8, .inr (7, [.ref (q 25)])) := cW_at 8 (by decide)
theorem cAt9 : (cW q cI cO I F)[9]? = some (q 9, .inr (3, [.ref (q 8), .ref (q 10), .ref (q 28), .ref (q 29), .ref (q 30), .ref (q 13), .ref (q 26), .ref (q 27), .int (I 13), .int (I 14), .int (I 15), .int (I 16)])) := cW_at 9 (by decide)
theorem cAt10 : (cW q cI cO I F)[10]? = some (q 10, .inr (0, [.int (I 17), .int (I 18)])) := cW_at 10 (by decide)
theorem cAt11 : (cW q cI cO I F)[11]? = some (q 11, .inr (4, [.ref (q 8), .ref (q 12), .int (I 19), .int (I 20), .int (I 21), .int (I 22)])) := cW_at 11 (by decide)
theorem cAt12 : (cW q cI cO I F)[12]? = some (q 12, .inr (0, [.int (I 23), .int (I 24)])) := cW_at 12 (by decide)
theorem cE_arr (k : Nat) (h1 : 14 ≤ k) : cE q cI cO I F k = .inl (cI, clen k, .inl (F k)) := by
  unfold cE
  split <;> first | omega | rfl
theorem cAr (k : Nat) (h1 : 14 ≤ k) (hk : k < 39) : (cW q cI cO I F)[k]? = some (q k, .inl (cI, clen k, .inl (F k))) := by rw [cW_at k hk, cE_arr k h1]
theorem cAr14 : (cW q cI cO I F)[14]? = some (q 14, .inl (cI, 56, .inl (F 14))) := cAr 14 (by decide) (by decide)
theorem cAr15 : (cW q cI cO I F)[15]? = some (q 15, .inl (cI, 8, .inl (F 15))) := cAr 15 (by decide) (by decide)
theorem cAr16 : (cW q cI cO I F)[16]? = some (q 16, .inl (cI, 8, .inl (F 16))) := cAr 16 (by decide) (by decide)
theorem cAr17 : (cW q cI cO I F)[17]? = some (q 17, .inl (cI, 8, .inl (F 17))) := cAr 17 (by decide) (by decide)
theorem cAr18 : (cW q cI cO I F)[18]? = some (q 18, .inl (cI, 8, .inl (F 18))) := cAr 18 (by decide) (by decide)
theorem cAr19 : (cW q cI cO I F)[19]? = some (q 19, .inl (cI, 8, .inl (F 19))) := cAr 19 (by decide) (by decide)
theorem cAr20 : (cW q cI cO I F)[20]? = some (q 20, .inl (cI, 8, .inl (F 20))) := cAr 20 (by decide) (by decide)
theorem cAr21 : (cW q cI cO I F)[21]? = some (q 21, .inl (cI, 6, .inl (F 21))) := cAr 21 (by decide) (by decide)
theorem cAr22 : (cW q cI cO I F)[22]? = some (q 22, .inl (cI, 6, .inl (F 22))) := cAr 22 (by decide) (by decide)
theorem cAr23 : (cW q cI cO I F)[23]? = some (q 23, .inl (cI, 6, .inl (F 23))) := cAr 23 (by decide) (by decide)
theorem cAr24 : (cW q cI cO I F)[24]? = some (q 24, .inl (cI, 6, .inl (F 24))) := cAr 24 (by decide) (by decide)
theorem cAr25 : (cW q cI cO I F)[25]? = some (q 25, .inl (cI, 2187, .inl (F 25))) := cAr 25 (by decide) (by decide)
theorem cAr26 : (cW q cI cO I F)[26]? = some (q 26, .inl (cI, 8, .inl (F 26))) := cAr 26 (by decide) (by decide)
theorem cAr27 : (cW q cI cO I F)[27]? = some (q 27, .inl (cI, 8, .inl (F 27))) := cAr 27 (by decide) (by decide)
theorem cAr28 : (cW q cI cO I F)[28]? = some (q 28, .inl (cI, 2187, .inl (F 28))) := cAr 28 (by decide) (by decide)
theorem cAr29 : (cW q cI cO I F)[29]? = some (q 29, .inl (cI, 2187, .inl (F 29))) := cAr 29 (by decide) (by decide)
theorem cAr30 : (cW q cI cO I F)[30]? = some (q 30, .inl (cI, 2187, .inl (F 30))) := cAr 30 (by decide) (by decide)
theorem cAr31 : (cW q cI cO I F)[31]? = some (q 31, .inl (cI, 2187, .inl (F 31))) := cAr 31 (by decide) (by decide)
theorem cAr32 : (cW q cI cO I F)[32]? = some (q 32, .inl (cI, 2187, .inl (F 32))) := cAr 32 (by decide) (by decide)
theorem cAr33 : (cW q cI cO I F)[33]? = some (q 33, .inl (cI, 2187, .inl (F 33))) := cAr 33 (by decide) (by decide)
theorem cAr34 : (cW q cI cO I F)[34]? = some (q 34, .inl (cI, 2187, .inl (F 34))) := cAr 34 (by decide) (by decide)
theorem cAr35 : (cW q cI cO I F)[35]? = some (q 35, .inl (cI, 2187, .inl (F 35))) := cAr 35 (by decide) (by decide)
theorem cAr36 : (cW q cI cO I F)[36]? = some (q 36, .inl (cI, 2187, .inl (F 36))) := cAr 36 (by decide) (by decide)
theorem cAr37 : (cW q cI cO I F)[37]? = some (q 37, .inl (cI, 2187, .inl (F 37))) := cAr 37 (by decide) (by decide)
theorem cAr38 : (cW q cI cO I F)[38]? = some (q 38, .inl (cI, 2187, .inl (F 38))) := cAr 38 (by decide) (by decide)
theorem cE_low (g : Nat → Int32) (k : Nat) (h1 : 14 ≤ k) : ∀ j : Nat, j < 39 → j ≠ k → cE q cI cO I F j = cE q cI cO I (upF F k g) j := by
  intro j hj hne
  by_cases h : 14 ≤ j
  · rw [cE_arr j h, cE_arr j h, upF_n F g hne]
  · have hc : j = 0 ∨ j = 1 ∨ j = 2 ∨ j = 3 ∨ j = 4 ∨ j = 5 ∨ j = 6 ∨ j = 7 ∨ j = 8 ∨ j = 9 ∨ j = 10 ∨ j = 11 ∨ j = 12 ∨ j = 13 := by omega
    rcases hc with rfl | rfl | rfl | rfl | rfl | rfl | rfl | rfl | rfl | rfl | rfl | rfl | rfl | rfl <;> rfl
theorem cSetA (k : Nat) (h1 : 14 ≤ k) (hk : k < 39) (g : Nat → Int32) : (cW q cI cO I F).set k (q k, .inl (cI, clen k, .inl g)) = cW q cI cO I (upF F k g) := cW_set k hk (by rw [cE_arr k h1, upF_s]) (cE_low g k h1)
theorem cSA14 (g : Nat → Int32) : (cW q cI cO I F).set 14 (q 14, .inl (cI, 56, .inl g)) = cW q cI cO I (upF F 14 g) := cSetA 14 (by decide) (by decide) g
theorem cSA15 (g : Nat → Int32) : (cW q cI cO I F).set 15 (q 15, .inl (cI, 8, .inl g)) = cW q cI cO I (upF F 15 g) := cSetA 15 (by decide) (by decide) g
theorem cSA16 (g : Nat → Int32) : (cW q cI cO I F).set 16 (q 16, .inl (cI, 8, .inl g)) = cW q cI cO I (upF F 16 g) := cSetA 16 (by decide) (by decide) g
theorem cSA17 (g : Nat → Int32) : (cW q cI cO I F).set 17 (q 17, .inl (cI, 8, .inl g)) = cW q cI cO I (upF F 17 g) := cSetA 17 (by decide) (by decide) g
theorem cSA18 (g : Nat → Int32) : (cW q cI cO I F).set 18 (q 18, .inl (cI, 8, .inl g)) = cW q cI cO I (upF F 18 g) := cSetA 18 (by decide) (by decide) g
theorem cSA19 (g : Nat → Int32) : (cW q cI cO I F).set 19 (q 19, .inl (cI, 8, .inl g)) = cW q cI cO I (upF F 19 g) := cSetA 19 (by decide) (by decide) g
theorem cSA20 (g : Nat → Int32) : (cW q cI cO I F).set 20 (q 20, .inl (cI, 8, .inl g)) = cW q cI cO I (upF F 20 g) := cSetA 20 (by decide) (by decide) g
theorem cSA21 (g : Nat → Int32) : (cW q cI cO I F).set 21 (q 21, .inl (cI, 6, .inl g)) = cW q cI cO I (upF F 21 g) := cSetA 21 (by decide) (by decide) g
theorem cSA22 (g : Nat → Int32) : (cW q cI cO I F).set 22 (q 22, .inl (cI, 6, .inl g)) = cW q cI cO I (upF F 22 g) := cSetA 22 (by decide) (by decide) g
theorem cSA23 (g : Nat → Int32) : (cW q cI cO I F).set 23 (q 23, .inl (cI, 6, .inl g)) = cW q cI cO I (upF F 23 g) := cSetA 23 (by decide) (by decide) g
theorem cSA24 (g : Nat → Int32) : (cW q cI cO I F).set 24 (q 24, .inl (cI, 6, .inl g)) = cW q cI cO I (upF F 24 g) := cSetA 24 (by decide) (by decide) g
theorem cSA25 (g : Nat → Int32) : (cW q cI cO I F).set 25 (q 25, .inl (cI, 2187, .inl g)) = cW q cI cO I (upF F 25 g) := cSetA 25 (by decide) (by decide) g
theorem cSA26 (g : Nat → Int32) : (cW q cI cO I F).set 26 (q 26, .inl (cI, 8, .inl g)) = cW q cI cO I (upF F 26 g) := cSetA 26 (by decide) (by decide) g
theorem cSA27 (g : Nat → Int32) : (cW q cI cO I F).set 27 (q 27, .inl (cI, 8, .inl g)) = cW q cI cO I (upF F 27 g) := cSetA 27 (by decide) (by decide) g
theorem cSA28 (g : Nat → Int32) : (cW q cI cO I F).set 28 (q 28, .inl (cI, 2187, .inl g)) = cW q cI cO I (upF F 28 g) := cSetA 28 (by decide) (by decide) g
theorem cSA29 (g : Nat → Int32) : (cW q cI cO I F).set 29 (q 29, .inl (cI, 2187, .inl g)) = cW q cI cO I (upF F 29 g) := cSetA 29 (by decide) (by decide) g
theorem cSA30 (g : Nat → Int32) : (cW q cI cO I F).set 30 (q 30, .inl (cI, 2187, .inl g)) = cW q cI cO I (upF F 30 g) := cSetA 30 (by decide) (by decide) g
theorem cSA31 (g : Nat → Int32) : (cW q cI cO I F).set 31 (q 31, .inl (cI, 2187, .inl g)) = cW q cI cO I (upF F 31 g) := cSetA 31 (by decide) (by decide) g
theorem cSA32 (g : Nat → Int32) : (cW q cI cO I F).set 32 (q 32, .inl (cI, 2187, .inl g)) = cW q cI cO I (upF F 32 g) := cSetA 32 (by decide) (by decide) g
theorem cSA33 (g : Nat → Int32) : (cW q cI cO I F).set 33 (q 33, .inl (cI, 2187, .inl g)) = cW q cI cO I (upF F 33 g) := cSetA 33 (by decide) (by decide) g
theorem cSA34 (g : Nat → Int32) : (cW q cI cO I F).set 34 (q 34, .inl (cI, 2187, .inl g)) = cW q cI cO I (upF F 34 g) := cSetA 34 (by decide) (by decide) g
theorem cSA35 (g : Nat → Int32) : (cW q cI cO I F).set 35 (q 35, .inl (cI, 2187, .inl g)) = cW q cI cO I (upF F 35 g) := cSetA 35 (by decide) (by decide) g
theorem cSA36 (g : Nat → Int32) : (cW q cI cO I F).set 36 (q 36, .inl (cI, 2187, .inl g)) = cW q cI cO I (upF F 36 g) := cSetA 36 (by decide) (by decide) g
theorem cSA37 (g : Nat → Int32) : (cW q cI cO I F).set 37 (q 37, .inl (cI, 2187, .inl g)) = cW q cI cO I (upF F 37 g) := cSetA 37 (by decide) (by decide) g
theorem cSA38 (g : Nat → Int32) : (cW q cI cO I F).set 38 (q 38, .inl (cI, 2187, .inl g)) = cW q cI cO I (upF F 38 g) := cSetA 38 (by decide) (by decide) g
theorem cSet0 (v : Int32) : (cW q cI cO I F).set 0 (q 0, .inr (8, [.ref (q 1), .ref (q 2), .ref (q 4), .ref (q 5), .ref (q 6), .ref (q 7), .ref (q 8), .ref (q 9), .ref (q 11), .int (I 0), .int (I 1)].set 9 (.int v))) = cW q cI cO (upd I 0 v) F := cW_set 0 (by decide) rfl (by
  intro j hj hne
  by_cases h : 14 ≤ j
  · rw [cE_arr j h, cE_arr j h]
  · have hc : j = 0 ∨ j = 1 ∨ j = 2 ∨ j = 3 ∨ j = 4 ∨ j = 5 ∨ j = 6 ∨ j = 7 ∨ j = 8 ∨ j = 9 ∨ j = 10 ∨ j = 11 ∨ j = 12 ∨ j = 13 := by omega
    rcases hc with rfl | rfl | rfl | rfl | rfl | rfl | rfl | rfl | rfl | rfl | rfl | rfl | rfl | rfl <;> first | rfl | exact absurd rfl hne)
theorem cSet1 (v : Int32) : (cW q cI cO I F).set 0 (q 0, .inr (8, [.ref (q 1), .ref (q 2), .ref (q 4), .ref (q 5), .ref (q 6), .ref (q 7), .ref (q 8), .ref (q 9), .ref (q 11), .int (I 0), .int (I 1)].set 10 (.int v))) = cW q cI cO (upd I 1 v) F := cW_set 0 (by decide) rfl (by
  intro j hj hne
  by_cases h : 14 ≤ j
  · rw [cE_arr j h, cE_arr j h]
  · have hc : j = 0 ∨ j = 1 ∨ j = 2 ∨ j = 3 ∨ j = 4 ∨ j = 5 ∨ j = 6 ∨ j = 7 ∨ j = 8 ∨ j = 9 ∨ j = 10 ∨ j = 11 ∨ j = 12 ∨ j = 13 := by omega
    rcases hc with rfl | rfl | rfl | rfl | rfl | rfl | rfl | rfl | rfl | rfl | rfl | rfl | rfl | rfl <;> first | rfl | exact absurd rfl hne)
theorem cSet2 (v : Int32) : (cW q cI cO I F).set 1 (q 1, .inr (1, [.ref (q 14), .int (I 2)].set 1 (.int v))) = cW q cI cO (upd I 2 v) F := cW_set 1 (by decide) rfl (by
  intro j hj hne
  by_cases h : 14 ≤ j
  · rw [cE_arr j h, cE_arr j h]
  · have hc : j = 0 ∨ j = 1 ∨ j = 2 ∨ j = 3 ∨ j = 4 ∨ j = 5 ∨ j = 6 ∨ j = 7 ∨ j = 8 ∨ j = 9 ∨ j = 10 ∨ j = 11 ∨ j = 12 ∨ j = 13 := by omega
    rcases hc with rfl | rfl | rfl | rfl | rfl | rfl | rfl | rfl | rfl | rfl | rfl | rfl | rfl | rfl <;> first | rfl | exact absurd rfl hne)
theorem cSet3 (v : Int32) : (cW q cI cO I F).set 2 (q 2, .inr (5, [.ref (q 3), .int (I 3), .int (I 4)].set 1 (.int v))) = cW q cI cO (upd I 3 v) F := cW_set 2 (by decide) rfl (by
  intro j hj hne
  by_cases h : 14 ≤ j
  · rw [cE_arr j h, cE_arr j h]
  · have hc : j = 0 ∨ j = 1 ∨ j = 2 ∨ j = 3 ∨ j = 4 ∨ j = 5 ∨ j = 6 ∨ j = 7 ∨ j = 8 ∨ j = 9 ∨ j = 10 ∨ j = 11 ∨ j = 12 ∨ j = 13 := by omega
    rcases hc with rfl | rfl | rfl | rfl | rfl | rfl | rfl | rfl | rfl | rfl | rfl | rfl | rfl | rfl <;> first | rfl | exact absurd rfl hne)
theorem cSet4 (v : Int32) : (cW q cI cO I F).set 2 (q 2, .inr (5, [.ref (q 3), .int (I 3), .int (I 4)].set 2 (.int v))) = cW q cI cO (upd I 4 v) F := cW_set 2 (by decide) rfl (by
  intro j hj hne
  by_cases h : 14 ≤ j
  · rw [cE_arr j h, cE_arr j h]
  · have hc : j = 0 ∨ j = 1 ∨ j = 2 ∨ j = 3 ∨ j = 4 ∨ j = 5 ∨ j = 6 ∨ j = 7 ∨ j = 8 ∨ j = 9 ∨ j = 10 ∨ j = 11 ∨ j = 12 ∨ j = 13 := by omega
    rcases hc with rfl | rfl | rfl | rfl | rfl | rfl | rfl | rfl | rfl | rfl | rfl | rfl | rfl | rfl <;> first | rfl | exact absurd rfl hne)
theorem cSet5 (v : Int32) : (cW q cI cO I F).set 3 (q 3, .inr (2, [.int (I 5), .int (I 6), .ref (q 15), .ref (q 16)].set 0 (.int v))) = cW q cI cO (upd I 5 v) F := cW_set 3 (by decide) rfl (by
  intro j hj hne
  by_cases h : 14 ≤ j
  · rw [cE_arr j h, cE_arr j h]
  · have hc : j = 0 ∨ j = 1 ∨ j = 2 ∨ j = 3 ∨ j = 4 ∨ j = 5 ∨ j = 6 ∨ j = 7 ∨ j = 8 ∨ j = 9 ∨ j = 10 ∨ j = 11 ∨ j = 12 ∨ j = 13 := by omega
    rcases hc with rfl | rfl | rfl | rfl | rfl | rfl | rfl | rfl | rfl | rfl | rfl | rfl | rfl | rfl <;> first | rfl | exact absurd rfl hne)
theorem cSet6 (v : Int32) : (cW q cI cO I F).set 3 (q 3, .inr (2, [.int (I 5), .int (I 6), .ref (q 15), .ref (q 16)].set 1 (.int v))) = cW q cI cO (upd I 6 v) F := cW_set 3 (by decide) rfl (by
  intro j hj hne
  by_cases h : 14 ≤ j
  · rw [cE_arr j h, cE_arr j h]
  · have hc : j = 0 ∨ j = 1 ∨ j = 2 ∨ j = 3 ∨ j = 4 ∨ j = 5 ∨ j = 6 ∨ j = 7 ∨ j = 8 ∨ j = 9 ∨ j = 10 ∨ j = 11 ∨ j = 12 ∨ j = 13 := by omega
    rcases hc with rfl | rfl | rfl | rfl | rfl | rfl | rfl | rfl | rfl | rfl | rfl | rfl | rfl | rfl <;> first | rfl | exact absurd rfl hne)
theorem cSet7 (v : Int32) : (cW q cI cO I F).set 4 (q 4, .inr (2, [.int (I 7), .int (I 8), .ref (q 17), .ref (q 18)].set 0 (.int v))) = cW q cI cO (upd I 7 v) F := cW_set 4 (by decide) rfl (by
  intro j hj hne
  by_cases h : 14 ≤ j
  · rw [cE_arr j h, cE_arr j h]
  · have hc : j = 0 ∨ j = 1 ∨ j = 2 ∨ j = 3 ∨ j = 4 ∨ j = 5 ∨ j = 6 ∨ j = 7 ∨ j = 8 ∨ j = 9 ∨ j = 10 ∨ j = 11 ∨ j = 12 ∨ j = 13 := by omega
    rcases hc with rfl | rfl | rfl | rfl | rfl | rfl | rfl | rfl | rfl | rfl | rfl | rfl | rfl | rfl <;> first | rfl | exact absurd rfl hne)
theorem cSet8 (v : Int32) : (cW q cI cO I F).set 4 (q 4, .inr (2, [.int (I 7), .int (I 8), .ref (q 17), .ref (q 18)].set 1 (.int v))) = cW q cI cO (upd I 8 v) F := cW_set 4 (by decide) rfl (by
  intro j hj hne
  by_cases h : 14 ≤ j
  · rw [cE_arr j h, cE_arr j h]
  · have hc : j = 0 ∨ j = 1 ∨ j = 2 ∨ j = 3 ∨ j = 4 ∨ j = 5 ∨ j = 6 ∨ j = 7 ∨ j = 8 ∨ j = 9 ∨ j = 10 ∨ j = 11 ∨ j = 12 ∨ j = 13 := by omega
    rcases hc with rfl | rfl | rfl | rfl | rfl | rfl | rfl | rfl | rfl | rfl | rfl | rfl | rfl | rfl <;> first | rfl | exact absurd rfl hne)
theorem cSet9 (v : Int32) : (cW q cI cO I F).set 5 (q 5, .inr (2, [.int (I 9), .int (I 10), .ref (q 19), .ref (q 20)].set 0 (.int v))) = cW q cI cO (upd I 9 v) F := cW_set 5 (by decide) rfl (by
  intro j hj hne
  by_cases h : 14 ≤ j
  · rw [cE_arr j h, cE_arr j h]
  · have hc : j = 0 ∨ j = 1 ∨ j = 2 ∨ j = 3 ∨ j = 4 ∨ j = 5 ∨ j = 6 ∨ j = 7 ∨ j = 8 ∨ j = 9 ∨ j = 10 ∨ j = 11 ∨ j = 12 ∨ j = 13 := by omega
    rcases hc with rfl | rfl | rfl | rfl | rfl | rfl | rfl | rfl | rfl | rfl | rfl | rfl | rfl | rfl <;> first | rfl | exact absurd rfl hne)
theorem cSet10 (v : Int32) : (cW q cI cO I F).set 5 (q 5, .inr (2, [.int (I 9), .int (I 10), .ref (q 19), .ref (q 20)].set 1 (.int v))) = cW q cI cO (upd I 10 v) F := cW_set 5 (by decide) rfl (by
  intro j hj hne
  by_cases h : 14 ≤ j
  · rw [cE_arr j h, cE_arr j h]
  · have hc : j = 0 ∨ j = 1 ∨ j = 2 ∨ j = 3 ∨ j = 4 ∨ j = 5 ∨ j = 6 ∨ j = 7 ∨ j = 8 ∨ j = 9 ∨ j = 10 ∨ j = 11 ∨ j = 12 ∨ j = 13 := by omega
    rcases hc with rfl | rfl | rfl | rfl | rfl | rfl | rfl | rfl | rfl | rfl | rfl | rfl | rfl | rfl <;> first | rfl | exact absurd rfl hne)
theorem cSet11 (v : Int32) : (cW q cI cO I F).set 6 (q 6, .inr (6, [.int (I 11), .ref (q 21), .ref (q 22)].set 0 (.int v))) = cW q cI cO (upd I 11 v) F := cW_set 6 (by decide) rfl (by
  intro j hj hne
  by_cases h : 14 ≤ j
  · rw [cE_arr j h, cE_arr j h]
  · have hc : j = 0 ∨ j = 1 ∨ j = 2 ∨ j = 3 ∨ j = 4 ∨ j = 5 ∨ j = 6 ∨ j = 7 ∨ j = 8 ∨ j = 9 ∨ j = 10 ∨ j = 11 ∨ j = 12 ∨ j = 13 := by omega
    rcases hc with rfl | rfl | rfl | rfl | rfl | rfl | rfl | rfl | rfl | rfl | rfl | rfl | rfl | rfl <;> first | rfl | exact absurd rfl hne)
theorem cSet12 (v : Int32) : (cW q cI cO I F).set 7 (q 7, .inr (6, [.int (I 12), .ref (q 23), .ref (q 24)].set 0 (.int v))) = cW q cI cO (upd I 12 v) F := cW_set 7 (by decide) rfl (by
  intro j hj hne
  by_cases h : 14 ≤ j
  · rw [cE_arr j h, cE_arr j h]
  · have hc : j = 0 ∨ j = 1 ∨ j = 2 ∨ j = 3 ∨ j = 4 ∨ j = 5 ∨ j = 6 ∨ j = 7 ∨ j = 8 ∨ j = 9 ∨ j = 10 ∨ j = 11 ∨ j = 12 ∨ j = 13 := by omega
    rcases hc with rfl | rfl | rfl | rfl | rfl | rfl | rfl | rfl | rfl | rfl | rfl | rfl | rfl | rfl <;> first | rfl | exact absurd rfl hne)
theorem cSet13 (v : Int32) : (cW q cI cO I F).set 9 (q 9, .inr (3, [.ref (q 8), .ref (q 10), .ref (q 28), .ref (q 29), .ref (q 30), .ref (q 13), .ref (q 26), .ref (q 27), .int (I 13), .int (I 14), .int (I 15), .int (I 16)].set 8 (.int v))) = cW q cI cO (upd I 13 v) F := cW_set 9 (by decide) rfl (by
  intro j hj hne
  by_cases h : 14 ≤ j
  · rw [cE_arr j h, cE_arr j h]
  · have hc : j = 0 ∨ j = 1 ∨ j = 2 ∨ j = 3 ∨ j = 4 ∨ j = 5 ∨ j = 6 ∨ j = 7 ∨ j = 8 ∨ j = 9 ∨ j = 10 ∨ j = 11 ∨ j = 12 ∨ j = 13 := by omega
    rcases hc with rfl | rfl | rfl | rfl | rfl | rfl | rfl | rfl | rfl | rfl | rfl | rfl | rfl | rfl <;> first | rfl | exact absurd rfl hne)
theorem cSet14 (v : Int32) : (cW q cI cO I F).set 9 (q 9, .inr (3, [.ref (q 8), .ref (q 10), .ref (q 28), .ref (q 29), .ref (q 30), .ref (q 13), .ref (q 26), .ref (q 27), .int (I 13), .int (I 14), .int (I 15), .int (I 16)].set 9 (.int v))) = cW q cI cO (upd I 14 v) F := cW_set 9 (by decide) rfl (by
  intro j hj hne
  by_cases h : 14 ≤ j
  · rw [cE_arr j h, cE_arr j h]
  · have hc : j = 0 ∨ j = 1 ∨ j = 2 ∨ j = 3 ∨ j = 4 ∨ j = 5 ∨ j = 6 ∨ j = 7 ∨ j = 8 ∨ j = 9 ∨ j = 10 ∨ j = 11 ∨ j = 12 ∨ j = 13 := by omega
    rcases hc with rfl | rfl | rfl | rfl | rfl | rfl | rfl | rfl | rfl | rfl | rfl | rfl | rfl | rfl <;> first | rfl | exact absurd rfl hne)
theorem cSet15 (v : Int32) : (cW q cI cO I F).set 9 (q 9, .inr (3, [.ref (q 8), .ref (q 10), .ref (q 28), .ref (q 29), .ref (q 30), .ref (q 13), .ref (q 26), .ref (q 27), .int (I 13), .int (I 14), .int (I 15), .int (I 16)].set 10 (.int v))) = cW q cI cO (upd I 15 v) F := cW_set 9 (by decide) rfl (by
  intro j hj hne
  by_cases h : 14 ≤ j
  · rw [cE_arr j h, cE_arr j h]
  · have hc : j = 0 ∨ j = 1 ∨ j = 2 ∨ j = 3 ∨ j = 4 ∨ j = 5 ∨ j = 6 ∨ j = 7 ∨ j = 8 ∨ j = 9 ∨ j = 10 ∨ j = 11 ∨ j = 12 ∨ j = 13 := by omega
    rcases hc with rfl | rfl | rfl | rfl | rfl | rfl | rfl | rfl | rfl | rfl | rfl | rfl | rfl | rfl <;> first | rfl | exact absurd rfl hne)
theorem cSet16 (v : Int32) : (cW q cI cO I F).set 9 (q 9, .inr (3, [.ref (q 8), .ref (q 10), .ref (q 28), .ref (q 29), .ref (q 30), .ref (q 13), .ref (q 26), .ref (q 27), .int (I 13), .int (I 14), .int (I 15), .int (I 16)].set 11 (.int v))) = cW q cI cO (upd I 16 v) F := cW_set 9 (by decide) rfl (by
  intro j hj hne
  by_cases h : 14 ≤ j
  · rw [cE_arr j h, cE_arr j h]
  · have hc : j = 0 ∨ j = 1 ∨ j = 2 ∨ j = 3 ∨ j = 4 ∨ j = 5 ∨ j = 6 ∨ j = 7 ∨ j = 8 ∨ j = 9 ∨ j = 10 ∨ j = 11 ∨ j = 12 ∨ j = 13 := by omega
    rcases hc with rfl | rfl | rfl | rfl | rfl | rfl | rfl | rfl | rfl | rfl | rfl | rfl | rfl | rfl <;> first | rfl | exact absurd rfl hne)
theorem cSet17 (v : Int32) : (cW q cI cO I F).set 10 (q 10, .inr (0, [.int (I 17), .int (I 18)].set 0 (.int v))) = cW q cI cO (upd I 17 v) F := cW_set 10 (by decide) rfl (by
  intro j hj hne
  by_cases h : 14 ≤ j
  · rw [cE_arr j h, cE_arr j h]
  · have hc : j = 0 ∨ j = 1 ∨ j = 2 ∨ j = 3 ∨ j = 4 ∨ j = 5 ∨ j = 6 ∨ j = 7 ∨ j = 8 ∨ j = 9 ∨ j = 10 ∨ j = 11 ∨ j = 12 ∨ j = 13 := by omega
    rcases hc with rfl | rfl | rfl | rfl | rfl | rfl | rfl | rfl | rfl | rfl | rfl | rfl | rfl | rfl <;> first | rfl | exact absurd rfl hne)
theorem cSet18 (v : Int32) : (cW q cI cO I F).set 10 (q 10, .inr (0, [.int (I 17), .int (I 18)].set 1 (.int v))) = cW q cI cO (upd I 18 v) F := cW_set 10 (by decide) rfl (by
  intro j hj hne
  by_cases h : 14 ≤ j
  · rw [cE_arr j h, cE_arr j h]
  · have hc : j = 0 ∨ j = 1 ∨ j = 2 ∨ j = 3 ∨ j = 4 ∨ j = 5 ∨ j = 6 ∨ j = 7 ∨ j = 8 ∨ j = 9 ∨ j = 10 ∨ j = 11 ∨ j = 12 ∨ j = 13 := by omega
    rcases hc with rfl | rfl | rfl | rfl | rfl | rfl | rfl | rfl | rfl | rfl | rfl | rfl | rfl | rfl <;> first | rfl | exact absurd rfl hne)
theorem cSet19 (v : Int32) : (cW q cI cO I F).set 11 (q 11, .inr (4, [.ref (q 8), .ref (q 12), .int (I 19), .int (I 20), .int (I 21), .int (I 22)].set 2 (.int v))) = cW q cI cO (upd I 19 v) F := cW_set 11 (by decide) rfl (by
  intro j hj hne
  by_cases h : 14 ≤ j
  · rw [cE_arr j h, cE_arr j h]
  · have hc : j = 0 ∨ j = 1 ∨ j = 2 ∨ j = 3 ∨ j = 4 ∨ j = 5 ∨ j = 6 ∨ j = 7 ∨ j = 8 ∨ j = 9 ∨ j = 10 ∨ j = 11 ∨ j = 12 ∨ j = 13 := by omega
    rcases hc with rfl | rfl | rfl | rfl | rfl | rfl | rfl | rfl | rfl | rfl | rfl | rfl | rfl | rfl <;> first | rfl | exact absurd rfl hne)
theorem cSet20 (v : Int32) : (cW q cI cO I F).set 11 (q 11, .inr (4, [.ref (q 8), .ref (q 12), .int (I 19), .int (I 20), .int (I 21), .int (I 22)].set 3 (.int v))) = cW q cI cO (upd I 20 v) F := cW_set 11 (by decide) rfl (by
  intro j hj hne
  by_cases h : 14 ≤ j
  · rw [cE_arr j h, cE_arr j h]
  · have hc : j = 0 ∨ j = 1 ∨ j = 2 ∨ j = 3 ∨ j = 4 ∨ j = 5 ∨ j = 6 ∨ j = 7 ∨ j = 8 ∨ j = 9 ∨ j = 10 ∨ j = 11 ∨ j = 12 ∨ j = 13 := by omega
    rcases hc with rfl | rfl | rfl | rfl | rfl | rfl | rfl | rfl | rfl | rfl | rfl | rfl | rfl | rfl <;> first | rfl | exact absurd rfl hne)
theorem cSet21 (v : Int32) : (cW q cI cO I F).set 11 (q 11, .inr (4, [.ref (q 8), .ref (q 12), .int (I 19), .int (I 20), .int (I 21), .int (I 22)].set 4 (.int v))) = cW q cI cO (upd I 21 v) F := cW_set 11 (by decide) rfl (by
  intro j hj hne
  by_cases h : 14 ≤ j
  · rw [cE_arr j h, cE_arr j h]
  · have hc : j = 0 ∨ j = 1 ∨ j = 2 ∨ j = 3 ∨ j = 4 ∨ j = 5 ∨ j = 6 ∨ j = 7 ∨ j = 8 ∨ j = 9 ∨ j = 10 ∨ j = 11 ∨ j = 12 ∨ j = 13 := by omega
    rcases hc with rfl | rfl | rfl | rfl | rfl | rfl | rfl | rfl | rfl | rfl | rfl | rfl | rfl | rfl <;> first | rfl | exact absurd rfl hne)
theorem cSet22 (v : Int32) : (cW q cI cO I F).set 11 (q 11, .inr (4, [.ref (q 8), .ref (q 12), .int (I 19), .int (I 20), .int (I 21), .int (I 22)].set 5 (.int v))) = cW q cI cO (upd I 22 v) F := cW_set 11 (by decide) rfl (by
  intro j hj hne
  by_cases h : 14 ≤ j
  · rw [cE_arr j h, cE_arr j h]
  · have hc : j = 0 ∨ j = 1 ∨ j = 2 ∨ j = 3 ∨ j = 4 ∨ j = 5 ∨ j = 6 ∨ j = 7 ∨ j = 8 ∨ j = 9 ∨ j = 10 ∨ j = 11 ∨ j = 12 ∨ j = 13 := by omega
    rcases hc with rfl | rfl | rfl | rfl | rfl | rfl | rfl | rfl | rfl | rfl | rfl | rfl | rfl | rfl <;> first | rfl | exact absurd rfl hne)
theorem cSet23 (v : Int32) : (cW q cI cO I F).set 12 (q 12, .inr (0, [.int (I 23), .int (I 24)].set 0 (.int v))) = cW q cI cO (upd I 23 v) F := cW_set 12 (by decide) rfl (by
  intro j hj hne
  by_cases h : 14 ≤ j
  · rw [cE_arr j h, cE_arr j h]
  · have hc : j = 0 ∨ j = 1 ∨ j = 2 ∨ j = 3 ∨ j = 4 ∨ j = 5 ∨ j = 6 ∨ j = 7 ∨ j = 8 ∨ j = 9 ∨ j = 10 ∨ j = 11 ∨ j = 12 ∨ j = 13 := by omega
    rcases hc with rfl | rfl | rfl | rfl | rfl | rfl | rfl | rfl | rfl | rfl | rfl | rfl | rfl | rfl <;> first | rfl | exact absurd rfl hne)
theorem cSet24 (v : Int32) : (cW q cI cO I F).set 12 (q 12, .inr (0, [.int (I 23), .int (I 24)].set 1 (.int v))) = cW q cI cO (upd I 24 v) F := cW_set 12 (by decide) rfl (by
  intro j hj hne
  by_cases h : 14 ≤ j
  · rw [cE_arr j h, cE_arr j h]
  · have hc : j = 0 ∨ j = 1 ∨ j = 2 ∨ j = 3 ∨ j = 4 ∨ j = 5 ∨ j = 6 ∨ j = 7 ∨ j = 8 ∨ j = 9 ∨ j = 10 ∨ j = 11 ∨ j = 12 ∨ j = 13 := by omega
    rcases hc with rfl | rfl | rfl | rfl | rfl | rfl | rfl | rfl | rfl | rfl | rfl | rfl | rfl | rfl <;> first | rfl | exact absurd rfl hne)
end
def mlen (k : Nat) : Nat := if k = 1 then 7 else if k = 2 then 7 else if k = 3 then 15309 else if k = 4 then 63 else if k = 5 then 63 else if k = 6 then 63 else if k = 7 then 63 else if k = 8 then 63 else if k = 9 then 63 else if k = 10 then 137781 else if k = 11 then 56 else if k = 16 then 17496 else if k = 17 then 17496 else if k = 18 then 17496 else if k = 19 then 17496 else if k = 22 then 18 else if k = 25 then 18 else 8
def mE (q : Nat → Nat) (cI cO : ClassId) (I : Nat → Int32) (F : Nat → Nat → Int32) (h : Int64) (k : Nat) : va_E := match k with
  | 0 => .inr (9, [.ref (q 1), .ref (q 2), .ref (q 3), .ref (q 4), .ref (q 5), .ref (q 6), .ref (q 7), .ref (q 8), .ref (q 9), .ref (q 10), .ref (q 11), .int (I 0), .int (I 1), .int (I 2), .ref (q 12), .ref (q 13), .int (I 3), .int (I 4), .int (I 5), .ref (q 14), .ref (q 15), .int (I 6), .ref (q 16), .ref (q 17), .ref (q 18), .ref (q 19), .int (I 7), .int (I 8), .int (I 9), .ref (q 20), .ref (q 21), .int (I 10), .int (I 11), .ref (q 22), .int (I 12), .int (I 13), .int (I 14), .int (I 15), .int (I 16), .int (I 17), .ref (q 23), .ref (q 24), .ref (q 25), .long h])
  | k => .inl (cI, mlen k, .inl (F k))
def mW (q : Nat → Nat) (cI cO : ClassId) (I : Nat → Int32) (F : Nat → Nat → Int32) (h : Int64) : va_W := (List.range 26).map (fun k => (q k, mE q cI cO I F h k))
def mA (q : Nat → Nat) : Nat → Prop := fun x => ∃ k : Nat, k < 26 ∧ x = q k
def mOk (q : Nat → Nat) : Prop := ∀ i j : Nat, i < 26 → j < 26 → q i = q j → i = j
section
variable {q : Nat → Nat} {cI cO : ClassId} {I I2 : Nat → Int32} {F F2 : Nat → Nat → Int32} {h h2 : Int64}
theorem mW_at (k : Nat) (hk : k < 26) : (mW q cI cO I F h)[k]? = some (q k, mE q cI cO I F h k) := by unfold mW; rw [List.getElem?_map, List.getElem?_range hk]; rfl
theorem mW_set (k : Nat) (hk : k < 26) {e : va_E} (he : e = mE q cI cO I2 F2 h2 k) (ho : ∀ j : Nat, j < 26 → j ≠ k → mE q cI cO I F h j = mE q cI cO I2 F2 h2 j) : (mW q cI cO I F h).set k (q k, e) = mW q cI cO I2 F2 h2 := by
  apply List.ext_getElem?
  intro j
  rw [List.getElem?_set]
  have hlen : (mW q cI cO I F h).length = 26 := by unfold mW; rw [List.length_map, List.length_range]
  by_cases hj : j < 26
  · by_cases hjk : k = j
    · subst hjk
      rw [if_pos rfl, if_pos (by rw [hlen]; exact hj), mW_at k hj, he]
    · rw [if_neg hjk, mW_at j hj, mW_at j hj, ho j hj (fun q => hjk q.symm)]
  · rw [if_neg (by omega), List.getElem?_eq_none (by rw [hlen]; omega), List.getElem?_eq_none (by unfold mW; rw [List.length_map, List.length_range]; omega)]
theorem mD (hq : mOk q) : va_D (mA q) (mW q cI cO I F h) := by
  have hlen : (mW q cI cO I F h).length = 26 := by unfold mW; rw [List.length_map, List.length_range]
  have hat : ∀ (i : Nat) (x : Nat × va_E), (mW q cI cO I F h)[i]? = some x → i < 26 ∧ x.1 = q i := fun i x hx => by
    have hi : i < 26 := by rw [← hlen]; exact (List.getElem?_eq_some_iff.mp hx).1
    rw [mW_at i hi] at hx
    cases hx
    exact ⟨hi, rfl⟩
  refine ⟨fun i j x y hi hj hxy => ?_, fun k x hk => ?_⟩
  · obtain ⟨a1, a2⟩ := hat i x hi
    obtain ⟨b1, b2⟩ := hat j y hj
    exact hq i j a1 b1 (by rw [← a2, ← b2]; exact hxy)
  · obtain ⟨a1, a2⟩ := hat k x hk
    exact ⟨k, a1, a2⟩
theorem mAt0 : (mW q cI cO I F h)[0]? = some (q 0, .inr (9, [.ref (q 1), .ref (q 2), .ref (q 3), .ref (q 4), .ref (q 5), .ref (q 6), .ref (q 7), .ref (q 8), .ref (q 9), .ref (q 10), .ref (q 11), .int (I 0), .int (I 1), .int (I 2), .ref (q 12), .ref (q 13), .int (I 3), .int (I 4), .int (I 5), .ref (q 14), .ref (q 15), .int (I 6), .ref (q 16), .ref (q 17), .ref (q 18), .ref (q 19), .int (I 7), .int (I 8), .int (I 9), .ref (q 20), .ref (q 21), .int (I 10), .int (I 11), .ref (q 22), .int (I 12), .int (I 13), .int (I 14), .int (I 15), .int (I 16), .int (I 17), .ref (q 23), .ref (q 24), .ref (q 25), .long h])) := mW_at 0 (by decide)
theorem mE_arr (k : Nat) (h1 : 1 ≤ k) : mE q cI cO I F h k = .inl (cI, mlen k, .inl (F k)) := by
  unfold mE
  split <;> first | omega | rfl
theorem mAr (k : Nat) (h1 : 1 ≤ k) (hk : k < 26) : (mW q cI cO I F h)[k]? = some (q k, .inl (cI, mlen k, .inl (F k))) := by rw [mW_at k hk, mE_arr k h1]
theorem mAr1 : (mW q cI cO I F h)[1]? = some (q 1, .inl (cI, 7, .inl (F 1))) := mAr 1 (by decide) (by decide)
theorem mAr2 : (mW q cI cO I F h)[2]? = some (q 2, .inl (cI, 7, .inl (F 2))) := mAr 2 (by decide) (by decide)
theorem mAr3 : (mW q cI cO I F h)[3]? = some (q 3, .inl (cI, 15309, .inl (F 3))) := mAr 3 (by decide) (by decide)
theorem mAr4 : (mW q cI cO I F h)[4]? = some (q 4, .inl (cI, 63, .inl (F 4))) := mAr 4 (by decide) (by decide)
theorem mAr5 : (mW q cI cO I F h)[5]? = some (q 5, .inl (cI, 63, .inl (F 5))) := mAr 5 (by decide) (by decide)
theorem mAr6 : (mW q cI cO I F h)[6]? = some (q 6, .inl (cI, 63, .inl (F 6))) := mAr 6 (by decide) (by decide)
theorem mAr7 : (mW q cI cO I F h)[7]? = some (q 7, .inl (cI, 63, .inl (F 7))) := mAr 7 (by decide) (by decide)
theorem mAr8 : (mW q cI cO I F h)[8]? = some (q 8, .inl (cI, 63, .inl (F 8))) := mAr 8 (by decide) (by decide)
theorem mAr9 : (mW q cI cO I F h)[9]? = some (q 9, .inl (cI, 63, .inl (F 9))) := mAr 9 (by decide) (by decide)
theorem mAr10 : (mW q cI cO I F h)[10]? = some (q 10, .inl (cI, 137781, .inl (F 10))) := mAr 10 (by decide) (by decide)
theorem mAr11 : (mW q cI cO I F h)[11]? = some (q 11, .inl (cI, 56, .inl (F 11))) := mAr 11 (by decide) (by decide)
theorem mAr12 : (mW q cI cO I F h)[12]? = some (q 12, .inl (cI, 8, .inl (F 12))) := mAr 12 (by decide) (by decide)
theorem mAr13 : (mW q cI cO I F h)[13]? = some (q 13, .inl (cI, 8, .inl (F 13))) := mAr 13 (by decide) (by decide)
theorem mAr14 : (mW q cI cO I F h)[14]? = some (q 14, .inl (cI, 8, .inl (F 14))) := mAr 14 (by decide) (by decide)
theorem mAr15 : (mW q cI cO I F h)[15]? = some (q 15, .inl (cI, 8, .inl (F 15))) := mAr 15 (by decide) (by decide)
theorem mAr16 : (mW q cI cO I F h)[16]? = some (q 16, .inl (cI, 17496, .inl (F 16))) := mAr 16 (by decide) (by decide)
theorem mAr17 : (mW q cI cO I F h)[17]? = some (q 17, .inl (cI, 17496, .inl (F 17))) := mAr 17 (by decide) (by decide)
theorem mAr18 : (mW q cI cO I F h)[18]? = some (q 18, .inl (cI, 17496, .inl (F 18))) := mAr 18 (by decide) (by decide)
theorem mAr19 : (mW q cI cO I F h)[19]? = some (q 19, .inl (cI, 17496, .inl (F 19))) := mAr 19 (by decide) (by decide)
theorem mAr20 : (mW q cI cO I F h)[20]? = some (q 20, .inl (cI, 8, .inl (F 20))) := mAr 20 (by decide) (by decide)
theorem mAr21 : (mW q cI cO I F h)[21]? = some (q 21, .inl (cI, 8, .inl (F 21))) := mAr 21 (by decide) (by decide)
theorem mAr22 : (mW q cI cO I F h)[22]? = some (q 22, .inl (cI, 18, .inl (F 22))) := mAr 22 (by decide) (by decide)
theorem mAr23 : (mW q cI cO I F h)[23]? = some (q 23, .inl (cI, 8, .inl (F 23))) := mAr 23 (by decide) (by decide)
theorem mAr24 : (mW q cI cO I F h)[24]? = some (q 24, .inl (cI, 8, .inl (F 24))) := mAr 24 (by decide) (by decide)
theorem mAr25 : (mW q cI cO I F h)[25]? = some (q 25, .inl (cI, 18, .inl (F 25))) := mAr 25 (by decide) (by decide)
theorem mE_low (g : Nat → Int32) (k : Nat) (h1 : 1 ≤ k) : ∀ j : Nat, j < 26 → j ≠ k → mE q cI cO I F h j = mE q cI cO I (upF F k g) h j := by
  intro j hj hne
  by_cases h : 1 ≤ j
  · rw [mE_arr j h, mE_arr j h, upF_n F g hne]
  · have hc : j = 0 := by omega
    subst hc; rfl
theorem mSetA (k : Nat) (h1 : 1 ≤ k) (hk : k < 26) (g : Nat → Int32) : (mW q cI cO I F h).set k (q k, .inl (cI, mlen k, .inl g)) = mW q cI cO I (upF F k g) h := mW_set k hk (by rw [mE_arr k h1, upF_s]) (mE_low g k h1)
theorem mSA1 (g : Nat → Int32) : (mW q cI cO I F h).set 1 (q 1, .inl (cI, 7, .inl g)) = mW q cI cO I (upF F 1 g) h := mSetA 1 (by decide) (by decide) g
theorem mSA2 (g : Nat → Int32) : (mW q cI cO I F h).set 2 (q 2, .inl (cI, 7, .inl g)) = mW q cI cO I (upF F 2 g) h := mSetA 2 (by decide) (by decide) g
theorem mSA3 (g : Nat → Int32) : (mW q cI cO I F h).set 3 (q 3, .inl (cI, 15309, .inl g)) = mW q cI cO I (upF F 3 g) h := mSetA 3 (by decide) (by decide) g
theorem mSA4 (g : Nat → Int32) : (mW q cI cO I F h).set 4 (q 4, .inl (cI, 63, .inl g)) = mW q cI cO I (upF F 4 g) h := mSetA 4 (by decide) (by decide) g
theorem mSA5 (g : Nat → Int32) : (mW q cI cO I F h).set 5 (q 5, .inl (cI, 63, .inl g)) = mW q cI cO I (upF F 5 g) h := mSetA 5 (by decide) (by decide) g
theorem mSA6 (g : Nat → Int32) : (mW q cI cO I F h).set 6 (q 6, .inl (cI, 63, .inl g)) = mW q cI cO I (upF F 6 g) h := mSetA 6 (by decide) (by decide) g
theorem mSA7 (g : Nat → Int32) : (mW q cI cO I F h).set 7 (q 7, .inl (cI, 63, .inl g)) = mW q cI cO I (upF F 7 g) h := mSetA 7 (by decide) (by decide) g
theorem mSA8 (g : Nat → Int32) : (mW q cI cO I F h).set 8 (q 8, .inl (cI, 63, .inl g)) = mW q cI cO I (upF F 8 g) h := mSetA 8 (by decide) (by decide) g
theorem mSA9 (g : Nat → Int32) : (mW q cI cO I F h).set 9 (q 9, .inl (cI, 63, .inl g)) = mW q cI cO I (upF F 9 g) h := mSetA 9 (by decide) (by decide) g
theorem mSA10 (g : Nat → Int32) : (mW q cI cO I F h).set 10 (q 10, .inl (cI, 137781, .inl g)) = mW q cI cO I (upF F 10 g) h := mSetA 10 (by decide) (by decide) g
theorem mSA11 (g : Nat → Int32) : (mW q cI cO I F h).set 11 (q 11, .inl (cI, 56, .inl g)) = mW q cI cO I (upF F 11 g) h := mSetA 11 (by decide) (by decide) g
theorem mSA12 (g : Nat → Int32) : (mW q cI cO I F h).set 12 (q 12, .inl (cI, 8, .inl g)) = mW q cI cO I (upF F 12 g) h := mSetA 12 (by decide) (by decide) g
theorem mSA13 (g : Nat → Int32) : (mW q cI cO I F h).set 13 (q 13, .inl (cI, 8, .inl g)) = mW q cI cO I (upF F 13 g) h := mSetA 13 (by decide) (by decide) g
theorem mSA14 (g : Nat → Int32) : (mW q cI cO I F h).set 14 (q 14, .inl (cI, 8, .inl g)) = mW q cI cO I (upF F 14 g) h := mSetA 14 (by decide) (by decide) g
theorem mSA15 (g : Nat → Int32) : (mW q cI cO I F h).set 15 (q 15, .inl (cI, 8, .inl g)) = mW q cI cO I (upF F 15 g) h := mSetA 15 (by decide) (by decide) g
theorem mSA16 (g : Nat → Int32) : (mW q cI cO I F h).set 16 (q 16, .inl (cI, 17496, .inl g)) = mW q cI cO I (upF F 16 g) h := mSetA 16 (by decide) (by decide) g
theorem mSA17 (g : Nat → Int32) : (mW q cI cO I F h).set 17 (q 17, .inl (cI, 17496, .inl g)) = mW q cI cO I (upF F 17 g) h := mSetA 17 (by decide) (by decide) g
theorem mSA18 (g : Nat → Int32) : (mW q cI cO I F h).set 18 (q 18, .inl (cI, 17496, .inl g)) = mW q cI cO I (upF F 18 g) h := mSetA 18 (by decide) (by decide) g
theorem mSA19 (g : Nat → Int32) : (mW q cI cO I F h).set 19 (q 19, .inl (cI, 17496, .inl g)) = mW q cI cO I (upF F 19 g) h := mSetA 19 (by decide) (by decide) g
theorem mSA20 (g : Nat → Int32) : (mW q cI cO I F h).set 20 (q 20, .inl (cI, 8, .inl g)) = mW q cI cO I (upF F 20 g) h := mSetA 20 (by decide) (by decide) g
theorem mSA21 (g : Nat → Int32) : (mW q cI cO I F h).set 21 (q 21, .inl (cI, 8, .inl g)) = mW q cI cO I (upF F 21 g) h := mSetA 21 (by decide) (by decide) g
theorem mSA22 (g : Nat → Int32) : (mW q cI cO I F h).set 22 (q 22, .inl (cI, 18, .inl g)) = mW q cI cO I (upF F 22 g) h := mSetA 22 (by decide) (by decide) g
theorem mSA23 (g : Nat → Int32) : (mW q cI cO I F h).set 23 (q 23, .inl (cI, 8, .inl g)) = mW q cI cO I (upF F 23 g) h := mSetA 23 (by decide) (by decide) g
theorem mSA24 (g : Nat → Int32) : (mW q cI cO I F h).set 24 (q 24, .inl (cI, 8, .inl g)) = mW q cI cO I (upF F 24 g) h := mSetA 24 (by decide) (by decide) g
theorem mSA25 (g : Nat → Int32) : (mW q cI cO I F h).set 25 (q 25, .inl (cI, 18, .inl g)) = mW q cI cO I (upF F 25 g) h := mSetA 25 (by decide) (by decide) g
theorem mSet0 (v : Int32) : (mW q cI cO I F h).set 0 (q 0, .inr (9, [.ref (q 1), .ref (q 2), .ref (q 3), .ref (q 4), .ref (q 5), .ref (q 6), .ref (q 7), .ref (q 8), .ref (q 9), .ref (q 10), .ref (q 11), .int (I 0), .int (I 1), .int (I 2), .ref (q 12), .ref (q 13), .int (I 3), .int (I 4), .int (I 5), .ref (q 14), .ref (q 15), .int (I 6), .ref (q 16), .ref (q 17), .ref (q 18), .ref (q 19), .int (I 7), .int (I 8), .int (I 9), .ref (q 20), .ref (q 21), .int (I 10), .int (I 11), .ref (q 22), .int (I 12), .int (I 13), .int (I 14), .int (I 15), .int (I 16), .int (I 17), .ref (q 23), .ref (q 24), .ref (q 25), .long h].set 11 (.int v))) = mW q cI cO (upd I 0 v) F h := mW_set 0 (by decide) rfl (by
  intro j hj hne
  by_cases h : 1 ≤ j
  · rw [mE_arr j h, mE_arr j h]
  · have hc : j = 0 := by omega
    exact absurd hc hne)
theorem mSet1 (v : Int32) : (mW q cI cO I F h).set 0 (q 0, .inr (9, [.ref (q 1), .ref (q 2), .ref (q 3), .ref (q 4), .ref (q 5), .ref (q 6), .ref (q 7), .ref (q 8), .ref (q 9), .ref (q 10), .ref (q 11), .int (I 0), .int (I 1), .int (I 2), .ref (q 12), .ref (q 13), .int (I 3), .int (I 4), .int (I 5), .ref (q 14), .ref (q 15), .int (I 6), .ref (q 16), .ref (q 17), .ref (q 18), .ref (q 19), .int (I 7), .int (I 8), .int (I 9), .ref (q 20), .ref (q 21), .int (I 10), .int (I 11), .ref (q 22), .int (I 12), .int (I 13), .int (I 14), .int (I 15), .int (I 16), .int (I 17), .ref (q 23), .ref (q 24), .ref (q 25), .long h].set 12 (.int v))) = mW q cI cO (upd I 1 v) F h := mW_set 0 (by decide) rfl (by
  intro j hj hne
  by_cases h : 1 ≤ j
  · rw [mE_arr j h, mE_arr j h]
  · have hc : j = 0 := by omega
    exact absurd hc hne)
theorem mSet2 (v : Int32) : (mW q cI cO I F h).set 0 (q 0, .inr (9, [.ref (q 1), .ref (q 2), .ref (q 3), .ref (q 4), .ref (q 5), .ref (q 6), .ref (q 7), .ref (q 8), .ref (q 9), .ref (q 10), .ref (q 11), .int (I 0), .int (I 1), .int (I 2), .ref (q 12), .ref (q 13), .int (I 3), .int (I 4), .int (I 5), .ref (q 14), .ref (q 15), .int (I 6), .ref (q 16), .ref (q 17), .ref (q 18), .ref (q 19), .int (I 7), .int (I 8), .int (I 9), .ref (q 20), .ref (q 21), .int (I 10), .int (I 11), .ref (q 22), .int (I 12), .int (I 13), .int (I 14), .int (I 15), .int (I 16), .int (I 17), .ref (q 23), .ref (q 24), .ref (q 25), .long h].set 13 (.int v))) = mW q cI cO (upd I 2 v) F h := mW_set 0 (by decide) rfl (by
  intro j hj hne
  by_cases h : 1 ≤ j
  · rw [mE_arr j h, mE_arr j h]
  · have hc : j = 0 := by omega
    exact absurd hc hne)
theorem mSet3 (v : Int32) : (mW q cI cO I F h).set 0 (q 0, .inr (9, [.ref (q 1), .ref (q 2), .ref (q 3), .ref (q 4), .ref (q 5), .ref (q 6), .ref (q 7), .ref (q 8), .ref (q 9), .ref (q 10), .ref (q 11), .int (I 0), .int (I 1), .int (I 2), .ref (q 12), .ref (q 13), .int (I 3), .int (I 4), .int (I 5), .ref (q 14), .ref (q 15), .int (I 6), .ref (q 16), .ref (q 17), .ref (q 18), .ref (q 19), .int (I 7), .int (I 8), .int (I 9), .ref (q 20), .ref (q 21), .int (I 10), .int (I 11), .ref (q 22), .int (I 12), .int (I 13), .int (I 14), .int (I 15), .int (I 16), .int (I 17), .ref (q 23), .ref (q 24), .ref (q 25), .long h].set 16 (.int v))) = mW q cI cO (upd I 3 v) F h := mW_set 0 (by decide) rfl (by
  intro j hj hne
  by_cases h : 1 ≤ j
  · rw [mE_arr j h, mE_arr j h]
  · have hc : j = 0 := by omega
    exact absurd hc hne)
theorem mSet4 (v : Int32) : (mW q cI cO I F h).set 0 (q 0, .inr (9, [.ref (q 1), .ref (q 2), .ref (q 3), .ref (q 4), .ref (q 5), .ref (q 6), .ref (q 7), .ref (q 8), .ref (q 9), .ref (q 10), .ref (q 11), .int (I 0), .int (I 1), .int (I 2), .ref (q 12), .ref (q 13), .int (I 3), .int (I 4), .int (I 5), .ref (q 14), .ref (q 15), .int (I 6), .ref (q 16), .ref (q 17), .ref (q 18), .ref (q 19), .int (I 7), .int (I 8), .int (I 9), .ref (q 20), .ref (q 21), .int (I 10), .int (I 11), .ref (q 22), .int (I 12), .int (I 13), .int (I 14), .int (I 15), .int (I 16), .int (I 17), .ref (q 23), .ref (q 24), .ref (q 25), .long h].set 17 (.int v))) = mW q cI cO (upd I 4 v) F h := mW_set 0 (by decide) rfl (by
  intro j hj hne
  by_cases h : 1 ≤ j
  · rw [mE_arr j h, mE_arr j h]
  · have hc : j = 0 := by omega
    exact absurd hc hne)
theorem mSet5 (v : Int32) : (mW q cI cO I F h).set 0 (q 0, .inr (9, [.ref (q 1), .ref (q 2), .ref (q 3), .ref (q 4), .ref (q 5), .ref (q 6), .ref (q 7), .ref (q 8), .ref (q 9), .ref (q 10), .ref (q 11), .int (I 0), .int (I 1), .int (I 2), .ref (q 12), .ref (q 13), .int (I 3), .int (I 4), .int (I 5), .ref (q 14), .ref (q 15), .int (I 6), .ref (q 16), .ref (q 17), .ref (q 18), .ref (q 19), .int (I 7), .int (I 8), .int (I 9), .ref (q 20), .ref (q 21), .int (I 10), .int (I 11), .ref (q 22), .int (I 12), .int (I 13), .int (I 14), .int (I 15), .int (I 16), .int (I 17), .ref (q 23), .ref (q 24), .ref (q 25), .long h].set 18 (.int v))) = mW q cI cO (upd I 5 v) F h := mW_set 0 (by decide) rfl (by
  intro j hj hne
  by_cases h : 1 ≤ j
  · rw [mE_arr j h, mE_arr j h]
  · have hc : j = 0 := by omega
    exact absurd hc hne)
theorem mSet6 (v : Int32) : (mW q cI cO I F h).set 0 (q 0, .inr (9, [.ref (q 1), .ref (q 2), .ref (q 3), .ref (q 4), .ref (q 5), .ref (q 6), .ref (q 7), .ref (q 8), .ref (q 9), .ref (q 10), .ref (q 11), .int (I 0), .int (I 1), .int (I 2), .ref (q 12), .ref (q 13), .int (I 3), .int (I 4), .int (I 5), .ref (q 14), .ref (q 15), .int (I 6), .ref (q 16), .ref (q 17), .ref (q 18), .ref (q 19), .int (I 7), .int (I 8), .int (I 9), .ref (q 20), .ref (q 21), .int (I 10), .int (I 11), .ref (q 22), .int (I 12), .int (I 13), .int (I 14), .int (I 15), .int (I 16), .int (I 17), .ref (q 23), .ref (q 24), .ref (q 25), .long h].set 21 (.int v))) = mW q cI cO (upd I 6 v) F h := mW_set 0 (by decide) rfl (by
  intro j hj hne
  by_cases h : 1 ≤ j
  · rw [mE_arr j h, mE_arr j h]
  · have hc : j = 0 := by omega
    exact absurd hc hne)
theorem mSet7 (v : Int32) : (mW q cI cO I F h).set 0 (q 0, .inr (9, [.ref (q 1), .ref (q 2), .ref (q 3), .ref (q 4), .ref (q 5), .ref (q 6), .ref (q 7), .ref (q 8), .ref (q 9), .ref (q 10), .ref (q 11), .int (I 0), .int (I 1), .int (I 2), .ref (q 12), .ref (q 13), .int (I 3), .int (I 4), .int (I 5), .ref (q 14), .ref (q 15), .int (I 6), .ref (q 16), .ref (q 17), .ref (q 18), .ref (q 19), .int (I 7), .int (I 8), .int (I 9), .ref (q 20), .ref (q 21), .int (I 10), .int (I 11), .ref (q 22), .int (I 12), .int (I 13), .int (I 14), .int (I 15), .int (I 16), .int (I 17), .ref (q 23), .ref (q 24), .ref (q 25), .long h].set 26 (.int v))) = mW q cI cO (upd I 7 v) F h := mW_set 0 (by decide) rfl (by
  intro j hj hne
  by_cases h : 1 ≤ j
  · rw [mE_arr j h, mE_arr j h]
  · have hc : j = 0 := by omega
    exact absurd hc hne)
theorem mSet8 (v : Int32) : (mW q cI cO I F h).set 0 (q 0, .inr (9, [.ref (q 1), .ref (q 2), .ref (q 3), .ref (q 4), .ref (q 5), .ref (q 6), .ref (q 7), .ref (q 8), .ref (q 9), .ref (q 10), .ref (q 11), .int (I 0), .int (I 1), .int (I 2), .ref (q 12), .ref (q 13), .int (I 3), .int (I 4), .int (I 5), .ref (q 14), .ref (q 15), .int (I 6), .ref (q 16), .ref (q 17), .ref (q 18), .ref (q 19), .int (I 7), .int (I 8), .int (I 9), .ref (q 20), .ref (q 21), .int (I 10), .int (I 11), .ref (q 22), .int (I 12), .int (I 13), .int (I 14), .int (I 15), .int (I 16), .int (I 17), .ref (q 23), .ref (q 24), .ref (q 25), .long h].set 27 (.int v))) = mW q cI cO (upd I 8 v) F h := mW_set 0 (by decide) rfl (by
  intro j hj hne
  by_cases h : 1 ≤ j
  · rw [mE_arr j h, mE_arr j h]
  · have hc : j = 0 := by omega
    exact absurd hc hne)
theorem mSet9 (v : Int32) : (mW q cI cO I F h).set 0 (q 0, .inr (9, [.ref (q 1), .ref (q 2), .ref (q 3), .ref (q 4), .ref (q 5), .ref (q 6), .ref (q 7), .ref (q 8), .ref (q 9), .ref (q 10), .ref (q 11), .int (I 0), .int (I 1), .int (I 2), .ref (q 12), .ref (q 13), .int (I 3), .int (I 4), .int (I 5), .ref (q 14), .ref (q 15), .int (I 6), .ref (q 16), .ref (q 17), .ref (q 18), .ref (q 19), .int (I 7), .int (I 8), .int (I 9), .ref (q 20), .ref (q 21), .int (I 10), .int (I 11), .ref (q 22), .int (I 12), .int (I 13), .int (I 14), .int (I 15), .int (I 16), .int (I 17), .ref (q 23), .ref (q 24), .ref (q 25), .long h].set 28 (.int v))) = mW q cI cO (upd I 9 v) F h := mW_set 0 (by decide) rfl (by
  intro j hj hne
  by_cases h : 1 ≤ j
  · rw [mE_arr j h, mE_arr j h]
  · have hc : j = 0 := by omega
    exact absurd hc hne)
theorem mSet10 (v : Int32) : (mW q cI cO I F h).set 0 (q 0, .inr (9, [.ref (q 1), .ref (q 2), .ref (q 3), .ref (q 4), .ref (q 5), .ref (q 6), .ref (q 7), .ref (q 8), .ref (q 9), .ref (q 10), .ref (q 11), .int (I 0), .int (I 1), .int (I 2), .ref (q 12), .ref (q 13), .int (I 3), .int (I 4), .int (I 5), .ref (q 14), .ref (q 15), .int (I 6), .ref (q 16), .ref (q 17), .ref (q 18), .ref (q 19), .int (I 7), .int (I 8), .int (I 9), .ref (q 20), .ref (q 21), .int (I 10), .int (I 11), .ref (q 22), .int (I 12), .int (I 13), .int (I 14), .int (I 15), .int (I 16), .int (I 17), .ref (q 23), .ref (q 24), .ref (q 25), .long h].set 31 (.int v))) = mW q cI cO (upd I 10 v) F h := mW_set 0 (by decide) rfl (by
  intro j hj hne
  by_cases h : 1 ≤ j
  · rw [mE_arr j h, mE_arr j h]
  · have hc : j = 0 := by omega
    exact absurd hc hne)
theorem mSet11 (v : Int32) : (mW q cI cO I F h).set 0 (q 0, .inr (9, [.ref (q 1), .ref (q 2), .ref (q 3), .ref (q 4), .ref (q 5), .ref (q 6), .ref (q 7), .ref (q 8), .ref (q 9), .ref (q 10), .ref (q 11), .int (I 0), .int (I 1), .int (I 2), .ref (q 12), .ref (q 13), .int (I 3), .int (I 4), .int (I 5), .ref (q 14), .ref (q 15), .int (I 6), .ref (q 16), .ref (q 17), .ref (q 18), .ref (q 19), .int (I 7), .int (I 8), .int (I 9), .ref (q 20), .ref (q 21), .int (I 10), .int (I 11), .ref (q 22), .int (I 12), .int (I 13), .int (I 14), .int (I 15), .int (I 16), .int (I 17), .ref (q 23), .ref (q 24), .ref (q 25), .long h].set 32 (.int v))) = mW q cI cO (upd I 11 v) F h := mW_set 0 (by decide) rfl (by
  intro j hj hne
  by_cases h : 1 ≤ j
  · rw [mE_arr j h, mE_arr j h]
  · have hc : j = 0 := by omega
    exact absurd hc hne)
theorem mSet12 (v : Int32) : (mW q cI cO I F h).set 0 (q 0, .inr (9, [.ref (q 1), .ref (q 2), .ref (q 3), .ref (q 4), .ref (q 5), .ref (q 6), .ref (q 7), .ref (q 8), .ref (q 9), .ref (q 10), .ref (q 11), .int (I 0), .int (I 1), .int (I 2), .ref (q 12), .ref (q 13), .int (I 3), .int (I 4), .int (I 5), .ref (q 14), .ref (q 15), .int (I 6), .ref (q 16), .ref (q 17), .ref (q 18), .ref (q 19), .int (I 7), .int (I 8), .int (I 9), .ref (q 20), .ref (q 21), .int (I 10), .int (I 11), .ref (q 22), .int (I 12), .int (I 13), .int (I 14), .int (I 15), .int (I 16), .int (I 17), .ref (q 23), .ref (q 24), .ref (q 25), .long h].set 34 (.int v))) = mW q cI cO (upd I 12 v) F h := mW_set 0 (by decide) rfl (by
  intro j hj hne
  by_cases h : 1 ≤ j
  · rw [mE_arr j h, mE_arr j h]
  · have hc : j = 0 := by omega
    exact absurd hc hne)
theorem mSet13 (v : Int32) : (mW q cI cO I F h).set 0 (q 0, .inr (9, [.ref (q 1), .ref (q 2), .ref (q 3), .ref (q 4), .ref (q 5), .ref (q 6), .ref (q 7), .ref (q 8), .ref (q 9), .ref (q 10), .ref (q 11), .int (I 0), .int (I 1), .int (I 2), .ref (q 12), .ref (q 13), .int (I 3), .int (I 4), .int (I 5), .ref (q 14), .ref (q 15), .int (I 6), .ref (q 16), .ref (q 17), .ref (q 18), .ref (q 19), .int (I 7), .int (I 8), .int (I 9), .ref (q 20), .ref (q 21), .int (I 10), .int (I 11), .ref (q 22), .int (I 12), .int (I 13), .int (I 14), .int (I 15), .int (I 16), .int (I 17), .ref (q 23), .ref (q 24), .ref (q 25), .long h].set 35 (.int v))) = mW q cI cO (upd I 13 v) F h := mW_set 0 (by decide) rfl (by
  intro j hj hne
  by_cases h : 1 ≤ j
  · rw [mE_arr j h, mE_arr j h]
  · have hc : j = 0 := by omega
    exact absurd hc hne)
theorem mSet14 (v : Int32) : (mW q cI cO I F h).set 0 (q 0, .inr (9, [.ref (q 1), .ref (q 2), .ref (q 3), .ref (q 4), .ref (q 5), .ref (q 6), .ref (q 7), .ref (q 8), .ref (q 9), .ref (q 10), .ref (q 11), .int (I 0), .int (I 1), .int (I 2), .ref (q 12), .ref (q 13), .int (I 3), .int (I 4), .int (I 5), .ref (q 14), .ref (q 15), .int (I 6), .ref (q 16), .ref (q 17), .ref (q 18), .ref (q 19), .int (I 7), .int (I 8), .int (I 9), .ref (q 20), .ref (q 21), .int (I 10), .int (I 11), .ref (q 22), .int (I 12), .int (I 13), .int (I 14), .int (I 15), .int (I 16), .int (I 17), .ref (q 23), .ref (q 24), .ref (q 25), .long h].set 36 (.int v))) = mW q cI cO (upd I 14 v) F h := mW_set 0 (by decide) rfl (by
  intro j hj hne
  by_cases h : 1 ≤ j
  · rw [mE_arr j h, mE_arr j h]
  · have hc : j = 0 := by omega
    exact absurd hc hne)
theorem mSet15 (v : Int32) : (mW q cI cO I F h).set 0 (q 0, .inr (9, [.ref (q 1), .ref (q 2), .ref (q 3), .ref (q 4), .ref (q 5), .ref (q 6), .ref (q 7), .ref (q 8), .ref (q 9), .ref (q 10), .ref (q 11), .int (I 0), .int (I 1), .int (I 2), .ref (q 12), .ref (q 13), .int (I 3), .int (I 4), .int (I 5), .ref (q 14), .ref (q 15), .int (I 6), .ref (q 16), .ref (q 17), .ref (q 18), .ref (q 19), .int (I 7), .int (I 8), .int (I 9), .ref (q 20), .ref (q 21), .int (I 10), .int (I 11), .ref (q 22), .int (I 12), .int (I 13), .int (I 14), .int (I 15), .int (I 16), .int (I 17), .ref (q 23), .ref (q 24), .ref (q 25), .long h].set 37 (.int v))) = mW q cI cO (upd I 15 v) F h := mW_set 0 (by decide) rfl (by
  intro j hj hne
  by_cases h : 1 ≤ j
  · rw [mE_arr j h, mE_arr j h]
  · have hc : j = 0 := by omega
    exact absurd hc hne)
theorem mSet16 (v : Int32) : (mW q cI cO I F h).set 0 (q 0, .inr (9, [.ref (q 1), .ref (q 2), .ref (q 3), .ref (q 4), .ref (q 5), .ref (q 6), .ref (q 7), .ref (q 8), .ref (q 9), .ref (q 10), .ref (q 11), .int (I 0), .int (I 1), .int (I 2), .ref (q 12), .ref (q 13), .int (I 3), .int (I 4), .int (I 5), .ref (q 14), .ref (q 15), .int (I 6), .ref (q 16), .ref (q 17), .ref (q 18), .ref (q 19), .int (I 7), .int (I 8), .int (I 9), .ref (q 20), .ref (q 21), .int (I 10), .int (I 11), .ref (q 22), .int (I 12), .int (I 13), .int (I 14), .int (I 15), .int (I 16), .int (I 17), .ref (q 23), .ref (q 24), .ref (q 25), .long h].set 38 (.int v))) = mW q cI cO (upd I 16 v) F h := mW_set 0 (by decide) rfl (by
  intro j hj hne
  by_cases h : 1 ≤ j
  · rw [mE_arr j h, mE_arr j h]
  · have hc : j = 0 := by omega
    exact absurd hc hne)
theorem mSet17 (v : Int32) : (mW q cI cO I F h).set 0 (q 0, .inr (9, [.ref (q 1), .ref (q 2), .ref (q 3), .ref (q 4), .ref (q 5), .ref (q 6), .ref (q 7), .ref (q 8), .ref (q 9), .ref (q 10), .ref (q 11), .int (I 0), .int (I 1), .int (I 2), .ref (q 12), .ref (q 13), .int (I 3), .int (I 4), .int (I 5), .ref (q 14), .ref (q 15), .int (I 6), .ref (q 16), .ref (q 17), .ref (q 18), .ref (q 19), .int (I 7), .int (I 8), .int (I 9), .ref (q 20), .ref (q 21), .int (I 10), .int (I 11), .ref (q 22), .int (I 12), .int (I 13), .int (I 14), .int (I 15), .int (I 16), .int (I 17), .ref (q 23), .ref (q 24), .ref (q 25), .long h].set 39 (.int v))) = mW q cI cO (upd I 17 v) F h := mW_set 0 (by decide) rfl (by
  intro j hj hne
  by_cases h : 1 ≤ j
  · rw [mE_arr j h, mE_arr j h]
  · have hc : j = 0 := by omega
    exact absurd hc hne)
theorem mSetH (v : Int64) : (mW q cI cO I F h).set 0 (q 0, .inr (9, [.ref (q 1), .ref (q 2), .ref (q 3), .ref (q 4), .ref (q 5), .ref (q 6), .ref (q 7), .ref (q 8), .ref (q 9), .ref (q 10), .ref (q 11), .int (I 0), .int (I 1), .int (I 2), .ref (q 12), .ref (q 13), .int (I 3), .int (I 4), .int (I 5), .ref (q 14), .ref (q 15), .int (I 6), .ref (q 16), .ref (q 17), .ref (q 18), .ref (q 19), .int (I 7), .int (I 8), .int (I 9), .ref (q 20), .ref (q 21), .int (I 10), .int (I 11), .ref (q 22), .int (I 12), .int (I 13), .int (I 14), .int (I 15), .int (I 16), .int (I 17), .ref (q 23), .ref (q 24), .ref (q 25), .long h].set 43 (.long v))) = mW q cI cO I F v := mW_set 0 (by decide) rfl (by
  intro j hj hne
  have h9 : 1 ≤ j := by omega
  rw [mE_arr j h9, mE_arr j h9])
end
theorem clen_row {r : Nat} (h : 28 ≤ r) : clen r = 2187 := by unfold clen; rw [if_neg (by omega), if_neg (by omega), if_neg (by omega), if_neg (by omega), if_neg (by omega)]
theorem cRow {q : Nat → Nat} {cI cO : ClassId} {I : Nat → Int32} {F : Nat → Nat → Int32} {r : Nat} (h : 28 ≤ r ∧ r < 39) : (cW q cI cO I F)[r]? = some (q r, .inl (cI, 2187, .inl (F r))) := by rw [cAr r (by omega) h.2, clen_row h.1]
theorem cSetRow {q : Nat → Nat} {cI cO : ClassId} {I : Nat → Int32} {F : Nat → Nat → Int32} {r : Nat} (h : 28 ≤ r ∧ r < 39) (g : Nat → Int32) : (cW q cI cO I F).set r (q r, .inl (cI, 2187, .inl g)) = cW q cI cO I (upF F r g) := by rw [← clen_row h.1]; exact cSetA r (by omega) h.2 g
theorem cOut {q : Nat → Nat} {cI cO : ClassId} {I : Nat → Int32} {F : Nat → Nat → Int32} : (cW q cI cO I F)[13]? = some (q 13, .inl (cO, 8, .inr (.inr (.inr (.inr (fun i => if i < 8 then some (q (31 + i)) else none)))))) := cW_at 13 (by decide)
theorem cOutRow {i : Int32} (h : vp_in i 8) : 28 ≤ 31 + i.toNatClampNeg ∧ 31 + i.toNatClampNeg < 39 := by
  have h1 : i.toNatClampNeg < 8 := Nat.not_le.mp (fun z => h (Or.inr z))
  omega
theorem cOutAt {q : Nat → Nat} {i : Int32} (h : vp_in i 8) : (fun i : Nat => if i < 8 then some (q (31 + i)) else none) i.toNatClampNeg = some (q (31 + i.toNatClampNeg)) := if_pos (Nat.not_le.mp fun z => h (Or.inr z))
def tabN (j : Nat) : Int32 := if j = 0 then 2 else if j = 1 then 0 else if j = 2 then 11 else if j = 3 then 4 else if j = 4 then 5 else if j = 5 then 7 else 9
def tabW (j : Nat) : Int32 := if j = 0 then 729 else if j = 1 then 243 else if j = 2 then 81 else if j = 3 then 27 else if j = 4 then 9 else if j = 5 then 3 else 1
def tabK (j : Nat) : Int32 := if j = 0 then 29 else if j = 1 then 11 else if j = 2 then 7 else 15
def cNF : List (String × Nat × String × String × String) := [("HarpPedals", 236, "HarpPedals$Page", "codes", "[I"), ("HarpPedals", 70, "HarpPedals$Page", "size", "I"), ("HarpPedals$Reader", 49, "HarpPedals$Part", "begin", "I"), ("HarpPedals$Planner", 88, "HarpPedals$Part", "begin", "I"), ("HarpPedals", 142, "HarpPedals$Part", "begin", "I"), ("HarpPedals$Planner", 60, "HarpPedals$Part", "size", "I"), ("HarpPedals", 102, "HarpPedals$Part", "size", "I"), ("HarpPedals$Reader", 56, "HarpPedals$Part", "size", "I"), ("HarpPedals", 106, "HarpPedals$Part", "kinds", "[I"), ("HarpPedals$Planner", 96, "HarpPedals$Part", "kinds", "[I"), ("HarpPedals", 110, "HarpPedals$Part", "tones", "[I"), ("HarpPedals$Planner", 99, "HarpPedals$Part", "tones", "[I"), ("HarpPedals", 86, "HarpPedals$Reader", "draft", "LHarpPedals$Part;"), ("HarpPedals", 201, "HarpPedals$Seen", "size", "I"), ("HarpPedals$Planner", 144, "HarpPedals$Gap", "mostMoves", "I"), ("HarpPedals", 212, "HarpPedals$Player", "seed", "I"), ("HarpPedals", 206, "HarpPedals$Player", "chordsPlayed", "I"), ("HarpPedals", 209, "HarpPedals$Player", "moves", "I"), ("HarpPedals$Planner", 169, "HarpPedals$Settings", "WEIGHTS", "[I")]
def cNM : List (String × Nat × MethodName) := [("HarpPedals", 9, ⟨"HarpPedals$Page", "<init>", "()V"⟩), ("HarpPedals", 18, ⟨"HarpPedals$Reader", "<init>", "()V"⟩), ("HarpPedals$Reader", 11, ⟨"HarpPedals$Part", "<init>", "()V"⟩), ("HarpPedals", 25, ⟨"HarpPedals$Part", "<init>", "()V"⟩), ("HarpPedals", 35, ⟨"HarpPedals$Seen", "<init>", "()V"⟩), ("HarpPedals$Planner", 13, ⟨"HarpPedals$Gap", "<init>", "()V"⟩), ("HarpPedals$Player", 11, ⟨"HarpPedals$Gap", "<init>", "()V"⟩), ("HarpPedals$Reader", 46, ⟨"HarpPedals", "isPosition", "(I)Z"⟩), ("HarpPedals$Planner", 137, ⟨"HarpPedals", "isHeld", "(I)Z"⟩), ("HarpPedals$Planner", 102, ⟨"HarpPedals", "raised", "(II)I"⟩), ("HarpPedals$Part", 35, ⟨"HarpPedals", "raised", "(II)I"⟩)]
def cNest (U : State) : Prop := (∀ x ∈ cNF, va_Nw (.fieldLinkNest x.1 x.2.1 x.2.2.1 x.2.2.2.1 x.2.2.2.2 "HarpPedals") U) ∧ ∀ x ∈ cNM, va_Nw (.methodLinkNest x.1 x.2.1 x.2.2 "HarpPedals") U
def cTab (q : Nat → Nat) (C n : String) (j N : Nat) (f : Nat → Int32) (U : State) : Prop := va_Z C n "[I" (.ref (q j)) (cA q) U U.heap ∧ va_T .int (q j) N (fun i => .int (f i)) (cA q) U U.heap
def cEnv (q : Nat → Nat) (U : State) : Prop := cNest U ∧ cTab q "HarpPedals$Settings" "NATURAL_TONES" 39 7 tabN U ∧ cTab q "HarpPedals$Settings" "WEIGHTS" 40 7 tabW U ∧ cTab q "HarpPedals$Seen" "KINDS_THAT_COULD" 41 4 tabK U
theorem cTab_same {q : Nat → Nat} {C n : String} {j N : Nat} {f : Nat → Int32} {U U' : State} (h1 : U.vm = U'.vm) (h2 : U.heap = U'.heap) (h : cTab q C n j N f U) : cTab q C n j N f U' := by
  unfold cTab
  rw [← h2]
  exact ⟨va_Z.moved (h1 ▸ Vm.Alike.refl U.vm) h.1, va_T.moved (h1 ▸ Vm.Alike.refl U.vm) h.2⟩
theorem cTab_on {q : Nat → Nat} {C n : String} {j N : Nat} {f : Nat → Int32} {s U : State} (hW : s.WarmedH U.vm) (hk : ∀ a : Nat, a < s.heap.size → ¬ cA q a → U.heap[a]? = s.heap[a]?) (h : cTab q C n j N f s) : cTab q C n j N f U :=
  ⟨(va_Z.moved hW.alike h.1).kept hk, (va_T.moved hW.alike h.2).kept hk⟩
theorem cEok {q : Nat → Nat} : gEok (cEnv q) (cA q) :=
  ⟨fun U U' h1 h2 h => ⟨⟨fun x hx => va_Nw.same rfl h1 (h.1.1 x hx), fun x hx => va_Nw.same rfl h1 (h.1.2 x hx)⟩, cTab_same h1 h2 h.2.1, cTab_same h1 h2 h.2.2.1, cTab_same h1 h2 h.2.2.2⟩,
   fun s U hW _ hk h => ⟨⟨fun x hx => va_Nw.warmF hW (h.1.1 x hx), fun x hx => va_Nw.warmM hW (h.1.2 x hx)⟩, cTab_on hW hk h.2.1, cTab_on hW hk h.2.2.1, cTab_on hW hk h.2.2.2⟩⟩
def mEnv (_ : State) : Prop := True
theorem mEok {q : Nat → Nat} : gEok mEnv (mA q) := ⟨fun _ _ _ _ _ => trivial, fun _ _ _ _ _ _ => trivial⟩
abbrev cTys (cI cO : ClassId) : List (ClassId × FieldType) := [(cI, .int), (cO, .array .int)]
abbrev mTys (cI : ClassId) : List (ClassId × FieldType) := [(cI, .int)]
abbrev cS : Type := (Nat → Int32) × (Nat → Nat → Int32)
abbrev mS : Type := (Nat → Int32) × (Nat → Nat → Int32) × Int64
