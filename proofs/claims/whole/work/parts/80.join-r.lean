/-! the reference's digest; joint: digest -/
def MK (n b : Nat) (I : Nat → Int32) (F : Nat → Nat → Int32) (I2 : Nat → Int32) (F2 : Nat → Nat → Int32) : Prop := kI [6, 7, 8, 9] I I2 ∧ kF [16, 17, 18, 19, 20, 21] F F2 ∧ (0 < n → cacheM n b I2 F2)
theorem MK_step {n b : Nat} {I J J2 : Nat → Int32} {F L L2 : Nat → Nat → Int32} (h : MK n b I F J L) (b1 : kI [6, 7, 8, 9] J J2) (b2 : kF [16, 17, 18, 19, 20, 21] L L2) (b3 : cacheM n b J2 L2) : MK n b I F J2 L2 := ⟨kI_trans h.1 b1, kF_trans h.2.1 b2, fun _ => b3⟩
theorem MK_tab {n b : Nat} {I J : Nat → Int32} {F L : Nat → Nat → Int32} (h : MK n b I F J L) (hM : mTab F) : mTab L := mTab_of (fun j hj => h.2.1 j (by simp; omega)) hM
theorem m_dgC {n b w k : Nat} {A B : Nat → Int32} {x : Int64} {I J : Nat → Int32} {F L : Nat → Nat → Int32} {kk : Int32 → (Nat → Int32) → (Nat → Nat → Int32) → Int64 → Prop} (hM : mTab F) (hn : n ≤ 8) (hk : k < n) (hw : w ≤ 6) (m3 : I 3 = nI n) (m4 : I 4 = nI b) (hb : b < 2187) (m11 : I 11 = nI w) (hS : SR w A B (F 22)) (hC : MK n b I F J L)
    (h : ∀ y J2 L2, MK n b I F J2 L2 → kk y J2 L2 (dgC (F 14) (F 15) A B w k x 6)) : gL (fun ag v => w_X9_digest_B19 (nI k) kk (fun b0 b1 b2 b3 => ag (b0, b1, b2, b3)) v.1 v.2.1 v.2.2.1 v.2.2.2) ((0 : Int32), J, L, x) := by
  refine gL_inv (fun j v => v.1 = nI j ∧ MK n b I F v.2.1 v.2.2.1 ∧ v.2.2.2 = dgC (F 14) (F 15) A B w k x j) 6 ?_ ?_ ⟨rfl, hC, rfl⟩
  · rintro j hj ⟨x1, J, L, z⟩ ⟨g1, gC, gz⟩ again hag
    dsimp only at g1 gz gC ⊢
    subst g1
    subst gz
    unfold w_X9_digest_B19
    refine ⟨fun q => absurd ((nI_leI (a := 6) (by omega) (by omega)).mp q) (by omega), fun _ => m_tellV (A := A) (B := B) (w := w) (MK_tab gC hM) hn hk hj hw (by rw [gC.1 3 (by decide)]; exact m3) (by rw [gC.1 4 (by decide)]; exact m4) hb (by rw [gC.1 11 (by decide)]; exact m11) (by rw [gC.2.1 22 (by decide)]; exact hS) (gC.2.2 (by omega)) (fun I2 F2 b1 b2 b3 => ?_)⟩
    unfold w_X9_say
    intro hs1 e1
    refine hag _ ⟨nI_1 j, MK_step gC b1 b2 b3, ?_⟩
    show hs1 = (31 : Int64) * dgC (F 14) (F 15) A B w k x j + (chV (F 14) (F 15) A B w k j).toInt64
    rw [e1, gC.2.1 14 (by decide), gC.2.1 15 (by decide)]
  · rintro ⟨x1, J, L, z⟩ ⟨g1, gC, gz⟩ again
    dsimp only at g1 gz gC ⊢
    subst g1
    subst gz
    unfold w_X9_digest_B19
    exact ⟨fun _ => h _ J L gC, fun q => absurd (by decide) q⟩
theorem m_dgK {n b w : Nat} {A B : Nat → Int32} {I : Nat → Int32} {F : Nat → Nat → Int32} {kk : Int32 → (Nat → Int32) → (Nat → Nat → Int32) → Int64 → Prop} (hM : mTab F) (hn : n ≤ 8) (hw : w ≤ 6) (m3 : I 3 = nI n) (m4 : I 4 = nI b) (hb : b < 2187) (m11 : I 11 = nI w) (hS : SR w A B (F 22)) (hc : 0 < n → cacheM n b I F)
    (h : ∀ y J2 L2, MK n b I F J2 L2 → kk y J2 L2 (dgK (F 14) (F 15) A B n b w n)) : gL (fun ag v => w_X9_digest_B9 kk (fun b0 b1 b2 b3 => ag (b0, b1, b2, b3)) v.1 v.2.1 v.2.2.1 v.2.2.2) ((0 : Int32), I, F, (1423 : Int64)) := by
  refine gL_inv (fun j v => v.1 = nI j ∧ MK n b I F v.2.1 v.2.2.1 ∧ v.2.2.2 = dgK (F 14) (F 15) A B n b w j) n ?_ ?_ ⟨rfl, ⟨fun _ _ => rfl, fun _ _ => rfl, hc⟩, rfl⟩
  · rintro j hj ⟨x1, J, L, z⟩ ⟨g1, gC, gz⟩ again hag
    dsimp only at g1 gz gC ⊢
    subst g1
    subst gz
    have d3 : J 3 = nI n := by rw [gC.1 3 (by decide)]; exact m3
    unfold w_X9_digest_B9
    refine ⟨fun q => absurd ((nI_leI (a := n) (b := j) (by omega) (by omega)).mp (by rw [← d3]; exact q)) (by omega), fun _ => m_dgC (A := A) (B := B) hM hn hj hw m3 m4 hb m11 hS gC (fun y J2 L2 gC2 => ?_)⟩
    refine m_settingOf (MK_tab gC2 hM) hn hj (by rw [gC2.1 3 (by decide)]; exact m3) (by rw [gC2.1 4 (by decide)]; exact m4) hb (gC2.2.2 (by omega)) (fun I3 F3 b1 b2 b3 => ?_)
    have gC3 := MK_step gC2 b1 b2 b3
    unfold w_X9_say
    intro hs1 e1
    refine m_reachOf (MK_tab gC3 hM) hn hj (by rw [gC3.1 3 (by decide)]; exact m3) (by rw [gC3.1 4 (by decide)]; exact m4) hb b3 (fun I4 F4 d1 d2 d4 hs2 e2 => hag _ ⟨nI_1 j, MK_step gC3 d1 d2 d4, ?_⟩)
    show hs2 = (31 : Int64) * ((31 : Int64) * dgC (F 14) (F 15) A B w j (dgK (F 14) (F 15) A B n b w j) 6 + (setI (F 14) (F 15) n b j).toInt64) + (nI (rc (F 14) (F 15) 0 b j)).toInt64
    rw [e2, e1, gC2.2.1 14 (by decide), gC2.2.1 15 (by decide), gC3.2.1 14 (by decide), gC3.2.1 15 (by decide)]
  · rintro ⟨x1, J, L, z⟩ ⟨g1, gC, gz⟩ again
    dsimp only at g1 gz gC ⊢
    subst g1
    subst gz
    have d3 : J 3 = nI n := by rw [gC.1 3 (by decide)]; exact m3
    unfold w_X9_digest_B9
    exact ⟨fun _ => h _ J L gC, fun q => absurd (by rw [d3]; exact Int32.le_refl _) q⟩
theorem m_countV {n b t w g p s f : Nat} {I : Nat → Int32} {F : Nat → Nat → Int32} {hs : Int64} {post : Int32 → Prop} (hM : mTab F) (hn : n ≤ 8) (hf : f < 7) (hb : b < 2187) (m3 : I 3 = nI n) (m4 : I 4 = nI b) (m11 : I 11 = nI w) (m0 : I 0 = nI g) (m5 : I 5 = nI p) (m10 : I 10 = nI s) (ht : t < 4096) (et : orN (F 15) n = nI t) (h : post (cntV n b t w g p s f)) : w_X9_countOf (nI f) I F hs post := by
  unfold w_X9_countOf
  rcases seven' hf with rfl | rfl | rfl | rfl | rfl | rfl | rfl
  · exact ⟨fun _ => by rw [m3]; exact h, fun x => absurd x (by decide), fun x => absurd x (by decide), fun x => absurd x (by decide), fun x => absurd x (by decide), fun x => absurd x (by decide), fun x => absurd x (by decide), fun x => absurd rfl x⟩
  · refine ⟨fun x => absurd x (by decide), fun _ => ?_, fun x => absurd x (by decide), fun x => absurd x (by decide), fun x => absurd x (by decide), fun x => absurd x (by decide), fun x => absurd x (by decide), fun _ x => absurd rfl x⟩
    have h2 : post (if n = 0 then -1 else nI (tellN b 7)) := h
    refine m_lacks0 m3 hn (fun z => ⟨fun _ => ?_, fun x => absurd rfl x⟩) (fun z => ⟨fun x => absurd x (by decide), fun _ => by rw [if_pos z] at h2; exact h2⟩)
    rw [if_neg (by omega)] at h2
    rw [m4]
    exact m_told hM hb h2
  · exact ⟨fun x => absurd x (by decide), fun x => absurd x (by decide), fun _ => m_tonesAll hn m3 ht et h, fun x => absurd x (by decide), fun x => absurd x (by decide), fun x => absurd x (by decide), fun x => absurd x (by decide), fun _ _ x => absurd rfl x⟩
  · exact ⟨fun x => absurd x (by decide), fun x => absurd x (by decide), fun x => absurd x (by decide), fun _ => by rw [m11]; exact h, fun x => absurd x (by decide), fun x => absurd x (by decide), fun x => absurd x (by decide), fun _ _ _ x => absurd rfl x⟩
  · exact ⟨fun x => absurd x (by decide), fun x => absurd x (by decide), fun x => absurd x (by decide), fun x => absurd x (by decide), fun _ => by rw [m0]; exact h, fun x => absurd x (by decide), fun x => absurd x (by decide), fun _ _ _ _ x => absurd rfl x⟩
  · exact ⟨fun x => absurd x (by decide), fun x => absurd x (by decide), fun x => absurd x (by decide), fun x => absurd x (by decide), fun x => absurd x (by decide), fun _ => by rw [m5]; exact h, fun x => absurd x (by decide), fun _ _ _ _ _ x => absurd rfl x⟩
  · exact ⟨fun x => absurd x (by decide), fun x => absurd x (by decide), fun x => absurd x (by decide), fun x => absurd x (by decide), fun x => absurd x (by decide), fun x => absurd x (by decide), fun _ => by rw [m10]; exact h, fun _ _ _ _ _ _ x => absurd rfl x⟩
