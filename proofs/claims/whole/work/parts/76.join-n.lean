/-! what is told of a chord, as a value; towards digest -/
noncomputable def askV (A B : Nat → Int32) (w : Nat) (a : Int32) : Int32 := if soN A B a w = 0 then -1 else (aqN (soN A B a w).toNatClampNeg 4).1
theorem askV_eq {A B : Nat → Int32} {w t : Nat} {a : Int32} (ht : t < 32) (e : soN A B a w = nI t) : (if t = 0 then (-1 : Int32) else (aqN t 4).1) = askV A B w a := by
  unfold askV
  rw [e, nI_clamp (by omega)]
  by_cases h : t = 0
  · rw [if_pos h, if_pos ((nI_is0 (by omega)).mpr h)]
  · rw [if_neg h, if_neg (fun z => h ((nI_is0 (by omega)).mp z))]
noncomputable def manyV (k t : Int32) : Int32 := nI (ffN (fitP k t) TOP).1
noncomputable def leastV (k t : Int32) : Int32 := if (ffN (fitP k t) TOP).1 = 0 then -1 else nI (tellN (ffN (fitP k t) TOP).2 7)
noncomputable def chV (K T A B : Nat → Int32) (w k f : Nat) : Int32 := if f = 0 then K k else if f = 1 then T k else if f = 2 then manyV (K k) (T k) else if f = 3 then leastV (K k) (T k) else if f = 4 then soN A B (nI k) w else askV A B w (nI k)
theorem chV_congr {K T K2 T2 A B : Nat → Int32} {w k f : Nat} (h1 : K k = K2 k) (h2 : T k = T2 k) : chV K T A B w k f = chV K2 T2 A B w k f := by
  unfold chV
  rw [h1, h2]
theorem six {f : Nat} (h : f < 6) : f = 0 ∨ f = 1 ∨ f = 2 ∨ f = 3 ∨ f = 4 ∨ f = 5 := by omega
theorem s_chordV {n w k f : Nat} {I : Nat → Int32} {F : Nat → Nat → Int32} {post : Int32 → Prop} (hn : n ≤ 8) (hk : k < n) (hf : f < 6) (hw : w ≤ 6) (c8 : I 8 = nI n) (c11 : I 11 = nI w) (hT : ∀ s, s < 2187 → F 25 s = hasR s 7) (h : post (chV (F 17) (F 18) (F 21) (F 22) w k f)) : w_X8_chord (nI k) (nI f) I F post := by
  unfold w_X8_chord
  have hv : vp_in (nI k) 8 := vp_in_nI (by omega) (by decide)
  refine s_has hn c8 hk ⟨fun _ => ?_, fun q => absurd q (by decide)⟩
  rw [nI_clamp (by omega)]
  rcases six hf with rfl | rfl | rfl | rfl | rfl | rfl
  · exact ⟨fun _ => ⟨hv, h⟩, fun x => absurd x (by decide), fun x => absurd x (by decide), fun x => absurd x (by decide), fun x => absurd x (by decide), fun x => absurd x (by decide), fun x => absurd rfl x⟩
  · exact ⟨fun x => absurd x (by decide), fun _ => ⟨hv, h⟩, fun x => absurd x (by decide), fun x => absurd x (by decide), fun x => absurd x (by decide), fun x => absurd x (by decide), fun _ x => absurd rfl x⟩
  · exact ⟨fun x => absurd x (by decide), fun x => absurd x (by decide), fun _ => ⟨hv, hv, s_many hT h⟩, fun x => absurd x (by decide), fun x => absurd x (by decide), fun x => absurd x (by decide), fun _ _ x => absurd rfl x⟩
  · exact ⟨fun x => absurd x (by decide), fun x => absurd x (by decide), fun x => absurd x (by decide), fun _ => ⟨hv, hv, s_leastFit hT (fun f ef => by subst ef; exact h)⟩, fun x => absurd x (by decide), fun x => absurd x (by decide), fun _ _ _ x => absurd rfl x⟩
  · exact ⟨fun x => absurd x (by decide), fun x => absurd x (by decide), fun x => absurd x (by decide), fun x => absurd x (by decide), fun _ => s_sorts hw c11 h, fun x => absurd x (by decide), fun _ _ _ _ x => absurd rfl x⟩
  · exact ⟨fun x => absurd x (by decide), fun x => absurd x (by decide), fun x => absurd x (by decide), fun x => absurd x (by decide), fun x => absurd x (by decide), fun _ => s_ask hw c11 (fun t ht et => by rw [askV_eq ht et]; exact h), fun _ _ _ _ _ x => absurd rfl x⟩
theorem m_tellV {n b w k f : Nat} {A B : Nat → Int32} {I : Nat → Int32} {F : Nat → Nat → Int32} {hs : Int64} {post : Int32 → (Nat → Int32) → (Nat → Nat → Int32) → Int64 → Prop} (hM : mTab F) (hn : n ≤ 8) (hk : k < n) (hf : f < 6) (hw : w ≤ 6) (m3 : I 3 = nI n) (m4 : I 4 = nI b) (hb : b < 2187) (m11 : I 11 = nI w) (hS : SR w A B (F 22)) (hc : cacheM n b I F)
    (h : ∀ I2 F2, kI [6, 7, 8, 9] I I2 → kF [16, 17, 18, 19, 20, 21] F F2 → cacheM n b I2 F2 → post (chV (F 14) (F 15) A B w k f) I2 F2 hs) : w_X9_tellChord (nI k) (nI f) I F hs post := by
  unfold w_X9_tellChord
  have hv : vp_in (nI k) 8 := vp_in_nI (by omega) (by decide)
  have h0 := h I F (fun _ _ => rfl) (fun _ _ => rfl) hc
  rw [nI_clamp (by omega)]
  rcases six hf with rfl | rfl | rfl | rfl | rfl | rfl
  · exact ⟨fun _ => ⟨hv, h0⟩, fun x => absurd x (by decide), fun x => absurd x (by decide), fun x => absurd x (by decide), fun x => absurd x (by decide), fun x => absurd x (by decide), fun x => absurd rfl x⟩
  · exact ⟨fun x => absurd x (by decide), fun _ => ⟨hv, h0⟩, fun x => absurd x (by decide), fun x => absurd x (by decide), fun x => absurd x (by decide), fun x => absurd x (by decide), fun _ x => absurd rfl x⟩
  · exact ⟨fun x => absurd x (by decide), fun x => absurd x (by decide), fun _ => m_fitting hM hn hk m3 m4 hb hc (fun I2 F2 f b1 b2 b3 ef => ⟨fun _ => by subst ef; exact h I2 F2 b1 b2 b3, fun x => absurd rfl x⟩), fun x => absurd x (by decide), fun x => absurd x (by decide), fun x => absurd x (by decide), fun _ _ x => absurd rfl x⟩
  · exact ⟨fun x => absurd x (by decide), fun x => absurd x (by decide), fun x => absurd x (by decide), fun _ => m_fitting hM hn hk m3 m4 hb hc (fun I2 F2 f b1 b2 b3 ef => ⟨fun x => absurd x (by decide), fun _ => by subst ef; exact h I2 F2 b1 b2 b3⟩), fun x => absurd x (by decide), fun x => absurd x (by decide), fun _ _ _ x => absurd rfl x⟩
  · exact ⟨fun x => absurd x (by decide), fun x => absurd x (by decide), fun x => absurd x (by decide), fun x => absurd x (by decide), fun _ => m_sorts hw m11 hS h0, fun x => absurd x (by decide), fun _ _ _ _ x => absurd rfl x⟩
  · obtain ⟨t, ht, et⟩ := soN_lt A B (nI k) w
    exact ⟨fun x => absurd x (by decide), fun x => absurd x (by decide), fun x => absurd x (by decide), fun x => absurd x (by decide), fun x => absurd x (by decide), fun _ => m_ask hw m11 hS ht et (by rw [askV_eq ht et]; exact h0), fun _ _ _ _ _ x => absurd rfl x⟩
/-- digest's folds -/
noncomputable def dgC (K T A B : Nat → Int32) (w k : Nat) (x : Int64) : Nat → Int64
  | 0 => x
  | f + 1 => (31 : Int64) * dgC K T A B w k x f + (chV K T A B w k f).toInt64
noncomputable def dgK (K T A B : Nat → Int32) (n b w : Nat) : Nat → Int64
  | 0 => 1423
  | k + 1 => (31 : Int64) * ((31 : Int64) * dgC K T A B w k (dgK K T A B n b w k) 6 + (setI K T n b k).toInt64) + (nI (rc K T 0 b k)).toInt64
theorem dgC_congr {K T K2 T2 A B : Nat → Int32} {w k : Nat} {x : Int64} (h1 : K k = K2 k) (h2 : T k = T2 k) : ∀ f, dgC K T A B w k x f = dgC K2 T2 A B w k x f
  | 0 => rfl
  | f + 1 => by
    show (31 : Int64) * dgC K T A B w k x f + (chV K T A B w k f).toInt64 = (31 : Int64) * dgC K2 T2 A B w k x f + (chV K2 T2 A B w k f).toInt64
    rw [dgC_congr h1 h2 f, chV_congr h1 h2]
theorem dgK_congr {K T K2 T2 A B : Nat → Int32} {n b w : Nat} (h : EQ n K T K2 T2) : ∀ k, k ≤ n → dgK K T A B n b w k = dgK K2 T2 A B n b w k
  | 0, _ => rfl
  | k + 1, hk => by
    show (31 : Int64) * ((31 : Int64) * dgC K T A B w k (dgK K T A B n b w k) 6 + (setI K T n b k).toInt64) + (nI (rc K T 0 b k)).toInt64 = (31 : Int64) * ((31 : Int64) * dgC K2 T2 A B w k (dgK K2 T2 A B n b w k) 6 + (setI K2 T2 n b k).toInt64) + (nI (rc K2 T2 0 b k)).toInt64
    rw [dgK_congr h k (by omega), dgC_congr (h k (by omega)).1 (h k (by omega)).2, setI_congr b h (by omega), rc_congr 0 b h (by omega)]
