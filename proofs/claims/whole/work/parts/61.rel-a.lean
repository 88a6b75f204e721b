/-! what the planner answers depends on the chords of the part only -/
def EQ (n : Nat) (K T K2 T2 : Nat → Int32) : Prop := ∀ i, i < n → K i = K2 i ∧ T i = T2 i
theorem held_congr {K T K2 T2 : Nat → Int32} {n k : Nat} (h : EQ n K T K2 T2) (hk : k < n) (y : Int32) : heldI K T k y = heldI K2 T2 k y := by
  unfold heldI
  by_cases h0 : k = 0
  · rw [if_pos h0, if_pos h0]
  · rw [if_neg h0, if_neg h0, (h (k - 1) (by omega)).1, (h (k - 1) (by omega)).2]
theorem fitK_congr {K T K2 T2 : Nat → Int32} {n k : Nat} (h : EQ n K T K2 T2) (hk : k < n) (y : Int32) (t : Nat) : fitK K T y k t = fitK K2 T2 y k t := by
  unfold fitK
  rw [(h k hk).1, (h k hk).2]
theorem BR_congr {K T K2 T2 : Nat → Int32} {n : Nat} (y : Int32) (h : EQ n K T K2 T2) : ∀ d, d ≤ n → BR K T y n d = BR K2 T2 y n d
  | 0, _ => rfl
  | d + 1, hd => by
    have ih := BR_congr y h d (by omega)
    funext t c
    show Zs (mostI (K (n - 1 - d))) (fun p _ b => !hT (heldI K T (n - 1 - d) y) p b) (fun u c => if fitK K T y (n - 1 - d) u = true then BR K T y n d u c else 0) t c = Zs (mostI (K2 (n - 1 - d))) (fun p _ b => !hT (heldI K2 T2 (n - 1 - d) y) p b) (fun u c => if fitK K2 T2 y (n - 1 - d) u = true then BR K2 T2 y n d u c else 0) t c
    have e3 : (fun u c => if fitK K T y (n - 1 - d) u = true then BR K T y n d u c else 0) = fun u c => if fitK K2 T2 y (n - 1 - d) u = true then BR K2 T2 y n d u c else 0 := by
      funext u c
      rw [fitK_congr h (by omega), ih]
    rw [(h (n - 1 - d) (by omega)).1, held_congr h (by omega), e3]
theorem OW_congr {K T K2 T2 : Nat → Int32} {n k : Nat} (y : Int32) (h : EQ n K T K2 T2) (hk : k < n) : OW K T y n k = OW K2 T2 y n k := by
  funext u c
  unfold OW
  rw [fitK_congr h hk, BR_congr y h (n - 1 - k) (by omega)]
theorem fewI_congr {K T K2 T2 : Nat → Int32} {n : Nat} (y : Int32) (b : Nat) (h : EQ n K T K2 T2) : fewI K T y n b = fewI K2 T2 y n b := by
  unfold fewI
  rw [BR_congr y h n (Nat.le_refl _)]
theorem TP_congr {K T K2 T2 : Nat → Int32} {n : Nat} (y : Int32) (b : Nat) (h : EQ n K T K2 T2) : TP K T y b n = TP K2 T2 y b n := by
  funext c
  unfold TP
  exact fb_sm_cong (fun t _ => GP_congr h t c)
theorem waysN_congr {K T K2 T2 : Nat → Int32} {n : Nat} (b : Nat) (h : EQ n K T K2 T2) : waysN K T n b = waysN K2 T2 n b := by
  unfold waysN
  rw [BR_congr 0 h n (Nat.le_refl _), TP_congr 0 b h]
theorem rc_congr {K T K2 T2 : Nat → Int32} {n k : Nat} (y : Int32) (b : Nat) (h : EQ n K T K2 T2) (hk : k < n) : rc K T y b k = rc K2 T2 y b k := by
  unfold rc
  have e : (fun t => nzP (GP K T y b (k + 1) t)) = fun t => nzP (GP K2 T2 y b (k + 1) t) := by
    funext t
    exact congrArg nzP (funext (fun c => GP_congr (fun i hi => h i (by omega)) t c))
  rw [e]
theorem first_congr {p q : Nat → Bool} : ∀ n, (∀ i, i < n → p i = q i) → fa_first p n = fa_first q n
  | 0, _ => rfl
  | n + 1, h => by
    have ih := first_congr n (fun i hi => h i (by omega))
    show (if fa_first p n < n then fa_first p n else if p n then n else n + 1) = if fa_first q n < n then fa_first q n else if q n then n else n + 1
    rw [ih, h n (by omega)]
theorem stk_congr {K T K2 T2 : Nat → Int32} {n : Nat} (b : Nat) (h : EQ n K T K2 T2) : stk K T b n = stk K2 T2 b n := by
  unfold stk
  rw [first_congr n (fun i hi => by rw [rc_congr 0 b h hi])]
theorem nxt_congr {K T K2 T2 : Nat → Int32} {n k : Nat} (h : EQ n K T K2 T2) (hk : k < n) (s : Nat) : nxt K T n k s = nxt K2 T2 n k s := by
  have e : NXb K T n k s = NXb K2 T2 n k s := by
    funext t
    unfold NXb
    have e2 : isNx K T n k s t = isNx K2 T2 n k s t := by
      funext o
      unfold isNx
      rw [(h k hk).1, held_congr h hk, OW_congr 0 h hk, BR_congr 0 h (n - k) (by omega)]
    rw [e2]
  unfold nxt
  rw [e]
theorem bsS_congr {K T K2 T2 : Nat → Int32} {n : Nat} (b : Nat) (h : EQ n K T K2 T2) : ∀ k, k ≤ n → bsS K T n b k = bsS K2 T2 n b k
  | 0, _ => rfl
  | k + 1, hk => by
    show nxt K T n k (bsS K T n b k) = nxt K2 T2 n k (bsS K2 T2 n b k)
    rw [bsS_congr b h k (by omega), nxt_congr h (by omega)]
theorem bestI_congr {K T K2 T2 : Nat → Int32} {n k : Nat} (b : Nat) (h : EQ n K T K2 T2) (hk : k < n) : bestI K T n b k = bestI K2 T2 n b k := by
  unfold bestI
  rw [BR_congr 0 h n (Nat.le_refl _), bsS_congr b h (k + 1) (by omega)]
theorem setI_congr {K T K2 T2 : Nat → Int32} {n k : Nat} (b : Nat) (h : EQ n K T K2 T2) (hk : k < n) : setI K T n b k = setI K2 T2 n b k := by
  unfold setI
  rw [BR_congr 0 h n (Nat.le_refl _), bsS_congr b h (k + 1) (by omega)]
theorem bgN_congr {K T K2 T2 : Nat → Int32} {n : Nat} (h : EQ n K T K2 T2) (hn : 0 < n) : bgN K T n = bgN K2 T2 n := by
  unfold bgN
  rw [OW_congr 0 h hn]
theorem freI_congr {K T K2 T2 : Nat → Int32} {n : Nat} (h : EQ n K T K2 T2) (hn : 0 < n) : freI K T n = freI K2 T2 n := by
  unfold freI
  rw [bgN_congr h hn]
theorem lsI_congr {K T K2 T2 : Nat → Int32} {n : Nat} (b : Nat) (h : EQ n K T K2 T2) : lsI K T n b = lsI K2 T2 n b := by
  have e : lsA K T n b = lsA K2 T2 n b := by
    unfold lsA
    have e2 : (fun y => mc (BR K T (nI y) n n b)) = fun y => mc (BR K2 T2 (nI y) n n b) := by
      funext y
      rw [BR_congr (nI y) h n (Nat.le_refl _)]
    rw [e2]
  unfold lsI
  rw [e]
/-! the two sides' tests of numbers -/
theorem in_i {a : Int32} {lo hi : Int64} {l2 h2 : Int32} {I : Nat → Int32} {F : Nat → Nat → Int32} {hs : Int64} {post : Int32 → Prop} (hl : lo = l2.toInt64) (hh : hi = h2.toInt64) (h0 : (a < l2 ∨ h2 < a) → post 0) (h1 : ¬ a < l2 → ¬ h2 < a → post 1) : w_X9_in a.toInt64 lo hi I F hs post := by
  subst hl
  subst hh
  unfold w_X9_in
  have c : ∀ x y : Int32, x.toInt64 < y.toInt64 ↔ x < y := fun x y => by
    rw [Int64.lt_iff_toInt_lt, Int32.lt_iff_toInt_lt, Int32.toInt_toInt64, Int32.toInt_toInt64]
  rw [lg_cmp_lt, lg_cmp_gt, c, c]
  exact ⟨fun q => h0 (Or.inl q), fun q => ⟨fun q2 => h0 (Or.inr q2), fun q2 => h1 q q2⟩⟩
