/-! what is put already and what is still to be put -/
def gC (c : Nat) (f : Nat → Int32) (n : Int) (c2 : Nat) (g : Nat → Int32) (m : Int) (Y T : List Int) : Prop := ∃ X, pC c f n c2 g m X ∧ X ++ Y = T
def gR (f : Nat → Int32) (n : Int) (g : Nat → Int32) (m : Int) (Y T : List Int) : Prop := ∃ X, pR f n g m X ∧ X ++ Y = T
theorem gC_i {c : Nat} {f : Nat → Int32} {n m : Int} {Y T : List Int} (h : m = n) (e : Y = T) : gC c f n c f m Y T := ⟨[], pC_0 h, e⟩
theorem gR_i {f : Nat → Int32} {n m : Int} {Y T : List Int} (h : m = n) (e : Y = T) : gR f n f m Y T := ⟨[], pR_0 h, e⟩
theorem gC_s {c d e : Nat} {f g h : Nat → Int32} {n m k : Int} {X Y Y2 T : List Int} (a : gC c f n d g m Y T) (b : pC d g m e h k X) (q : Y = X ++ Y2) : gC c f n e h k Y2 T := by
  obtain ⟨X0, p, t⟩ := a
  exact ⟨X0 ++ X, pC_t p b, by rw [List.append_assoc, ← q]; exact t⟩
theorem gR_s {f g h : Nat → Int32} {n m k : Int} {X Y Y2 T : List Int} (a : gR f n g m Y T) (b : pR g m h k X) (q : Y = X ++ Y2) : gR f n h k Y2 T := by
  obtain ⟨X0, p, t⟩ := a
  exact ⟨X0 ++ X, pR_t p b, by rw [List.append_assoc, ← q]; exact t⟩
theorem gC_c {c d e : Nat} {f g h : Nat → Int32} {n m k x : Int} {Y Y2 T : List Int} (a : gC c f n d g m Y T) (b : pCc d g m e h k x) (h0 : 0 ≤ x) (h1 : x < 256) (q : Y = x :: Y2) : gC c f n e h k Y2 T := gC_s a (b h0 h1) q
theorem gC_x {c d : Nat} {f g : Nat → Int32} {n m : Int} {Y T : List Int} (a : gC c f n d g m Y T) (q : Y = []) : pC c f n d g m T := by
  obtain ⟨X0, p, t⟩ := a; subst q; rw [List.append_nil] at t; subst t; exact p
theorem gR_x {f g : Nat → Int32} {n m : Int} {Y T : List Int} (a : gR f n g m Y T) (q : Y = []) : pR f n g m T := by
  obtain ⟨X0, p, t⟩ := a; subst q; rw [List.append_nil] at t; subst t; exact p
theorem gC_e {c d : Nat} {f g : Nat → Int32} {n m : Int} {Y Y2 T : List Int} (a : gC c f n d g m Y T) (q : Y = Y2) : gC c f n d g m Y2 T := by subst q; exact a
theorem gR_e {f g : Nat → Int32} {n m k : Int} {Y Y2 T : List Int} (a : gR f n g m Y T) (q : Y = Y2) (hk : k = m) : gR f n g k Y2 T := by subst q; subst hk; exact a
/-- k digits of n -/
def figs (n : Int) : Nat → List Int
  | 0 => []
  | k + 1 => (48 + n / 10 ^ k % 10) :: figs n k
/-- the figures of n below place p, at least l of them -/
def figP (n l : Int) : Nat → List Int
  | 0 => []
  | p + 1 => (if (p : Int) < l ∨ 10 ^ p ≤ n then [48 + n / 10 ^ p % 10] else []) ++ figP n l p
def fig (n l : Int) : List Int := figP n l 19
theorem figP_y {n l x y : Int} (h0 : 0 ≤ x) (h : x < l ∨ 10 ^ x.toNat ≤ n) (hy : y = x - 1) : figP n l (x + 1).toNat = (48 + n / 10 ^ x.toNat % 10) :: figP n l (y + 1).toNat := by
  subst hy
  rw [show (x + 1).toNat = x.toNat + 1 by omega, show (x - 1 + 1).toNat = x.toNat by omega]
  show (if ((x.toNat : Nat) : Int) < l ∨ 10 ^ x.toNat ≤ n then [48 + n / 10 ^ x.toNat % 10] else []) ++ figP n l x.toNat = _
  rw [if_pos (by rw [show ((x.toNat : Nat) : Int) = x by omega]; exact h)]; rfl
theorem figP_n {n l x y : Int} (h0 : 0 ≤ x) (h : ¬ (x < l ∨ 10 ^ x.toNat ≤ n)) (hy : y = x - 1) : figP n l (x + 1).toNat = figP n l (y + 1).toNat := by
  subst hy
  rw [show (x + 1).toNat = x.toNat + 1 by omega, show (x - 1 + 1).toNat = x.toNat by omega]
  show (if ((x.toNat : Nat) : Int) < l ∨ 10 ^ x.toNat ≤ n then [48 + n / 10 ^ x.toNat % 10] else []) ++ figP n l x.toNat = _
  rw [if_neg (by rw [show ((x.toNat : Nat) : Int) = x by omega]; exact h)]; rfl
theorem figP_lo {v l : Int} {n : Nat} (h : (n : Int) ≤ l ∨ 10 ^ (n - 1) ≤ v) : ∀ p : Nat, p ≤ n → figP v l p = figs v p
  | 0, _ => rfl
  | p + 1, hp => by
    show (if (p : Int) < l ∨ 10 ^ p ≤ v then [48 + v / 10 ^ p % 10] else []) ++ figP v l p = (48 + v / 10 ^ p % 10) :: figs v p
    rw [figP_lo h p (by omega), if_pos ?_]; rfl
    rcases h with h | h
    · exact Or.inl (by omega)
    · exact Or.inr (Int.le_trans (p10_le (show p ≤ n - 1 by omega)) h)
theorem figP_up {v l : Int} {n : Nat} (h : l ≤ (n : Int)) (hv : v < 10 ^ n) : ∀ j : Nat, figP v l (n + j) = figP v l n
  | 0 => rfl
  | j + 1 => by
    show (if ((n + j : Nat) : Int) < l ∨ 10 ^ (n + j) ≤ v then [48 + v / 10 ^ (n + j) % 10] else []) ++ figP v l (n + j) = _
    have := p10_le (show n ≤ n + j by omega)
    rw [figP_up h hv j, if_neg (by omega)]; rfl
theorem fig_figs {v l : Int} {n : Nat} (h19 : n ≤ 19) (hl : l ≤ n) (hv : v < 10 ^ n) (h : (n : Int) ≤ l ∨ 10 ^ (n - 1) ≤ v) : fig v l = figs v n := by
  obtain ⟨j, hj⟩ : ∃ j, 19 = n + j := ⟨19 - n, by omega⟩
  unfold fig
  rw [hj, figP_up hl hv j, figP_lo h n (Nat.le_refl _)]
theorem pn_y {c d e : Nat} {f g h : Nat → Int32} {n m k x y v l q : Int} {T : List Int} (a : gC c f n d g m (figP v l (x + 1).toNat) T) (b : pCc d g m e h k q) (h0 : 0 ≤ x) (hq : q = 48 + v / 10 ^ x.toNat % 10) (hc : x < l ∨ 10 ^ x.toNat ≤ v) (hy : y = x - 1) : gC c f n e h k (figP v l (y + 1).toNat) T := by
  have := figP_y (n := v) h0 hc hy
  rw [← hq] at this
  exact gC_c a b (by omega) (by omega) this
theorem pn_n {c d : Nat} {f g : Nat → Int32} {n m x y v l : Int} {T : List Int} (a : gC c f n d g m (figP v l (x + 1).toNat) T) (h0 : 0 ≤ x) (h1 : ¬ x < l) (h2 : ¬ 10 ^ x.toNat ≤ v) (hy : y = x - 1) : gC c f n d g m (figP v l (y + 1).toNat) T :=
  gC_e a (figP_n h0 (by omega) hy)
theorem pn_x {c d : Nat} {f g : Nat → Int32} {n m x v l : Int} {T : List Int} (a : gC c f n d g m (figP v l (x + 1).toNat) T) (h0 : x < 0) : pC c f n d g m T := gC_x a (by rw [show (x + 1).toNat = 0 by omega]; rfl)
theorem dg_r2 {a b : Int64} (ha : 0 ≤ a.toInt) (hb : 0 < b.toInt) : ((48 + (a / b - a / b / 10 * 10)).toInt32).toInt = 48 + a.toInt / b.toInt % 10 := by
  have e := zl_divp ha hb
  have n0 := Int.ediv_nonneg ha (Int.le_of_lt hb)
  have l := zl_lost (a := a / b) (b := 10) (by omega) (by decide) (by decide)
  simp only [Int64.reduceToInt] at l
  have s : (48 + (a / b - a / b / 10 * 10)).toInt = 48 + (a / b - a / b / 10 * 10).toInt := zl_add1 (by simp only [Int64.reduceToInt]; omega) (by simp only [Int64.reduceToInt]; omega)
  rw [zl_i32 (by omega) (by omega), s, l.1, e]
  omega
def blk (c : Int) : List Int := if c = 48 then [48] else if c = 63 then [32] else []
/-- the figures still to come under a unit -/
def fgI (f : Nat → Int32) (n : Int) (g : Nat → Int32) (m x v : Int) (T : List Int) : Prop := ∃ k : Nat, k ≤ 19 ∧ x = 10 ^ k / 10 ∧ gR f n g m (figs v k) T
theorem p10_d (k : Nat) : (10 : Int) ^ (k + 1) / 10 = 10 ^ k := by rw [Int.pow_succ]; exact Int.mul_ediv_cancel _ (by decide)
theorem fgI_x {f g : Nat → Int32} {n m m2 x v : Int} {T : List Int} (h : fgI f n g m x v T) (hx : x ≤ 0) (hm : m2 = m) : pR f n g m2 T := by
  subst hm
  obtain ⟨k, _, e, a⟩ := h
  cases k with
  | zero => exact gR_x a rfl
  | succ k => rw [p10_d] at e; have := p10 k; omega
theorem fgI_s {f g h : Nat → Int32} {n m k2 k3 x y v q : Int} {T : List Int} (hh : fgI f n g m x v T) (b : pR g m h k2 [q]) (hx : 0 < x) (hq : q = 48 + v / x % 10) (hy : y = x / 10) (hk : k3 = k2) : fgI f n h k3 y v T := by
  subst hk
  obtain ⟨k, hk, e, a⟩ := hh
  cases k with
  | zero => have : (10 : Int) ^ 0 / 10 = 0 := by decide
            omega
  | succ k =>
    rw [p10_d] at e
    refine ⟨k, by omega, by rw [hy, e], gR_s a b ?_⟩
    rw [hq, e]; rfl
/-- the unit under which figures begin -/
def fgU (x n v l : Int) : Prop := (1 ≤ n ∧ n ≤ 19) ∧ x = 10 ^ (n - 1).toNat ∧ (n ≤ l ∨ 10 ^ (n - 1).toNat ≤ v ∨ n = 1)
theorem fgU_i {x n v l : Int} (hx : x = 1) (hn : n = 1) : fgU x n v l := by subst hn; subst hx; exact ⟨by omega, rfl, Or.inr (Or.inr rfl)⟩
theorem fgU_b {x n v l : Int} (h : fgU x n v l) : 0 < x ∧ 1 ≤ n ∧ n ≤ 19 := by
  obtain ⟨a, b, _⟩ := h; have := p10 (n - 1).toNat; omega
theorem fgU_bx {x n v l : Int} (h : fgU x n v l) (h2 : x ≤ v / 10 ∨ n < l) (hl : l ≤ 18) (hv : v < 9000000000000000000) : 10 * x < 9200000000000000000 ∧ n ≤ 18 := by
  obtain ⟨a, b, c⟩ := h
  have e17 : (10 : Int) ^ 17 = 100000000000000000 := by decide
  rcases h2 with h2 | h2
  · refine ⟨by omega, ?_⟩
    rcases Int.lt_or_le n 19 with q | q
    · omega
    · have := p10_le (show 18 ≤ (n - 1).toNat by omega); have e18 : (10 : Int) ^ 18 = 1000000000000000000 := by decide
      omega
  · have := p10_le (show (n - 1).toNat ≤ 17 by omega)
    omega
theorem fgU_s {x n v l y k : Int} (h : fgU x n v l) (h2 : x ≤ v / 10 ∨ n < l) (hn : n ≤ 18) (hy : y = 10 * x) (hk : k = n + 1) : fgU y k v l := by
  obtain ⟨a, b, c⟩ := h
  subst hk
  have e : (10 : Int) ^ (n + 1 - 1).toNat = 10 * x := by rw [show (n + 1 - 1).toNat = (n - 1).toNat + 1 by omega, Int.pow_succ, b, Int.mul_comm]
  refine ⟨by omega, by rw [e, hy], ?_⟩
  rw [e]; omega
theorem fgU_x {f : Nat → Int32} {x n v l m m2 : Int} (h : fgU x n v l) (h1 : ¬ x ≤ v / 10) (h2 : ¬ n < l) (hl : 1 ≤ l) (hm : m2 = m) : fgI f m f m2 x v (fig v l) := by
  obtain ⟨a, b, c⟩ := h
  have e : (10 : Int) ^ n.toNat = 10 * x := by rw [show n.toNat = (n - 1).toNat + 1 by omega, Int.pow_succ, b, Int.mul_comm]
  refine ⟨n.toNat, by omega, by rw [e]; omega, gR_i hm ?_⟩
  refine (fig_figs (by omega) (by omega) (by omega) ?_).symm
  rw [show n.toNat - 1 = (n - 1).toNat by omega]
  omega
theorem blk_a {c : Int} (h : c = 48) : [48] = blk c := by unfold blk; rw [if_pos h]
theorem blk_b {c : Int} (h : c = 63) : [32] = blk c := by unfold blk; rw [if_neg (by omega), if_pos h]
theorem blk_n {c : Int} (h : ¬ c = 48) (h2 : ¬ c = 63) : [] = blk c := by unfold blk; rw [if_neg h, if_neg h2]
theorem zl_d10 {a : Int64} (h : 0 ≤ a.toInt) : (a / 10).toInt = a.toInt / 10 := zl_divp h (by decide)
