/-! GENERAL -/
def wpt (V m b : Int) : List Int := if m - b ≤ 0 then fig V 1 ++ List.replicate (b - m).toNat 48 else fig (V / 10 ^ (m - b).toNat) 1 ++ [46] ++ fig (V % 10 ^ (m - b).toNat) (m - b)
theorem wpt_1 {V m b k : Int} (h : ¬ 0 < m - b) (hk : k = -(m - b)) : fig V 1 ++ List.replicate k.toNat 48 = wpt V m b := by unfold wpt; rw [if_pos (by omega), hk, show -(m - b) = b - m by omega]
theorem wpt_2 {V m b p r : Int} (h : 0 < m - b) (hp : p = V / 10 ^ (m - b).toNat) (hr : r = V % 10 ^ (m - b).toNat) : fig p 1 ++ [46] ++ fig r (m - b) = wpt V m b := by unfold wpt; rw [if_neg (by omega), hp, hr]
def wpw (V m E : Int) : List Int := wpt V m 1 ++ [69] ++ (if E < 0 then [45] else []) ++ fig (iab E) 1
theorem wpw_1 {V m E : Int} (h : 0 ≤ E) : wpt V m 1 ++ [69] ++ fig (iab E) 1 = wpw V m E := by unfold wpw; rw [if_neg (by omega), List.append_nil]
theorem wpw_2 {V m E : Int} (h : ¬ 0 ≤ E) : wpt V m 1 ++ [69] ++ [45] ++ fig (iab E) 1 = wpw V m E := by unfold wpw; rw [if_pos (by omega)]
def cgn (V m t : Int) : List Int := if t < -5 ∨ 21 < t then wpw V m (t - 1) else if t ≤ 0 then [48, 46] ++ List.replicate (-t).toNat 48 ++ fig V 1 else wpt V m t
theorem cgn_1 {V m t : Int} (h : t < -5 ∨ 21 < t) : wpw V m (t - 1) = cgn V m t := by unfold cgn; rw [if_pos h]
theorem cgn_2 {V m t k : Int} (h : ¬ t < -5) (h2 : t ≤ 21) (h3 : t ≤ 0) (hk : k = -t) : [48, 46] ++ List.replicate k.toNat 48 ++ fig V 1 = cgn V m t := by unfold cgn; rw [if_neg (by omega), if_pos h3, hk]
theorem cgn_3 {V m t : Int} (h : ¬ t < -5) (h2 : t ≤ 21) (h3 : 0 < t) : wpt V m t = cgn V m t := by unfold cgn; rw [if_neg (by omega), if_neg (by omega)]
/-- a number's GENERAL look: v without its last zeros -/
def gnP (b v s : Int) (T : List Int) : Prop := (v = 0 ∧ T = [48]) ∨ (∃ (V m : Int) (k : Nat), v = V * 10 ^ k ∧ 0 < V ∧ ¬ V % 10 = 0 ∧ dgs V m ∧ T = (if b = 0 then [] else [45]) ++ cgn V m (m + (s + k)))
def stl (i : Nat) : List Int := tx (zsb i) 0 (zsn i)
theorem rep_s {x y n c : Int} (h : ¬ n ≤ x) (h0 : 0 ≤ x) (hy : y = x + 1) : List.replicate (n - x).toNat c = [c] ++ List.replicate (n - y).toNat c := by
  subst hy; rw [show (n - x).toNat = (n - (x + 1)).toNat + 1 by omega]; rfl
theorem rep_x {x n c : Int} (h : n ≤ x) : List.replicate (n - x).toNat c = [] := by rw [show (n - x).toNat = 0 by omega]; rfl
theorem rep_i {x n c : Int} (h : x = 0) : List.replicate (n - x).toNat c = List.replicate n.toNat c := by rw [h, Int.sub_zero]
/-- zeros stripped so far -/
def gnS (v0 s0 v s i : Int) : Prop := ∃ k : Nat, (k : Int) = i ∧ v0 = v * 10 ^ k ∧ 0 < v ∧ s = s0 + k
theorem gnS_i {v0 s0 z : Int} (h : 0 < v0) (hz : z = 0) : gnS v0 s0 v0 s0 z := ⟨0, by omega, by show v0 = v0 * 1; rw [Int.mul_one], h, by show s0 = s0 + ((0 : Nat) : Int); omega⟩
theorem gnS_s {v0 s0 v s i v2 s2 i2 : Int} (h : gnS v0 s0 v s i) (hm : v % 10 = 0) (hv : v2 = v / 10) (hs : s2 = s + 1) (hi : i2 = i + 1) : gnS v0 s0 v2 s2 i2 := by
  obtain ⟨k, a, b, c, d⟩ := h
  refine ⟨k + 1, by omega, ?_, by omega, by omega⟩
  rw [b, Int.pow_succ, Int.mul_comm (10 ^ k) 10, ← Int.mul_assoc, show v2 * 10 = v by omega]
theorem gnS_b {v0 s0 v s i : Int} (h : gnS v0 s0 v s i) (hv : v0 < 100000000000000000) : 0 < v ∧ v ≤ v0 ∧ s = s0 + i ∧ 0 ≤ i ∧ i ≤ 16 := by
  obtain ⟨k, a, b, c, d⟩ := h
  have p := p10 k
  have h1 : v * 1 ≤ v * 10 ^ k := Int.mul_le_mul_of_nonneg_left (by omega) (by omega)
  have h2 : 1 * 10 ^ k ≤ v * 10 ^ k := Int.mul_le_mul_of_nonneg_right (by omega) (by omega)
  have hk : k ≤ 16 := by
    rcases Nat.lt_or_ge 16 k with q | q
    · have := p10_le (show 17 ≤ k by omega)
      have e : (10 : Int) ^ 17 = 100000000000000000 := by decide
      omega
    · exact q
  exact ⟨c, by omega, by omega, by omega, by omega⟩
theorem gnP_0 {b v s : Int} (h : v = 0) : gnP b v s [48] := Or.inl ⟨h, rfl⟩
theorem gnP_1 {b v0 s0 v s i m t : Int} (h : gnS v0 s0 v s i) (h9 : ¬ v % 10 = 0) (hd : dgs v m) (ht : t = m + s) : gnP b v0 s0 ((if b = 0 then [] else [45]) ++ cgn v m t) := by
  obtain ⟨k, _, e, c, d⟩ := h
  exact Or.inr ⟨v, m, k, e, c, h9, hd, by rw [ht, d]⟩
theorem gnb_0 {b : Int} {X : List Int} (h : b = 0) : X = (if b = 0 then [] else [45]) ++ X := by rw [if_pos h]; rfl
theorem gnb_1 {b : Int} {X : List Int} (h : ¬ b = 0) : [45] ++ X = (if b = 0 then [] else [45]) ++ X := by rw [if_neg h]
theorem zl_rem {a b : Int64} (ha : 0 ≤ a.toInt) (hb : 0 < b.toInt) (h17 : b.toInt ≤ 1000000000000000000) : (a - a / b * b).toInt = a.toInt % b.toInt := by
  have l := zl_lost ha hb h17
  have m := zmw (m := a.toInt) (w := b.toInt) (by omega)
  rw [l.1]; omega
theorem stl_i {i : Nat} : txs (zsb i) (0 : Int32).toInt (zsn i : Int) = stl i := by
  unfold txs stl
  show tx (zsb i) 0 ((zsn i : Int) - 0).toNat = _
  rw [show ((zsn i : Int) - 0).toNat = zsn i by omega]
theorem stl_12 : stl 12 = [48, 46] := by decide
theorem dgs_17 {v m : Int} (h : dgs v m) (h0 : 0 < v) (h1 : v < 100000000000000000) : 1 ≤ m ∧ m ≤ 17 := by
  obtain ⟨a, b, c, d⟩ := h
  have m17 : m ≤ 17 := by
    rcases Int.lt_or_le 17 m with q | q
    · have := c 17 (by omega)
      have e : (10 : Int) ^ 17 = 100000000000000000 := by decide
      omega
    · exact q
  refine ⟨?_, m17⟩
  rcases Int.lt_or_le 0 m with q | q
  · omega
  · have e : m = 0 := by omega
    subst e
    rcases d with d | d
    · omega
    · have e2 : (10 : Int) ^ (0 : Int).toNat = 1 := by decide
      omega
theorem st12_b : ∀ j : Nat, j < zsn 12 → 0 ≤ (zsb 12 j).toInt ∧ (zsb 12 j).toInt < 256 := by decide
theorem ge10 {b V m t e : Int} (hb : b = 0) (h : t < -5 ∨ 21 < t) (he : e = t - 1) : wpw V m e = (if b = 0 then [] else [45]) ++ cgn V m t := by rw [if_pos hb, he, cgn_1 h]; rfl
theorem ge11 {b V m t e : Int} (hb : ¬ b = 0) (h : t < -5 ∨ 21 < t) (he : e = t - 1) : [45] ++ wpw V m e = (if b = 0 then [] else [45]) ++ cgn V m t := by rw [if_neg hb, he, cgn_1 h]
theorem ge20 {b V m t k : Int} (hb : b = 0) (h : ¬ t < -5) (h2 : t ≤ 21) (h3 : t ≤ 0) (hk : k = -t) : [48, 46] ++ List.replicate k.toNat 48 ++ fig V 1 = (if b = 0 then [] else [45]) ++ cgn V m t := by rw [if_pos hb, cgn_2 (m := m) h h2 h3 hk]; rfl
theorem ge21 {b V m t k : Int} (hb : ¬ b = 0) (h : ¬ t < -5) (h2 : t ≤ 21) (h3 : t ≤ 0) (hk : k = -t) : [45] ++ [48, 46] ++ List.replicate k.toNat 48 ++ fig V 1 = (if b = 0 then [] else [45]) ++ cgn V m t := by
  rw [if_neg hb, ← cgn_2 (V := V) (m := m) h h2 h3 hk, List.append_assoc, List.append_assoc, List.append_assoc]
theorem ge30 {b V m t e : Int} (hb : b = 0) (h : ¬ t < -5) (h2 : t ≤ 21) (h3 : 0 < t) (he : e = t) : wpt V m e = (if b = 0 then [] else [45]) ++ cgn V m t := by rw [if_pos hb, he, cgn_3 h h2 h3]; rfl
theorem ge31 {b V m t e : Int} (hb : ¬ b = 0) (h : ¬ t < -5) (h2 : t ≤ 21) (h3 : 0 < t) (he : e = t) : [45] ++ wpt V m e = (if b = 0 then [] else [45]) ++ cgn V m t := by rw [if_neg hb, he, cgn_3 h h2 h3]
theorem gn_e {c c2 : Nat} {f g : Nat → Int32} {n k : Int} {b v0 s0 v s i m : Int} {X : List Int} (h : gnS v0 s0 v s i) (h9 : ¬ v % 10 = 0) (hd : dgs v m) (hA : pC c f n c2 g k X) (hX : X = (if b = 0 then [] else [45]) ++ cgn v m (m + s)) : ∃ T, gnP b v0 s0 T ∧ pC c f n c2 g k T := ⟨_, gnP_1 h h9 hd rfl, pC_e hA hX⟩
theorem gn_0 {c c2 : Nat} {f g : Nat → Int32} {n k : Int} {b v0 s0 : Int} (h : v0 = 0) (hA : pC c f n c2 g k [48]) : ∃ T, gnP b v0 s0 T ∧ pC c f n c2 g k T := ⟨_, gnP_0 h, hA⟩
