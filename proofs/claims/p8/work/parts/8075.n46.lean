theorem frB2 {r d : Int} (h0 : 0 ≤ r) (h1 : r ≤ 1000000000000000) (h2 : 0 ≤ d) (h3 : d ≤ 1000) : 0 ≤ r * d ∧ r * d ≤ 1000000000000000000 := by
  refine ⟨Int.mul_nonneg h0 h2, ?_⟩
  calc r * d ≤ 1000000000000000 * d := Int.mul_le_mul_of_nonneg_right h1 h2
    _ ≤ 1000000000000000 * 1000 := Int.mul_le_mul_of_nonneg_left h3 (by decide)
theorem frM2 {a : Int64} {b : Int32} (h0 : 0 ≤ a.toInt) (h1 : a.toInt ≤ 1000000000000000) (h2 : 0 ≤ b.toInt) (h3 : b.toInt ≤ 1000) : (a * b.toInt64).toInt = a.toInt * b.toInt := by
  have := frB2 h0 h1 h2 h3
  rw [zl_mul1 (by rw [zi64]; omega) (by rw [zi64]; omega), zi64]
theorem frv2 {r : Int64} {x : Int32} (h0 : 0 ≤ r.toInt) (h1 : r.toInt ≤ 1000000000000000) (h2 : 0 ≤ x.toInt) (h3 : x.toInt ≤ 1000) : ((r * x.toInt64) / 1000000000000000).toInt = r.toInt * x.toInt / 1000000000000000 ∧ ((r * x.toInt64) - (r * x.toInt64) / 1000000000000000 * 1000000000000000).toInt = r.toInt * x.toInt % 1000000000000000 ∧ (0 ≤ r.toInt * x.toInt ∧ r.toInt * x.toInt ≤ 1000000000000000000) := by
  have m := frM2 h0 h1 h2 h3
  have b := frB2 h0 h1 h2 h3
  refine ⟨?_, ?_, b⟩
  · rw [zl_divp (by omega) (by decide), m]; rfl
  · rw [zl_rem (by omega) (by decide) (by decide), m]; rfl
def fr26 (r t c y s : Int) : Prop := (c = r * t / 1000000000000000 ∧ y = r * t % 1000000000000000 ∧ 0 ≤ r * t ∧ r * t ≤ 1000000000000000000) ∧ ((2 * y ≤ 1000000000000000 ∧ s = 0) ∨ (¬ 2 * y ≤ 1000000000000000 ∧ s = 1))
theorem fr26_b {r t c y s : Int} (h : fr26 r t c y s) : (0 ≤ c ∧ c ≤ 1000 ∧ 0 ≤ y ∧ y < 1000000000000000) ∧ (s = 0 ∨ s = 1) := by
  obtain ⟨⟨a, b, d, e⟩, k⟩ := h
  omega
theorem fr26_0 {r t c y s : Int} (h : fr26 r t c y s) (hs : s = 0) : frN r t = c ∧ frD r t = y := by
  obtain ⟨⟨a, b, d, e⟩, k⟩ := h
  have q := frN_1 (r := r) (d := t) (by omega)
  exact ⟨by rw [q.1, a], by rw [q.2, b]⟩
theorem fr26_1 {r t c y s : Int} (h : fr26 r t c y s) (hs : ¬ s = 0) : frN r t = c + 1 ∧ frD r t = 1000000000000000 - y := by
  obtain ⟨⟨a, b, d, e⟩, k⟩ := h
  have q := frN_2 (r := r) (d := t) (by omega)
  exact ⟨by rw [q.1, a], by rw [q.2, b]⟩
theorem fr26_i {r : Int64} {x : Int32} {rr s : Int} {c y : Int64} (hr : r.toInt = rr) (h0 : 0 ≤ r.toInt) (h1 : r.toInt ≤ 1000000000000000) (h2 : 0 ≤ x.toInt) (h3 : x.toInt ≤ 1000) (hc : c = (r * x.toInt64) / 1000000000000000) (hy : y = (r * x.toInt64) - (r * x.toInt64) / 1000000000000000 * 1000000000000000) (hs : ((2 * y).toInt ≤ 1000000000000000 ∧ s = 0) ∨ (¬ (2 * y).toInt ≤ 1000000000000000 ∧ s = 1)) : fr26 rr x.toInt c.toInt y.toInt s := by
  have q := frv2 h0 h1 h2 h3
  subst hr
  have ey : y.toInt = r.toInt * x.toInt % 1000000000000000 := by rw [hy]; exact q.2.1
  have e2 : (2 * y).toInt = 2 * y.toInt := by
    have : (2 : Int64).toInt = 2 := by decide
    rw [zl_mul1 (by rw [this]; omega) (by rw [this]; omega), this]
  rw [e2] at hs
  exact ⟨⟨by rw [hc]; exact q.1, ey, q.2.2.1, q.2.2.2⟩, hs⟩
theorem fcM {a : Int64} {b c : Int32} {u o : Int} (h0 : 0 ≤ a.toInt) (h1 : a.toInt ≤ 1000000000000000) (hb : b.toInt = u) (hc : c.toInt = o) (h2 : 0 ≤ u) (h3 : u ≤ 999) (h4 : 0 ≤ o) (h5 : o ≤ 999) : (a * b.toInt64 + c.toInt64).toInt = a.toInt * u + o := by
  subst hb; subst hc
  have m := frM2 h0 h1 h2 (show b.toInt ≤ 1000 by omega)
  have q := frB2 h0 h1 h2 (show b.toInt ≤ 1000 by omega)
  rw [zl_add1 (by rw [m, zi64]; omega) (by rw [m, zi64]; omega), m, zi64]
theorem gv_a {x q : Int32} (h0 : -4000 ≤ x.toInt) (h1 : x.toInt ≤ 4000) (h2 : 0 ≤ q.toInt) (h3 : q.toInt ≤ 255) : ((10 * x + q) - 48).toInt = 10 * x.toInt + q.toInt - 48 := by
  have e10 : (10 : Int32).toInt = 10 := by decide
  have e48 : (48 : Int32).toInt = 48 := by decide
  have a : (10 * x).toInt = 10 * x.toInt := by rw [zmul1 (by rw [e10]; omega) (by rw [e10]; omega), e10]
  have b : (10 * x + q).toInt = 10 * x.toInt + q.toInt := by rw [zadd1 (by rw [a]; omega) (by rw [a]; omega), a]
  rw [zsub1 (by rw [b, e48]; omega) (by rw [b, e48]; omega), b, e48]
