theorem kTr_b {n k0 k1 k2 it ng z r : Int} (h : kTr n k0 k1 k2 it ng z r) (h1 : 1 ≤ n) (h4 : n ≤ 4) : -1 ≤ r ∧ r ≤ 3 := by
  rcases h with ⟨_, ⟨_, h⟩ | ⟨_, h⟩⟩ | ⟨_, m, _, h⟩
  · omega
  · omega
  · omega
theorem kdv_i {a V : Int} (h : a = V) : a = kdv ((0 : Int32).toInt).toNat V := h
theorem kTl_0 {w : Int32} {l : Int} : l = l + ycB (ybM w) 0 := by show l = l + 0; omega

theorem kAb_0 {n k0 k1 k2 k3 it ng z w r : Int} (h : w = 0) (hr : r = n) : kAb n k0 k1 k2 k3 it ng z w r := Or.inl ⟨h, hr⟩
theorem kAb_5 {n k0 k1 k2 k3 it ng z w r s : Int} (h : w = 5) (hs : kTr n k0 k1 k2 it ng z s) (hr : r = s + 1) : kAb n k0 k1 k2 k3 it ng z w r := Or.inr (Or.inl ⟨h, s, hs, hr⟩)
theorem kAb_k {n k0 k1 k2 k3 it ng z w r : Int} (h0 : ¬ w = 0 ∧ ¬ w = 5) (h : (w ≤ n ∧ ((w = 1 ∧ r = k0) ∨ (w = 2 ∧ r = k1) ∨ (w = 3 ∧ r = k2) ∨ (w = 4 ∧ r = k3))) ∨ (n < w ∧ r = -1)) : kAb n k0 k1 k2 k3 it ng z w r := Or.inr (Or.inr ⟨h0.1, h0.2, h⟩)
theorem kVal {x y : Int32} (h0 : 0 ≤ x.toInt) (h1 : x.toInt ≤ 99999999) (h2 : 0 ≤ y.toInt) (h3 : y.toInt ≤ 999999999) : (x.toInt64 * 1000000000 + y.toInt64).toInt = x.toInt * 1000000000 + y.toInt := by
  have e : (x.toInt64 * 1000000000).toInt = x.toInt * 1000000000 := by
    rw [zl_mul1] <;> simp only [zi64, Int64.reduceToInt] <;> omega
  rw [zl_add1] <;> simp only [e, zi64] <;> omega
