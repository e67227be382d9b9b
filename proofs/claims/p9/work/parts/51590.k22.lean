theorem kTr_b {n k0 k1 k2 it ng z r : Int} (h : kTr n k0 k1 k2 it ng z r) (h1 : 1 ≤ n) (h4 : n ≤ 4) : -1 ≤ r ∧ r ≤ 3 := by
  rcases h with ⟨_, ⟨_, h⟩ | ⟨_, h⟩⟩ | ⟨_, m, _, h⟩
  · omega
  · omega
  · omega
theorem kdv_i {a V : Int} (h : a = V) : a = kdv ((0 : Int32).toInt).toNat V := h
theorem kTl_0 {w : Int32} {l : Int} : l = l + ycB (ybM w) 0 := by show l = l + 0; omega
