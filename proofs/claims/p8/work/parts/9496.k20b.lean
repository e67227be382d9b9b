theorem k45n {x y : Int32} {g : Nat → Int32} (h0 : 0 ≤ x.toInt) (h1 : x.toInt ≤ 3) (hy : y.toInt = x.toInt + 1) (h : ¬ (g (4 + y).toNatClampNeg).toInt = 6) (h3 : ¬ x.toInt = 3) : ¬ ((g (5 + x).toNatClampNeg).toInt = 6 ∨ x.toInt = 3) := by
  rw [k45 (g := g) h0 h1 hy] at h; omega
theorem k45y {x y : Int32} {g : Nat → Int32} (h0 : 0 ≤ x.toInt) (h1 : x.toInt ≤ 3) (hy : y.toInt = x.toInt + 1) (h : (g (4 + y).toNatClampNeg).toInt = 6) : (g (5 + x).toNatClampNeg).toInt = 6 ∨ x.toInt = 3 := by
  rw [k45 (g := g) h0 h1 hy] at h; exact Or.inl h
