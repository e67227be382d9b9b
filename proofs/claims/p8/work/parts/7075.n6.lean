theorem zul_s {f : Nat → Int64} {k : Nat} {x : Int64} : zul f k x k = x := by
  show (bif Nat.beq k k then x else f k) = x
  rw [Nat.beq_refl]; rfl
theorem dgM_t1 {I0 : Nat → Int32} {J0 : Nat → Int64} {x1 : Int64} {x3 x4 r : Int32} (h0 : 0 < x1.toInt) (h1 : x1.toInt < 1000000000000000000) (h2 : 0 ≤ x3.toInt) (h3 : x3.toInt ≤ 2000) (hr : 0 ≤ r.toInt ∧ r.toInt ≤ 19) (hd : dgs x1.toInt r.toInt) : dgM (zu (zu (zu I0 1 x3) 2 (r + x3)) 3 x4) (zul J0 0 x1) (x1.toInt * 10 ^ x3.toInt.toNat) x4.toInt := by
  refine dgM_p (H := x1.toInt) (z := x3.toInt) (n := r.toInt) rfl h0 h1 h2 h3 hd ?_ ?_ ?_ ?_
  · rw [zul_s]
  · rw [zu_n (by decide), zu_n (by decide), zu_s]
  · rw [zu_n (by decide), zu_s, zadd1 (by omega) (by omega)]
  · rw [zu_s]
theorem dgM_t0 {I0 : Nat → Int32} {J0 : Nat → Int64} {x1 : Int64} {x3 x4 : Int32} (h0 : x1.toInt = 0) : dgM (zu (zu (zu I0 1 0) 2 0) 3 x4) (zul J0 0 x1) (x1.toInt * 10 ^ x3.toInt.toNat) x4.toInt := by
  refine dgM_z ?_ ?_ ?_ ?_ ?_
  · rw [h0, Int.zero_mul]
  · rw [zul_s]; exact h0
  · rw [zu_n (by decide), zu_n (by decide), zu_s]; rfl
  · rw [zu_n (by decide), zu_s]; rfl
  · rw [zu_s]
