/-! longs by their values; counting items -/
theorem zl_lt {x y : Int64} : x < y ↔ x.toInt < y.toInt := Int64.lt_iff_toInt_lt
theorem zl_le {x y : Int64} : x ≤ y ↔ x.toInt ≤ y.toInt := Int64.le_iff_toInt_le
theorem zl_eq {x y : Int64} : x = y ↔ x.toInt = y.toInt := Int64.toInt_inj.symm
theorem zl_lo (x : Int64) : -9223372036854775808 ≤ x.toInt := Int64.le_toInt x
theorem zl_hi (x : Int64) : x.toInt < 9223372036854775808 := Int64.toInt_lt x
theorem zbm {a : Int} (h1 : -9223372036854775808 ≤ a) (h2 : a < 9223372036854775808) : a.bmod (2 ^ 64) = a := by
  rw [Int.bmod_def]; split <;> omega
theorem zbm32 {a : Int} (h1 : -2147483648 ≤ a) (h2 : a < 2147483648) : a.bmod (2 ^ 32) = a := by
  rw [Int.bmod_def]; split <;> omega
theorem zl_add1 {x y : Int64} (h1 : -9223372036854775808 ≤ x.toInt + y.toInt) (h2 : x.toInt + y.toInt < 9223372036854775808) : (x + y).toInt = x.toInt + y.toInt := by
  rw [Int64.toInt_add, zbm h1 h2]
theorem zl_mul10 {x : Int64} (h1 : -9223372036854775808 ≤ 10 * x.toInt) (h2 : 10 * x.toInt < 9223372036854775808) : ((10 : Int64) * x).toInt = 10 * x.toInt := by
  rw [Int64.toInt_mul, show (10 : Int64).toInt = 10 from rfl, zbm h1 h2]
theorem zl_div10 (v : Int64) : (v / 10).toInt ≤ 922337203685477580 := by
  have h := zl_hi v; have h' := zl_lo v
  rw [Int64.toInt_div, show (10 : Int64).toInt = 10 from rfl]
  rcases Int.lt_or_le v.toInt 0 with c | c
  · have e : v.toInt.tdiv 10 = -((-v.toInt) / 10) := by
      rw [← Int.tdiv_eq_ediv_of_nonneg (by omega), Int.neg_tdiv, Int.neg_neg]
    rw [e, zbm (by omega) (by omega)]; omega
  · rw [Int.tdiv_eq_ediv_of_nonneg c, zbm (by omega) (by omega)]; omega
theorem zl_div10p {v : Int64} (h : 0 ≤ v.toInt) : (v / 10).toInt = v.toInt / 10 := by
  have h' := zl_hi v
  rw [Int64.toInt_div, show (10 : Int64).toInt = 10 from rfl, Int.tdiv_eq_ediv_of_nonneg h, zbm (by omega) (by omega)]
theorem zdiv10p {v : Int32} (h : 0 ≤ v.toInt) : (v / 10).toInt = v.toInt / 10 := by
  have h' := zhi v
  rw [Int32.toInt_div, show (10 : Int32).toInt = 10 from rfl, Int.tdiv_eq_ediv_of_nonneg h, zbm32 (by omega) (by omega)]
theorem zmul1 {x y : Int32} (h1 : -2147483648 ≤ x.toInt * y.toInt) (h2 : x.toInt * y.toInt < 2147483648) : (x * y).toInt = x.toInt * y.toInt := by
  rw [Int32.toInt_mul, zbm32 h1 h2]
theorem zneg1 {x : Int32} (h1 : -2147483648 < x.toInt) : (-x).toInt = -x.toInt := by
  have h := zhi x
  rw [Int32.toInt_neg, zbm32 (by omega) (by omega)]
theorem zand255 (x : Int32) : 0 ≤ (x &&& 255).toInt ∧ (x &&& 255).toInt ≤ 255 := by
  obtain ⟨j, hj, e⟩ := pk_andE x (m := 255) 8 (by decide)
  rw [e, znI (by omega)]; omega
def zcnt (f : Nat → Int32) (w : Int) (k : Nat) : Nat → Int
  | 0 => 0
  | n + 1 => (if (f k).toInt = w then 1 else 0) + zcnt f w (k + 1) n
def zrem (f : Nat → Int32) (w : Int) (k e : Int) : Int := zcnt f w k.toNat (e - k).toNat
theorem zrem_end {f : Nat → Int32} {w k e : Int} (h : e ≤ k) : zrem f w k e = 0 := by
  unfold zrem; rw [show (e - k).toNat = 0 by omega]; rfl
theorem zrem_step {f : Nat → Int32} {w e : Int} (x : Int32) (h0 : 0 ≤ x.toInt) (h : x.toInt < e) : zrem f w x.toInt e = (if (f x.toNatClampNeg).toInt = w then 1 else 0) + zrem f w (x.toInt + 1) e := by
  unfold zrem
  rw [show (e - x.toInt).toNat = (e - (x.toInt + 1)).toNat + 1 by omega, show (x.toInt + 1).toNat = x.toInt.toNat + 1 by omega]
  rfl
theorem zcnt_bd (f : Nat → Int32) (w : Int) : ∀ (n k : Nat), 0 ≤ zcnt f w k n ∧ zcnt f w k n ≤ n
  | 0, k => ⟨by simp [zcnt], by simp [zcnt]⟩
  | n + 1, k => by
    have h := zcnt_bd f w n (k + 1)
    simp only [zcnt]
    split <;> omega
theorem zrem_bd (f : Nat → Int32) (w k e : Int) : 0 ≤ zrem f w k e ∧ (k ≤ e → zrem f w k e ≤ e - k) := by
  have h := zcnt_bd f w (e - k).toNat k.toNat
  unfold zrem
  omega
theorem zmw {w m : Int} (h1 : 1 ≤ w) : 0 ≤ m % w ∧ m % w < w ∧ m / w * w = m - m % w := by
  have := Int.emod_add_mul_ediv m w
  have h2 := Int.emod_nonneg m (show w ≠ 0 by omega)
  have h3 := Int.emod_lt_of_pos m (show 0 < w by omega)
  rw [Int.mul_comm] at this
  omega
theorem zdivp {t w : Int32} (h0 : 0 ≤ t.toInt) (hw : 1 ≤ w.toInt) : (t / w).toInt = t.toInt / w.toInt := by
  have h' := zhi t
  have h2 : t.toInt / w.toInt ≤ t.toInt := Int.ediv_le_self _ h0
  have h3 : 0 ≤ t.toInt / w.toInt := Int.ediv_nonneg h0 (by omega)
  rw [Int32.toInt_div, Int.tdiv_eq_ediv_of_nonneg h0, zbm32 (by omega) (by omega)]
theorem zflp (t w : Int32) (h0 : 0 ≤ t.toInt) (hw : 1 ≤ w.toInt) : 0 ≤ (t / w * w).toInt ∧ (t / w * w).toInt ≤ t.toInt ∧ t.toInt < (t / w * w).toInt + w.toInt := by
  have h' := zhi t
  have h := @zmw w.toInt t.toInt hw
  have h5 : 0 ≤ t.toInt / w.toInt * w.toInt := Int.mul_nonneg (Int.ediv_nonneg h0 (by omega)) (by omega)
  have e : (t / w * w).toInt = t.toInt / w.toInt * w.toInt := by
    rw [zmul1 (by rw [zdivp h0 hw]; omega) (by rw [zdivp h0 hw]; omega), zdivp h0 hw]
  rw [e]
  omega
theorem zfln (t w : Int32) (h0 : 0 ≤ t.toInt) (hw : 1 ≤ w.toInt) : -t.toInt ≤ (-(t / w) * w).toInt ∧ (-(t / w) * w).toInt < -t.toInt + w.toInt := by
  have h' := zhi t
  have h := @zmw w.toInt t.toInt hw
  have hd := zdivp h0 hw
  have h3 : 0 ≤ t.toInt / w.toInt := Int.ediv_nonneg h0 (by omega)
  have h5 : 0 ≤ t.toInt / w.toInt * w.toInt := Int.mul_nonneg h3 (by omega)
  have hn : (-(t / w)).toInt = -(t.toInt / w.toInt) := by rw [zneg1 (by omega), hd]
  have e : (-(t / w) * w).toInt = -(t.toInt / w.toInt * w.toInt) := by
    rw [zmul1 (by rw [hn, Int.neg_mul]; omega) (by rw [hn, Int.neg_mul]; omega), hn, Int.neg_mul]
  rw [e]
  omega
theorem zten_bd (j : Nat) (h : j ≤ 18) : 1 ≤ (10 : Int) ^ j ∧ (10 : Int) ^ j ≤ 1000000000000000000 ∧ (10 : Int) * 10 ^ j = 10 ^ (j + 1) ∧ (10 : Int) ^ j < 10 ^ (j + 1) ∧ ((10 : Int) ^ j ≤ 922337203685477580 → j ≤ 17) ∧ (j ≤ 17 → (10 : Int) ^ (j + 1) ≤ 1000000000000000000) := by
  have h : j = 0 ∨ j = 1 ∨ j = 2 ∨ j = 3 ∨ j = 4 ∨ j = 5 ∨ j = 6 ∨ j = 7 ∨ j = 8 ∨ j = 9 ∨ j = 10 ∨ j = 11 ∨ j = 12 ∨ j = 13 ∨ j = 14 ∨ j = 15 ∨ j = 16 ∨ j = 17 ∨ j = 18 := by omega
  rcases h with rfl | rfl | rfl | rfl | rfl | rfl | rfl | rfl | rfl | rfl | rfl | rfl | rfl | rfl | rfl | rfl | rfl | rfl | rfl <;> decide
