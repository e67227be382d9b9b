/-! the digit of a number head * 10 ^ zeros -/
def dgt (M q : Int) : Int := if q < 0 then 0 else M / 10 ^ q.toNat % 10
theorem zl_i32 {v : Int64} (h0 : 0 ≤ v.toInt) (h1 : v.toInt < 2147483648) : (v.toInt32).toInt = v.toInt := by
  have e : v = (Int32.ofInt v.toInt).toInt64 := zl_eq.2 (by rw [zi64, Int32.toInt_ofInt_of_le (by omega) (by omega)])
  rw [e, Int32.toInt32_toInt64, zi64]
theorem dg_r {a b : Int64} (ha : 0 ≤ a.toInt) (hb : 0 < b.toInt) : ((a / b - a / b / 10 * 10).toInt32).toInt = a.toInt / b.toInt % 10 := by
  have e := zl_divp ha hb
  have n0 := Int.ediv_nonneg ha (Int.le_of_lt hb)
  have l := zl_lost (a := a / b) (b := 10) (by omega) (by decide) (by decide)
  simp only [Int64.reduceToInt] at l
  rw [zl_i32 (by omega) (by omega), l.1, e]
  omega
theorem dgt_lo {H z q : Int} (hq : q < z) : dgt (H * 10 ^ z.toNat) q = 0 := by
  unfold dgt
  split
  · rfl
  · obtain ⟨t, ht⟩ : ∃ t : Nat, z.toNat = q.toNat + (t + 1) := ⟨z.toNat - q.toNat - 1, by omega⟩
    rw [ht, Int.pow_add, Int.mul_comm (10 ^ q.toNat), ← Int.mul_assoc, Int.mul_ediv_cancel _ (by have := p10 q.toNat; omega), Int.pow_succ, ← Int.mul_assoc]
    omega
theorem dgt_in {H z q b : Int} (h0 : 0 ≤ z) (hb : b = q - z) (hb0 : 0 ≤ b) : dgt (H * 10 ^ z.toNat) q = H / 10 ^ b.toNat % 10 := by
  unfold dgt
  rw [if_neg (by omega), show q.toNat = b.toNat + z.toNat by omega, Int.pow_add]
  rw [Int.mul_ediv_mul_of_pos_left _ _ (p10 _)]
theorem dgt_hi {H z q b : Int} (h0 : 0 ≤ z) (hH : 0 ≤ H) (hH2 : H < 1000000000000000000) (hb : b = q - z) (hb0 : 19 ≤ b) : dgt (H * 10 ^ z.toNat) q = 0 := by
  rw [dgt_in h0 hb (by omega)]
  have : (1000000000000000000 : Int) ≤ 10 ^ b.toNat := by
    obtain ⟨t, ht⟩ : ∃ t : Nat, b.toNat = 18 + t := ⟨b.toNat - 18, by omega⟩
    rw [ht, Int.pow_add]
    have h1 : (1 : Int) ≤ 10 ^ t := by have := p10 t; omega
    have h2 : (10 : Int) ^ 18 = 1000000000000000000 := by decide
    rw [h2]
    omega
  rw [Int.ediv_eq_zero_of_lt hH (by omega)]; rfl
