theorem spW_n {v s a : Int} {I : Nat → Int32} {J : Nat → Int64} (hs : s < 0) (ha : a = v / 10 ^ (-s).toNat) (h : dgM I J a 0) : dgM I J (spW v s) 0 := by unfold spW; rw [if_pos hs, ← ha]; exact h
theorem spW_p {v s : Int} {I : Nat → Int32} {J : Nat → Int64} (hs : ¬ s < 0) (h : dgM I J (v * 10 ^ s.toNat) ((0 : Int32).toInt)) : dgM I J (spW v s) 0 := by unfold spW; rw [if_neg hs]; exact h
theorem spR_0 {v s : Int} {J0 : Nat → Int64} (hs : ¬ s < 0) : (zul J0 1 0 1).toInt = spR v s := by unfold spR; rw [if_neg hs, zul_s]; rfl
theorem sp_r {J0 : Nat → Int64} {a : Int64} {w : Int} (h : a.toInt = w) : (zul J0 1 a 1).toInt = w := by rw [zul_s]; exact h
theorem sp_m {b q : Int64} {x : Int} (h0 : 0 ≤ b.toInt) (h1 : b.toInt < 10 ^ x.toNat) (hx : 0 ≤ x) (hx2 : ¬ 15 < x) (hq : q.toInt = 10 ^ (15 - x).toNat) : (b * q).toInt = b.toInt * q.toInt := by
  have hp := p10 (15 - x).toNat
  have e : (10 : Int) ^ x.toNat * 10 ^ (15 - x).toNat = 1000000000000000 := by
    rw [← Int.pow_add, show x.toNat + (15 - x).toNat = 15 by omega]; decide
  have l : b.toInt * q.toInt ≤ 10 ^ x.toNat * 10 ^ (15 - x).toNat := by rw [hq]; exact Int.mul_le_mul_of_nonneg_right (by omega) (by omega)
  have n : 0 ≤ b.toInt * q.toInt := Int.mul_nonneg h0 (by omega)
  exact zl_mul1 (by omega) (by omega)
theorem sp_v {v r : Int64} {x s : Int} (h0 : 0 ≤ v.toInt) (hr : r.toInt = 10 ^ x.toNat) (hx : x = -s) (h17 : x ≤ 17) : (v / r).toInt = v.toInt / 10 ^ (-s).toNat ∧ (v - v / r * r).toInt = v.toInt % 10 ^ (-s).toNat := by
  have p := p10 x.toNat
  have e : (10 : Int) ^ 17 = 100000000000000000 := by decide
  have := p10_le (show x.toNat ≤ 17 by omega)
  subst hx
  exact ⟨by rw [zl_divp h0 (by omega), hr], by rw [zl_rem h0 (by omega) (by omega), hr]⟩
theorem spR_bd {v s : Int} (h0 : 0 ≤ v) (h1 : v < 100000000000000000) : 0 ≤ spR v s ∧ spR v s ≤ 1000000000000000 := by
  unfold spR
  split
  · have a := rd_15 (v := v) (b := (-s).toNat) h0
    have p := p10 (-s).toNat
    unfold rdM
    split
    · have e : (10 : Int) ^ (-s).toNat * 10 ^ (s + 15).toNat = 1000000000000000 := by
        rw [← Int.pow_add, show (-s).toNat + (s + 15).toNat = 15 by omega]; decide
      have hp := p10 (s + 15).toNat
      exact ⟨Int.mul_nonneg a.1 (by omega), by rw [← e]; exact Int.mul_le_mul_of_nonneg_right (by omega) (by omega)⟩
    split
    · decide
    · unfold rnd
      have hq := p10 ((-s - 15 - 1).toNat + 1)
      have e : (10 : Int) ^ (-s).toNat = 1000000000000000 * 10 ^ ((-s - 15 - 1).toNat + 1) := by
        rw [show (1000000000000000 : Int) = 10 ^ 15 by decide, ← Int.pow_add, show 15 + ((-s - 15 - 1).toNat + 1) = (-s).toNat by omega]
      have b1 : v % 10 ^ (-s).toNat / 10 ^ ((-s - 15 - 1).toNat + 1) < 1000000000000000 := by
        refine Int.ediv_lt_of_lt_mul hq ?_
        rw [← e]; exact a.2
      have b0 := Int.ediv_nonneg a.1 (Int.le_of_lt hq)
      split <;> omega
  · decide
theorem em_le {v b : Int} (h : 0 ≤ v) (hb : 0 < b) : v % b ≤ v := by
  have m := zmw (m := v) (w := b) (by omega)
  have n := Int.mul_nonneg (Int.ediv_nonneg h (Int.le_of_lt hb)) (Int.le_of_lt hb)
  omega
