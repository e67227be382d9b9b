/-! division of longs; the class's rounding and its digits -/
theorem zl_divp {a b : Int64} (ha : 0 ≤ a.toInt) (hb : 0 < b.toInt) : (a / b).toInt = a.toInt / b.toInt := by
  have h' := zl_hi a
  have h1 := Int.ediv_nonneg ha (Int.le_of_lt hb)
  have h2 := Int.ediv_le_self b.toInt ha
  rw [Int64.toInt_div, Int.tdiv_eq_ediv_of_nonneg ha, zbm (by omega) (by omega)]
theorem zl_lost {a b : Int64} (ha : 0 ≤ a.toInt) (hb : 0 < b.toInt) (h17 : b.toInt ≤ 1000000000000000000) : (a - a / b * b).toInt = a.toInt - a.toInt / b.toInt * b.toInt ∧ 0 ≤ a.toInt - a.toInt / b.toInt * b.toInt ∧ a.toInt - a.toInt / b.toInt * b.toInt < b.toInt := by
  have h' := zl_hi a
  have e := zl_divp ha hb
  have q := Int.mul_ediv_add_emod a.toInt b.toInt
  have m0 := Int.emod_nonneg a.toInt (show b.toInt ≠ 0 by omega)
  have m1 := Int.emod_lt_of_pos a.toInt hb
  have q2 : a.toInt / b.toInt * b.toInt = b.toInt * (a.toInt / b.toInt) := Int.mul_comm _ _
  have em : (a / b * b).toInt = a.toInt / b.toInt * b.toInt := by
    rw [zl_mul1] <;> rw [e] <;> omega
  have es : (a - a / b * b).toInt = a.toInt - a.toInt / b.toInt * b.toInt := by
    rw [zl_sub1] <;> rw [em] <;> omega
  exact ⟨es, by omega, by omega⟩
theorem p10_17 {x : Int} (h0 : 1 ≤ x) (h1 : x ≤ 17) : (10 : Int) ^ x.toNat = 10 ^ (x - 1).toNat * 10 ∧ 0 < (10 : Int) ^ (x - 1).toNat ∧ (10 : Int) ^ x.toNat ≤ 100000000000000000 := by
  refine ⟨?_, p10 _, ?_⟩
  · rw [show x.toNat = (x - 1).toNat + 1 by omega, Int.pow_succ]
  · have t : ∀ k : Fin 18, (10 : Int) ^ k.1 ≤ 100000000000000000 := by decide
    exact t ⟨x.toNat, by omega⟩
theorem cut_dn {a b : Int64} {x : Int} (ha : 0 ≤ a.toInt) (hb : b.toInt = 10 ^ x.toNat) (h0 : 1 ≤ x) (h1 : x ≤ 17) (h : (a - a / b * b).toInt < (b - (a - a / b * b)).toInt) : (a / b).toInt = rnd a.toInt (x - 1).toNat := by
  obtain ⟨p1, p2, p3⟩ := p10_17 h0 h1
  have hb0 : 0 < b.toInt := by rw [hb, p1]; omega
  obtain ⟨l1, l2, l3⟩ := zl_lost ha hb0 (by omega)
  have hs : (b - (a - a / b * b)).toInt = b.toInt - (a.toInt - a.toInt / b.toInt * b.toInt) := by rw [zl_sub1] <;> rw [l1] <;> omega
  rw [hs, l1] at h
  rw [zl_divp ha hb0]
  unfold rnd
  rw [show (x - 1).toNat + 1 = x.toNat by omega]
  have c := rnd_c (v := a.toInt) p2 ha
  rw [← p1, ← hb] at c
  rw [if_neg (fun q => (c.1 q) h), ← hb]; omega
theorem cut_up {a b : Int64} {x : Int} (ha : 0 ≤ a.toInt) (ha2 : a.toInt < 100000000000000000) (hb : b.toInt = 10 ^ x.toNat) (h0 : 1 ≤ x) (h1 : x ≤ 17) (h : ¬ (a - a / b * b).toInt < (b - (a - a / b * b)).toInt) : (a / b + 1).toInt = rnd a.toInt (x - 1).toNat := by
  obtain ⟨p1, p2, p3⟩ := p10_17 h0 h1
  have hb0 : 0 < b.toInt := by rw [hb, p1]; omega
  obtain ⟨l1, l2, l3⟩ := zl_lost ha hb0 (by omega)
  have hs : (b - (a - a / b * b)).toInt = b.toInt - (a.toInt - a.toInt / b.toInt * b.toInt) := by rw [zl_sub1] <;> rw [l1] <;> omega
  rw [hs, l1] at h
  have n0 := Int.ediv_nonneg ha (Int.le_of_lt hb0)
  have n1 := Int.ediv_le_self b.toInt ha
  have e := zl_divp ha hb0
  have e1 : (a / b + 1).toInt = a.toInt / b.toInt + 1 := by rw [zl_add1] <;> simp only [e, Int64.reduceToInt] <;> omega
  rw [e1]
  unfold rnd
  rw [show (x - 1).toNat + 1 = x.toNat by omega]
  have c := rnd_c (v := a.toInt) p2 ha
  rw [← p1, ← hb] at c
  rw [if_pos (c.2 h), ← hb]
