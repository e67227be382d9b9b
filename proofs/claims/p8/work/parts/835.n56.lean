/-! DATE: hours, thousandths, a year's figures of both sides -/
theorem h12_e {s : Int} (h0 : 0 ≤ s) (h1 : s < 86400) : (s / 3600 + 11) % 12 + 1 = (if s / 3600 % 12 = 0 then 12 else s / 3600 % 12) := by
  split <;> omega
theorem all_h {N s : Int} (h0 : 0 ≤ s) (h1 : s < 86400) : (86400 * N + s) / 3600 = N * 24 + s / 3600 ∧ (86400 * N + s) / 60 = N * 1440 + s / 60 ∧ 86400 * N + s = N * 86400 + s := by omega
theorem late_e {s : Int} : (43200 ≤ s) ↔ ¬ s / 3600 < 12 := by omega
theorem thou_e {X P c : Int} (h0 : 0 ≤ c) (hc : c ≤ P) (hP : P ≤ 3) : X * 10 ^ (3 - P).toNat / 10 ^ (3 - c).toNat = X / 10 ^ (P - c).toNat := by
  rw [show (3 - c).toNat = (P - c).toNat + (3 - P).toNat by omega, Int.pow_add, Int.mul_ediv_mul_of_pos_left _ _ (p10 _)]
