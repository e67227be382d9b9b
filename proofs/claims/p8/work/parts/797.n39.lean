/-! a number's digits into a row -/
theorem em10 {w : Int} (n : Nat) : w % 10 ^ (n + 1) = 10 * (w / 10 % 10 ^ n) + w % 10 := by
  have p := p10 n
  have r : 0 ≤ w / 10 % 10 ^ n ∧ w / 10 % 10 ^ n < 10 ^ n := ⟨Int.emod_nonneg _ (by omega), Int.emod_lt_of_pos _ p⟩
  have e : w = (10 * (w / 10 % 10 ^ n) + w % 10) + 10 ^ (n + 1) * (w / 10 / 10 ^ n) := by
    have a : w / 10 = 10 ^ n * (w / 10 / 10 ^ n) + w / 10 % 10 ^ n := (Int.mul_ediv_add_emod _ _).symm
    have b : (10 : Int) ^ (n + 1) * (w / 10 / 10 ^ n) = 10 * (10 ^ n * (w / 10 / 10 ^ n)) := by rw [Int.pow_succ, Int.mul_comm (10 ^ n) 10, Int.mul_assoc]
    rw [b]
    omega
  have lt : 10 * (w / 10 % 10 ^ n) + w % 10 < 10 ^ (n + 1) := by rw [Int.pow_succ]; omega
  have nn : 0 ≤ 10 * (w / 10 % 10 ^ n) + w % 10 := by omega
  calc w % 10 ^ (n + 1) = ((10 * (w / 10 % 10 ^ n) + w % 10) + 10 ^ (n + 1) * (w / 10 / 10 ^ n)) % 10 ^ (n + 1) := by rw [← e]
    _ = (10 * (w / 10 % 10 ^ n) + w % 10) % 10 ^ (n + 1) := Int.add_mul_emod_self_left _ _ _
    _ = _ := Int.emod_eq_of_lt nn lt
theorem dV_of {f : Nat → Int32} {v : Int} : ∀ (n k : Nat), (∀ j : Nat, j < n → (f j).toInt = v / 10 ^ (k + (n - 1 - j)) % 10) → dV f n = v / 10 ^ k % 10 ^ n
  | 0, k, _ => by show (0 : Int) = _ % 1; omega
  | n + 1, k, h => by
    have ih := dV_of (f := f) (v := v) n (k + 1) (fun j hj => by rw [h j (by omega), show k + (n + 1 - 1 - j) = k + 1 + (n - 1 - j) by omega])
    have hn := h n (by omega)
    rw [show k + (n + 1 - 1 - n) = k by omega] at hn
    show 10 * dV f n + (f n).toInt = _
    rw [ih, hn, em10 n, Int.pow_succ, ← Int.ediv_ediv_of_nonneg (Int.le_of_lt (p10 k))]
