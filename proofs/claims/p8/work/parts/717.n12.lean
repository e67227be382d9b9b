/-! both roundings of one number -/
theorem rdR_rdM {g : Nat → Int32} {n s : Nat} {v p d t : Int} (hd : dD g n) (hv : v = dV g n * 10 ^ s) (hns : n + s ≤ 17) (hp : p = t - n - s) (hk : t + d < n) : rdR g (t + d) = rdM v p d := by
  have b := dV_bd n hd
  unfold rdM
  rw [if_neg (by omega)]
  rcases Int.lt_or_le (t + d) 0 with c | c
  · rw [rdR_n c]
    split
    · rfl
    · obtain ⟨j, hj⟩ : ∃ j : Nat, (-p - d - 1).toNat = j + s ∧ n ≤ j := ⟨(-p - d - 1).toNat - s, by omega, by omega⟩
      rw [hj.1, hv, rnd_z]
      unfold rnd
      rw [dV_big hd hj.2, dV_big hd (by omega)]
      decide
  · rw [if_neg (by omega)]
    obtain ⟨k, hkk⟩ : ∃ k : Nat, (k : Int) = t + d := ⟨(t + d).toNat, by omega⟩
    rw [show (-p - d - 1).toNat = (n - 1 - k) + s by omega, hv, rnd_z, dV_rnd hd (by omega)]
    unfold rdR
    rw [if_neg (by omega), ← hkk]
    rfl
theorem rdM_big {g : Nat → Int32} {n s : Nat} {v p d t : Int} (hv : v = dV g n * 10 ^ s) (hp : p = t - n - s) (hk : (n : Int) ≤ t + d) (hc : (0 : Int) < -p - d → (-p - d ≤ s ∧ s ≤ 17)) : dV g n * 10 ^ (t + d - n).toNat = rdM v p d := by
  unfold rdM
  split
  · rw [hv, Int.mul_assoc, ← Int.pow_add, show s + (p + d).toNat = (t + d - n).toNat by omega]
  · have hc := hc (by omega)
    rw [if_neg (by omega)]
    obtain ⟨j, hj⟩ : ∃ j : Nat, (-p - d).toNat = j + 1 := ⟨(-p - d).toNat - 1, by omega⟩
    have hs : s = (t + d - n).toNat + (j + 1) := by omega
    rw [show (-p - d - 1).toNat = j by omega, hv, hs, Int.pow_add, ← Int.mul_assoc]
    unfold rnd
    rw [Int.mul_ediv_cancel _ (by have := p10 (j + 1); omega), Int.pow_succ, Int.mul_comm (10 ^ j) 10, ← Int.mul_assoc, Int.mul_ediv_cancel _ (by have := p10 j; omega)]
    rw [if_neg (by omega)]; omega
