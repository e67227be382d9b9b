/-! rows of digits as numbers -/
def dV (g : Nat → Int32) : Nat → Int
  | 0 => 0
  | n + 1 => 10 * dV g n + (g n).toInt
def dD (g : Nat → Int32) (n : Nat) : Prop := ∀ k : Nat, k < n → 0 ≤ (g k).toInt ∧ (g k).toInt ≤ 9
theorem dD_le {g : Nat → Int32} {n m : Nat} (h : dD g n) (hm : m ≤ n) : dD g m := fun k hk => h k (by omega)
theorem dV_bd {g : Nat → Int32} : ∀ n : Nat, dD g n → 0 ≤ dV g n ∧ dV g n < 10 ^ n
  | 0, _ => by refine ⟨Int.le_refl _, ?_⟩; show (0 : Int) < 10 ^ 0; decide
  | n + 1, h => by
    have ih := dV_bd n (dD_le h (by omega))
    have hd := h n (by omega)
    show 0 ≤ 10 * dV g n + (g n).toInt ∧ 10 * dV g n + (g n).toInt < 10 ^ (n + 1)
    rw [Int.pow_succ]
    omega
theorem dV_upd {g : Nat → Int32} {v : Int32} : ∀ (n k : Nat), n ≤ k → dV (upd g k v) n = dV g n
  | 0, _, _ => rfl
  | n + 1, k, h => by
    show 10 * dV (upd g k v) n + (upd g k v n).toInt = 10 * dV g n + (g n).toInt
    rw [dV_upd n k (by omega), pk_un (show n ≠ k by omega)]
theorem dV_cut {g : Nat → Int32} (n : Nat) : ∀ j : Nat, dD g (n + j) → dV g (n + j) / 10 ^ j = dV g n
  | 0, _ => by rw [Nat.add_zero]; show dV g n / 1 = _; rw [Int.ediv_one]
  | j + 1, h => by
    have ih := dV_cut n j (dD_le h (by omega))
    have hd := h (n + j) (by omega)
    show (10 * dV g (n + j) + (g (n + j)).toInt) / 10 ^ (j + 1) = _
    rw [Int.pow_succ, Int.mul_comm (10 ^ j) 10, ← Int.ediv_ediv_of_nonneg (by decide)]
    rw [show (10 * dV g (n + j) + (g (n + j)).toInt) / 10 = dV g (n + j) by omega]
    exact ih
/-- the digit k of the first n -/
theorem dV_dig {g : Nat → Int32} {n k : Nat} (h : dD g n) (hk : k < n) : dV g n / 10 ^ (n - 1 - k) % 10 = (g k).toInt := by
  have e := dV_cut (g := g) (k + 1) (n - 1 - k) (by rw [show k + 1 + (n - 1 - k) = n by omega]; exact h)
  rw [show k + 1 + (n - 1 - k) = n by omega] at e
  rw [e]
  have hd := h k hk
  show (10 * dV g k + (g k).toInt) % 10 = _
  omega
/-- behind the digits only zeros come -/
theorem dV_big {g : Nat → Int32} {n j : Nat} (h : dD g n) (hj : n ≤ j) : dV g n / 10 ^ j = 0 := by
  have b := dV_bd n h
  refine Int.ediv_eq_zero_of_lt b.1 (Int.lt_of_lt_of_le b.2 ?_)
  obtain ⟨t, rfl⟩ : ∃ t, j = n + t := ⟨j - n, by omega⟩
  rw [Int.pow_add]
  have h1 : (0 : Int) < 10 ^ n := Int.pow_pos (by decide)
  have h2 : (1 : Int) ≤ 10 ^ t := by have : (0 : Int) < 10 ^ t := Int.pow_pos (by decide); omega
  calc (10 : Int) ^ n = 10 ^ n * 1 := (Int.mul_one _).symm
    _ ≤ 10 ^ n * 10 ^ t := Int.mul_le_mul_of_nonneg_left h2 (by omega)
/-- rounding: half of a unit goes up -/
def rnd (v : Int) (j : Nat) : Int := v / 10 ^ (j + 1) + (if 5 ≤ v / 10 ^ j % 10 then 1 else 0)
theorem p10 (j : Nat) : (0 : Int) < 10 ^ j := Int.pow_pos (by decide)
/-- zeros behind change nothing -/
theorem rnd_z {v : Int} (j : Nat) : ∀ t : Nat, rnd (v * 10 ^ t) (j + t) = rnd v j
  | 0 => by show rnd (v * 1) (j + 0) = _; rw [Int.mul_one, Nat.add_zero]
  | t + 1 => by
    have ih := rnd_z (v := v) j t
    unfold rnd at ih ⊢
    have e : v * 10 ^ (t + 1) = v * 10 ^ t * 10 := by rw [Int.pow_succ, Int.mul_assoc]
    have d : ∀ k : Nat, v * 10 ^ t * 10 / 10 ^ (k + 1) = v * 10 ^ t / 10 ^ k := fun k => by
      rw [Int.pow_succ]; exact Int.mul_ediv_mul_of_pos_left _ _ (by decide)
    rw [e, show j + (t + 1) + 1 = j + t + 1 + 1 by omega, d, show j + (t + 1) = j + t + 1 by omega, d]
    exact ih
/-- a row's digits, cut behind k of them: rounding by the digit behind -/
theorem dV_rnd {g : Nat → Int32} {n k : Nat} (h : dD g n) (hk : k < n) : rnd (dV g n) (n - 1 - k) = dV g k + (if 5 ≤ (g k).toInt then 1 else 0) := by
  unfold rnd
  rw [dV_dig h hk]
  have e := dV_cut (g := g) k (n - k) (by rw [show k + (n - k) = n by omega]; exact h)
  rw [show k + (n - k) = n by omega] at e
  rw [show n - 1 - k + 1 = n - k by omega, e]
