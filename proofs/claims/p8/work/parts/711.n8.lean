/-! the reference's digit: row of n digits, the last one counts 10 ^ t in units of the last decimal -/
theorem r_dig {g : Nat → Int32} {n : Nat} {t q i : Int} (h : dD g n) (ht : 0 ≤ t) (hi : i = n + t - 1 - q) (hq : 0 ≤ q) : dgt (dV g n * 10 ^ t.toNat) q = (if 0 ≤ i ∧ i < n then (g i.toNat).toInt else 0) := by
  rcases Int.lt_or_le q t with c | c
  · rw [dgt_lo c, if_neg (by omega)]
  · rw [dgt_in (b := q - t) ht rfl (by omega)]
    rcases Int.lt_or_le (q - t) n with k | k
    · have e := dV_dig (g := g) (n := n) (k := i.toNat) h (by omega)
      rw [show n - 1 - i.toNat = (q - t).toNat by omega] at e
      rw [e, if_pos (by omega)]
    · rw [dV_big h (show n ≤ (q - t).toNat by omega), if_neg (by omega)]; rfl
/-- one more at the end: a nine becomes a zero and carries, another digit grows -/
theorem dV_nine {g : Nat → Int32} {k : Nat} (h9 : (g k).toInt = 9) : dV g (k + 1) + 1 = 10 * (dV g k + 1) := by
  show 10 * dV g k + (g k).toInt + 1 = _; omega
theorem dV_inc {g : Nat → Int32} {k : Nat} {v : Int32} (hv : v.toInt = (g k).toInt + 1) : dV (upd g k v) (k + 1) = dV g (k + 1) + 1 := by
  show 10 * dV (upd g k v) k + (upd g k v k).toInt = 10 * dV g k + (g k).toInt + 1
  rw [dV_upd k k (Nat.le_refl k), pk_us, hv]; omega
/-- zeros behind the first k digits -/
def dz0 (g : Nat → Int32) (k n : Nat) : Prop := ∀ j : Nat, k ≤ j → j < n → (g j).toInt = 0
theorem dV_z0 {g : Nat → Int32} {k : Nat} : ∀ m : Nat, dz0 g k (k + m) → dV g (k + m) = dV g k * 10 ^ m
  | 0, _ => by rw [Nat.add_zero]; show _ = dV g k * 1; rw [Int.mul_one]
  | m + 1, h => by
    have ih := dV_z0 m (fun j a b => h j a (by omega))
    have h0 := h (k + m) (by omega) (by omega)
    show 10 * dV g (k + m) + (g (k + m)).toInt = _
    rw [ih, h0, Int.pow_succ, Int.add_zero, Int.mul_comm 10, Int.mul_assoc]
/-- the carry's invariant: behind digit k only zeros stand, one is still to be added there -/
theorem dV_car {g : Nat → Int32} {k m : Nat} {v : Int32} (hz : dz0 g (k + 1) (k + 1 + m)) (hv : v.toInt = (g k).toInt + 1) : dV (upd g k v) (k + 1 + m) = (dV g (k + 1) + 1) * 10 ^ m := by
  rw [dV_z0 m (fun j a b => by rw [pk_un (show j ≠ k by omega)]; exact hz j a b), dV_inc hv]
