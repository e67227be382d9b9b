/-! powers of ten of the table -/
theorem zTens_t : ∀ j : Fin 19, (zTens j.1).toInt = 10 ^ j.1 := by decide +kernel
theorem zTens_p {x : Int32} (h0 : 0 ≤ x.toInt) (h1 : x.toInt ≤ 18) : (zTens x.toNatClampNeg).toInt = 10 ^ x.toInt.toNat := by
  rw [zcl]; exact zTens_t ⟨x.toInt.toNat, by omega⟩
/-- how many digits a number has: all powers below n are at most v, the n-th is above it (or n is 19) -/
def dgs (v n : Int) : Prop := 0 ≤ n ∧ n ≤ 19 ∧ (∀ j : Nat, (j : Int) < n → (10 : Int) ^ j ≤ v) ∧ (n = 19 ∨ v < 10 ^ n.toNat)
theorem dgs_det {v n m : Int} (h : dgs v n) (k : dgs v m) : n = m := by
  obtain ⟨a0, a1, a2, a3⟩ := h; obtain ⟨b0, b1, b2, b3⟩ := k
  rcases Int.lt_trichotomy n m with q | q | q
  · have := b2 n.toNat (by omega); rcases a3 with c | c <;> omega
  · exact q
  · have := a2 m.toNat (by omega); rcases b3 with c | c <;> omega
theorem dgs_st {v r : Int} {x : Int32} (h : ∀ j : Nat, (j : Int) < x.toInt → (10 : Int) ^ j ≤ v) (h0 : 0 ≤ x.toInt) (hx : (10 : Int) ^ x.toInt.toNat ≤ v) (hr : r = x.toInt + 1) : ∀ j : Nat, (j : Int) < r → (10 : Int) ^ j ≤ v := fun j hj => by
  rcases Int.lt_or_le (j : Int) x.toInt with c | c
  · exact h j c
  · rw [show j = x.toInt.toNat by omega]; exact hx
theorem dgs_0 {v : Int} : ∀ j : Nat, (j : Int) < (0 : Int32).toInt → (10 : Int) ^ j ≤ v := fun j hj => by simp only [Int32.reduceToInt] at hj; omega
theorem dgs_x {v : Int} {x : Int32} (h : ∀ j : Nat, (j : Int) < x.toInt → (10 : Int) ^ j ≤ v) (h0 : 0 ≤ x.toInt) (h1 : x.toInt ≤ 19) (hx : v < (10 : Int) ^ x.toInt.toNat) : dgs v x.toInt := ⟨h0, h1, h, Or.inr hx⟩
theorem dgs_e {v : Int} {x : Int32} (h : ∀ j : Nat, (j : Int) < x.toInt → (10 : Int) ^ j ≤ v) (h1 : x.toInt = 19) : dgs v x.toInt := ⟨by omega, by omega, h, Or.inl h1⟩
/-- the class's way to round -/
theorem rnd_c {v u : Int} (hu : 0 < u) (hv : 0 ≤ v) : (5 ≤ v / u % 10) ↔ ¬ (v - v / (u * 10) * (u * 10) < u * 10 - (v - v / (u * 10) * (u * 10))) := by
  have h1 : v / (u * 10) = v / u / 10 := (Int.ediv_ediv_of_nonneg (by omega)).symm
  have h2 := Int.mul_ediv_add_emod v u
  have h3 := Int.emod_nonneg v (show u ≠ 0 by omega)
  have h4 := Int.emod_lt_of_pos v hu
  have h5 := Int.mul_ediv_add_emod (v / u) 10
  have h6 := Int.emod_nonneg (v / u) (show (10 : Int) ≠ 0 by decide)
  have h7 := Int.emod_lt_of_pos (v / u) (show (0 : Int) < 10 by decide)
  obtain ⟨q, hq⟩ : ∃ q, q = v / u := ⟨_, rfl⟩
  obtain ⟨t, ht⟩ : ∃ t, t = q / 10 := ⟨_, rfl⟩
  obtain ⟨d, hd⟩ : ∃ d, d = q % 10 := ⟨_, rfl⟩
  obtain ⟨m, hm⟩ : ∃ m, m = v % u := ⟨_, rfl⟩
  rw [← hq] at h1 h2 h5 h6 h7 ⊢
  rw [← ht] at h1 h5
  rw [← hd] at h5 h6 h7 ⊢
  rw [← hm] at h2 h3 h4
  rw [h1]
  have e : v = u * (10 * t + d) + m := by rw [h5]; omega
  have e2 : v - t * (u * 10) = u * d + m := by
    rw [e, Int.mul_add, ← Int.mul_assoc, Int.mul_comm u 10]
    have : t * (10 * u) = 10 * u * t := Int.mul_comm _ _
    rw [this]; omega
  rw [e2]
  have hud : ∀ k : Int, 0 ≤ k → (d ≤ k → u * d ≤ u * k) ∧ (k ≤ d → u * k ≤ u * d) := fun k _ => ⟨fun c => Int.mul_le_mul_of_nonneg_left c (by omega), fun c => Int.mul_le_mul_of_nonneg_left c (by omega)⟩
  constructor
  · intro c
    have := (hud 5 (by omega)).2 c
    omega
  · intro c
    rcases Int.lt_or_le d 5 with k | k
    · have := (hud 4 (by omega)).1 (by omega)
      omega
    · exact k
