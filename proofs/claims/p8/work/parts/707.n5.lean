/-! how many digits a number has; a number rounded to so many decimals -/
def dnc (M n : Int) : Prop := (M = 0 ∧ n = 0) ∨ (0 < M ∧ 1 ≤ n ∧ 10 ^ (n - 1).toNat ≤ M ∧ M < 10 ^ n.toNat)
theorem p10_le {a b : Nat} (h : a ≤ b) : (10 : Int) ^ a ≤ 10 ^ b := by
  obtain ⟨t, rfl⟩ : ∃ t, b = a + t := ⟨b - a, by omega⟩
  rw [Int.pow_add]
  have h1 := p10 a
  have h2 : (1 : Int) ≤ 10 ^ t := by have := p10 t; omega
  calc (10 : Int) ^ a = 10 ^ a * 1 := (Int.mul_one _).symm
    _ ≤ 10 ^ a * 10 ^ t := Int.mul_le_mul_of_nonneg_left h2 (by omega)
theorem dnc_det {M n m : Int} (h : dnc M n) (k : dnc M m) : n = m := by
  rcases h with ⟨a, b⟩ | ⟨a, b, c, d⟩ <;> rcases k with ⟨a', b'⟩ | ⟨a', b', c', d'⟩
  · omega
  · omega
  · omega
  · rcases Int.lt_trichotomy n m with q | q | q
    · have := p10_le (show n.toNat ≤ (m - 1).toNat by omega); omega
    · exact q
    · have := p10_le (show m.toNat ≤ (n - 1).toNat by omega); omega
theorem dnc_i {H z n : Int} (hH : 0 < H) (hH2 : H < 1000000000000000000) (hz : 0 ≤ z) (h : dgs H n) : dnc (H * 10 ^ z.toNat) (n + z) := by
  obtain ⟨n0, n1, lo, hi⟩ := h
  have n19 : ¬ n = 19 := fun e => by
    have := lo 18 (by omega)
    have e2 : (10 : Int) ^ 18 = 1000000000000000000 := by decide
    omega
  have hi2 := hi.resolve_left n19
  have n1' : 1 ≤ n := by
    rcases Int.lt_or_le 0 n with c | c
    · omega
    · have : n = 0 := by omega
      subst this
      have e : (10 : Int) ^ (0 : Int).toNat = 1 := by decide
      omega
  have lo2 := lo (n - 1).toNat (by omega)
  have pz := p10 z.toNat
  refine Or.inr ⟨Int.mul_pos hH pz, by omega, ?_, ?_⟩
  · rw [show (n + z - 1).toNat = (n - 1).toNat + z.toNat by omega, Int.pow_add]
    exact Int.mul_le_mul_of_nonneg_right lo2 (by omega)
  · rw [show (n + z).toNat = n.toNat + z.toNat by omega, Int.pow_add]
    exact Int.mul_lt_mul_of_pos_right hi2 pz
def rdM (v p d : Int) : Int := if -p - d ≤ 0 then v * 10 ^ (p + d).toNat else if 17 < -p - d then 0 else rnd v (-p - d - 1).toNat
theorem rnd_bd {v : Int} {j : Nat} (h0 : 0 ≤ v) (h1 : v < 100000000000000000) : 0 ≤ rnd v j ∧ rnd v j ≤ 100000000000000000 := by
  unfold rnd
  have a := Int.ediv_nonneg h0 (Int.le_of_lt (p10 (j + 1)))
  have b := Int.ediv_le_self (10 ^ (j + 1)) h0
  split <;> omega
/-- what Digits holds -/
def dgM (I : Nat → Int32) (J : Nat → Int64) (M d : Int) : Prop := (0 ≤ (J 0).toInt ∧ (J 0).toInt < 1000000000000000000 ∧ 0 ≤ (I 1).toInt ∧ (I 1).toInt ≤ 2000 ∧ (I 3).toInt = d) ∧ (J 0).toInt * 10 ^ (I 1).toInt.toNat = M ∧ dnc M (I 2).toInt
theorem dgM_z {I : Nat → Int32} {J : Nat → Int64} {d M : Int} (hM : M = 0) (hJ : (J 0).toInt = 0) (h1 : (I 1).toInt = 0) (h2 : (I 2).toInt = 0) (h3 : (I 3).toInt = d) : dgM I J M d := by
  subst hM
  refine ⟨by omega, ?_, Or.inl ⟨rfl, h2⟩⟩
  rw [hJ, Int.zero_mul]
theorem dgM_p {I : Nat → Int32} {J : Nat → Int64} {d M H z n : Int} (hM : M = H * 10 ^ z.toNat) (hH : 0 < H) (hH2 : H < 1000000000000000000) (hz : 0 ≤ z) (hz2 : z ≤ 2000) (hn : dgs H n) (hJ : (J 0).toInt = H) (h1 : (I 1).toInt = z) (h2 : (I 2).toInt = n + z) (h3 : (I 3).toInt = d) : dgM I J M d := by
  subst hM
  refine ⟨by omega, by rw [hJ, h1], ?_⟩
  rw [h2]; exact dnc_i hH hH2 hz hn
theorem rd_b {v x r : Int} (h : (x ≤ 0 ∧ r = v) ∨ (17 < x ∧ r = 0) ∨ ((1 ≤ x ∧ x ≤ 17) ∧ r = rnd v (x - 1).toNat)) (h0 : 0 ≤ v) (h1 : v < 100000000000000000) : 0 ≤ r ∧ r < 1000000000000000000 := by
  have := rnd_bd (v := v) (j := (x - 1).toNat) h0 h1
  omega
theorem rd_0 {I : Nat → Int32} {J : Nat → Int64} {v p d e : Int} (h : dgM I J (v * 10 ^ (p + d).toNat) e) (hc : -p - d ≤ 0) : dgM I J (rdM v p d) e := by
  unfold rdM; rw [if_pos hc]; exact h
theorem rd_c {I : Nat → Int32} {J : Nat → Int64} {v p d e r : Int} (h : dgM I J (r * 10 ^ ((0 : Int32).toInt).toNat) e) (hr : (-p - d ≤ 0 ∧ r = v) ∨ (17 < -p - d ∧ r = 0) ∨ ((1 ≤ -p - d ∧ -p - d ≤ 17) ∧ r = rnd v (-p - d - 1).toNat)) (hc : ¬ -p - d ≤ 0) : dgM I J (rdM v p d) e := by
  have e1 : r * 10 ^ ((0 : Int32).toInt).toNat = r := by
    show r * 1 = r
    exact Int.mul_one r
  rw [e1] at h
  unfold rdM
  rw [if_neg hc]
  split
  · rw [show r = 0 by omega] at h; exact h
  · rcases hr with ⟨a, _⟩ | ⟨a, _⟩ | ⟨_, a⟩
    · omega
    · omega
    · rw [a] at h; exact h
