/-! arithmetic of ints by their values -/
theorem zin_iff {x : Int32} {n : Nat} : vp_in x n ↔ 0 ≤ x.toInt ∧ x.toInt < (n : Int) := by
  unfold vp_in
  rw [Int32.lt_iff_toInt_lt, show (0 : Int32).toInt = 0 from rfl, show x.toNatClampNeg = x.toInt.toNat from rfl]
  omega
theorem zle_lt {x y : Int32} : x < y ↔ x.toInt < y.toInt := Int32.lt_iff_toInt_lt
theorem zle_le {x y : Int32} : x ≤ y ↔ x.toInt ≤ y.toInt := Int32.le_iff_toInt_le
theorem zle_eq {x y : Int32} : x = y ↔ x.toInt = y.toInt := Int32.toInt_inj.symm
theorem znI {n : Nat} (h : n < 2 ^ 31) : (nI n).toInt = n := Int32.toInt_ofNat_of_lt h
theorem zadd (x y : Int32) : (x + y).toInt = if x.toInt + y.toInt < -2147483648 then x.toInt + y.toInt + 4294967296 else if 2147483648 ≤ x.toInt + y.toInt then x.toInt + y.toInt - 4294967296 else x.toInt + y.toInt := by
  have h1 := Int32.toInt_lt x; have h2 := Int32.le_toInt x; have h3 := Int32.toInt_lt y; have h4 := Int32.le_toInt y
  rw [Int32.toInt_add, Int.bmod_def]
  split <;> split <;> (try split) <;> omega
theorem zsub (x y : Int32) : (x - y).toInt = if x.toInt - y.toInt < -2147483648 then x.toInt - y.toInt + 4294967296 else if 2147483648 ≤ x.toInt - y.toInt then x.toInt - y.toInt - 4294967296 else x.toInt - y.toInt := by
  have h1 := Int32.toInt_lt x; have h2 := Int32.le_toInt x; have h3 := Int32.toInt_lt y; have h4 := Int32.le_toInt y
  rw [Int32.toInt_sub, Int.bmod_def]
  split <;> split <;> (try split) <;> omega
theorem zadd1 {x y : Int32} (h1 : -2147483648 ≤ x.toInt + y.toInt) (h2 : x.toInt + y.toInt < 2147483648) : (x + y).toInt = x.toInt + y.toInt := by
  rw [zadd, if_neg (by omega), if_neg (by omega)]
theorem zsub1 {x y : Int32} (h1 : -2147483648 ≤ x.toInt - y.toInt) (h2 : x.toInt - y.toInt < 2147483648) : (x - y).toInt = x.toInt - y.toInt := by
  rw [zsub, if_neg (by omega), if_neg (by omega)]
theorem zlo (x : Int32) : -2147483648 ≤ x.toInt := Int32.le_toInt x
theorem zhi (x : Int32) : x.toInt < 2147483648 := Int32.toInt_lt x
theorem zcl (x : Int32) : x.toNatClampNeg = x.toInt.toNat := rfl
theorem zu_s {f : Nat → Int32} {k : Nat} {x : Int32} : zu f k x k = x := by simp [zu]
theorem zu_n {f : Nat → Int32} {k j : Nat} {x : Int32} (h : j ≠ k) : zu f k x j = f j := by
  have : Nat.beq j k = false := by cases hb : Nat.beq j k with | false => rfl | true => exact absurd (Nat.eq_of_beq_eq_true hb) h
  simp [zu, this]
theorem zneg (x : Int32) : (-x).toInt = if x.toInt = -2147483648 then -2147483648 else -x.toInt := by
  have h1 := Int32.toInt_lt x; have h2 := Int32.le_toInt x
  rw [Int32.toInt_neg, Int.bmod_def]
  split <;> split <;> omega
theorem zm1 : (-1 : Int32).toInt = -1 := rfl
theorem zm8 : (-8 : Int32).toInt = -8 := rfl
theorem zb_iff {x : Int32} : zb x ↔ x.toInt = 0 ∨ x.toInt = 1 := by
  unfold zb; rw [zle_eq, zle_eq]; exact Iff.rfl
theorem zc_iff {x : Int32} : zc x ↔ 0 ≤ x.toInt ∧ x.toInt < 65536 := by
  constructor
  · rintro ⟨q, hq, rfl⟩
    rw [znI (by omega)]; omega
  · intro h
    refine ⟨x.toInt.toNat, by omega, ?_⟩
    rw [zle_eq, znI (by omega)]; omega

def zfr (L : List Nat) (I K : Nat → Int32) : Prop := ∀ k, k ∉ L → K k = I k
theorem zfr_refl {L : List Nat} {I : Nat → Int32} : zfr L I I := fun _ _ => rfl
theorem zfr_zu {L : List Nat} {I K : Nat → Int32} {k : Nat} {x : Int32} (hk : k ∈ L) (h : zfr L I K) : zfr L I (zu K k x) := fun j hj => by
  rw [zu_n (fun e : j = k => hj (e ▸ hk))]; exact h j hj
theorem zcn0 {I K : Nat → Int32} (h : zfr [] I K) : K = I := funext fun j => h j (by simp)
theorem zcn1 {I K : Nat → Int32} {k0 : Nat} (h : zfr [k0] I K) : ∃ ak0, K = (zu I k0 ak0) := by
  refine ⟨K k0, funext fun j => ?_⟩
  by_cases hk0 : j = k0
  · rw [hk0, zu_s]
  rw [zu_n hk0]
  exact h j (by simp [hk0])
theorem zcn2 {I K : Nat → Int32} {k0 k1 : Nat} (h : zfr [k0, k1] I K) : ∃ ak0 ak1, K = (zu (zu I k0 ak0) k1 ak1) := by
  refine ⟨K k0, K k1, funext fun j => ?_⟩
  by_cases hk1 : j = k1
  · rw [hk1, zu_s]
  rw [zu_n hk1]
  by_cases hk0 : j = k0
  · rw [hk0, zu_s]
  rw [zu_n hk0]
  exact h j (by simp [hk0, hk1])
theorem zcn3 {I K : Nat → Int32} {k0 k1 k2 : Nat} (h : zfr [k0, k1, k2] I K) : ∃ ak0 ak1 ak2, K = (zu (zu (zu I k0 ak0) k1 ak1) k2 ak2) := by
  refine ⟨K k0, K k1, K k2, funext fun j => ?_⟩
  by_cases hk2 : j = k2
  · rw [hk2, zu_s]
  rw [zu_n hk2]
  by_cases hk1 : j = k1
  · rw [hk1, zu_s]
  rw [zu_n hk1]
  by_cases hk0 : j = k0
  · rw [hk0, zu_s]
  rw [zu_n hk0]
  exact h j (by simp [hk0, hk1, hk2])
theorem zcn4 {I K : Nat → Int32} {k0 k1 k2 k3 : Nat} (h : zfr [k0, k1, k2, k3] I K) : ∃ ak0 ak1 ak2 ak3, K = (zu (zu (zu (zu I k0 ak0) k1 ak1) k2 ak2) k3 ak3) := by
  refine ⟨K k0, K k1, K k2, K k3, funext fun j => ?_⟩
  by_cases hk3 : j = k3
  · rw [hk3, zu_s]
  rw [zu_n hk3]
  by_cases hk2 : j = k2
  · rw [hk2, zu_s]
  rw [zu_n hk2]
  by_cases hk1 : j = k1
  · rw [hk1, zu_s]
  rw [zu_n hk1]
  by_cases hk0 : j = k0
  · rw [hk0, zu_s]
  rw [zu_n hk0]
  exact h j (by simp [hk0, hk1, hk2, hk3])
theorem zcn5 {I K : Nat → Int32} {k0 k1 k2 k3 k4 : Nat} (h : zfr [k0, k1, k2, k3, k4] I K) : ∃ ak0 ak1 ak2 ak3 ak4, K = (zu (zu (zu (zu (zu I k0 ak0) k1 ak1) k2 ak2) k3 ak3) k4 ak4) := by
  refine ⟨K k0, K k1, K k2, K k3, K k4, funext fun j => ?_⟩
  by_cases hk4 : j = k4
  · rw [hk4, zu_s]
  rw [zu_n hk4]
  by_cases hk3 : j = k3
  · rw [hk3, zu_s]
  rw [zu_n hk3]
  by_cases hk2 : j = k2
  · rw [hk2, zu_s]
  rw [zu_n hk2]
  by_cases hk1 : j = k1
  · rw [hk1, zu_s]
  rw [zu_n hk1]
  by_cases hk0 : j = k0
  · rw [hk0, zu_s]
  rw [zu_n hk0]
  exact h j (by simp [hk0, hk1, hk2, hk3, hk4])
theorem zcn6 {I K : Nat → Int32} {k0 k1 k2 k3 k4 k5 : Nat} (h : zfr [k0, k1, k2, k3, k4, k5] I K) : ∃ ak0 ak1 ak2 ak3 ak4 ak5, K = (zu (zu (zu (zu (zu (zu I k0 ak0) k1 ak1) k2 ak2) k3 ak3) k4 ak4) k5 ak5) := by
  refine ⟨K k0, K k1, K k2, K k3, K k4, K k5, funext fun j => ?_⟩
  by_cases hk5 : j = k5
  · rw [hk5, zu_s]
  rw [zu_n hk5]
  by_cases hk4 : j = k4
  · rw [hk4, zu_s]
  rw [zu_n hk4]
  by_cases hk3 : j = k3
  · rw [hk3, zu_s]
  rw [zu_n hk3]
  by_cases hk2 : j = k2
  · rw [hk2, zu_s]
  rw [zu_n hk2]
  by_cases hk1 : j = k1
  · rw [hk1, zu_s]
  rw [zu_n hk1]
  by_cases hk0 : j = k0
  · rw [hk0, zu_s]
  rw [zu_n hk0]
  exact h j (by simp [hk0, hk1, hk2, hk3, hk4, hk5])
theorem zcn7 {I K : Nat → Int32} {k0 k1 k2 k3 k4 k5 k6 : Nat} (h : zfr [k0, k1, k2, k3, k4, k5, k6] I K) : ∃ ak0 ak1 ak2 ak3 ak4 ak5 ak6, K = (zu (zu (zu (zu (zu (zu (zu I k0 ak0) k1 ak1) k2 ak2) k3 ak3) k4 ak4) k5 ak5) k6 ak6) := by
  refine ⟨K k0, K k1, K k2, K k3, K k4, K k5, K k6, funext fun j => ?_⟩
  by_cases hk6 : j = k6
  · rw [hk6, zu_s]
  rw [zu_n hk6]
  by_cases hk5 : j = k5
  · rw [hk5, zu_s]
  rw [zu_n hk5]
  by_cases hk4 : j = k4
  · rw [hk4, zu_s]
  rw [zu_n hk4]
  by_cases hk3 : j = k3
  · rw [hk3, zu_s]
  rw [zu_n hk3]
  by_cases hk2 : j = k2
  · rw [hk2, zu_s]
  rw [zu_n hk2]
  by_cases hk1 : j = k1
  · rw [hk1, zu_s]
  rw [zu_n hk1]
  by_cases hk0 : j = k0
  · rw [hk0, zu_s]
  rw [zu_n hk0]
  exact h j (by simp [hk0, hk1, hk2, hk3, hk4, hk5, hk6])
theorem zcn8 {I K : Nat → Int32} {k0 k1 k2 k3 k4 k5 k6 k7 : Nat} (h : zfr [k0, k1, k2, k3, k4, k5, k6, k7] I K) : ∃ ak0 ak1 ak2 ak3 ak4 ak5 ak6 ak7, K = (zu (zu (zu (zu (zu (zu (zu (zu I k0 ak0) k1 ak1) k2 ak2) k3 ak3) k4 ak4) k5 ak5) k6 ak6) k7 ak7) := by
  refine ⟨K k0, K k1, K k2, K k3, K k4, K k5, K k6, K k7, funext fun j => ?_⟩
  by_cases hk7 : j = k7
  · rw [hk7, zu_s]
  rw [zu_n hk7]
  by_cases hk6 : j = k6
  · rw [hk6, zu_s]
  rw [zu_n hk6]
  by_cases hk5 : j = k5
  · rw [hk5, zu_s]
  rw [zu_n hk5]
  by_cases hk4 : j = k4
  · rw [hk4, zu_s]
  rw [zu_n hk4]
  by_cases hk3 : j = k3
  · rw [hk3, zu_s]
  rw [zu_n hk3]
  by_cases hk2 : j = k2
  · rw [hk2, zu_s]
  rw [zu_n hk2]
  by_cases hk1 : j = k1
  · rw [hk1, zu_s]
  rw [zu_n hk1]
  by_cases hk0 : j = k0
  · rw [hk0, zu_s]
  rw [zu_n hk0]
  exact h j (by simp [hk0, hk1, hk2, hk3, hk4, hk5, hk6, hk7])
theorem zcn9 {I K : Nat → Int32} {k0 k1 k2 k3 k4 k5 k6 k7 k8 : Nat} (h : zfr [k0, k1, k2, k3, k4, k5, k6, k7, k8] I K) : ∃ ak0 ak1 ak2 ak3 ak4 ak5 ak6 ak7 ak8, K = (zu (zu (zu (zu (zu (zu (zu (zu (zu I k0 ak0) k1 ak1) k2 ak2) k3 ak3) k4 ak4) k5 ak5) k6 ak6) k7 ak7) k8 ak8) := by
  refine ⟨K k0, K k1, K k2, K k3, K k4, K k5, K k6, K k7, K k8, funext fun j => ?_⟩
  by_cases hk8 : j = k8
  · rw [hk8, zu_s]
  rw [zu_n hk8]
  by_cases hk7 : j = k7
  · rw [hk7, zu_s]
  rw [zu_n hk7]
  by_cases hk6 : j = k6
  · rw [hk6, zu_s]
  rw [zu_n hk6]
  by_cases hk5 : j = k5
  · rw [hk5, zu_s]
  rw [zu_n hk5]
  by_cases hk4 : j = k4
  · rw [hk4, zu_s]
  rw [zu_n hk4]
  by_cases hk3 : j = k3
  · rw [hk3, zu_s]
  rw [zu_n hk3]
  by_cases hk2 : j = k2
  · rw [hk2, zu_s]
  rw [zu_n hk2]
  by_cases hk1 : j = k1
  · rw [hk1, zu_s]
  rw [zu_n hk1]
  by_cases hk0 : j = k0
  · rw [hk0, zu_s]
  rw [zu_n hk0]
  exact h j (by simp [hk0, hk1, hk2, hk3, hk4, hk5, hk6, hk7, hk8])
theorem zcn10 {I K : Nat → Int32} {k0 k1 k2 k3 k4 k5 k6 k7 k8 k9 : Nat} (h : zfr [k0, k1, k2, k3, k4, k5, k6, k7, k8, k9] I K) : ∃ ak0 ak1 ak2 ak3 ak4 ak5 ak6 ak7 ak8 ak9, K = (zu (zu (zu (zu (zu (zu (zu (zu (zu (zu I k0 ak0) k1 ak1) k2 ak2) k3 ak3) k4 ak4) k5 ak5) k6 ak6) k7 ak7) k8 ak8) k9 ak9) := by
  refine ⟨K k0, K k1, K k2, K k3, K k4, K k5, K k6, K k7, K k8, K k9, funext fun j => ?_⟩
  by_cases hk9 : j = k9
  · rw [hk9, zu_s]
  rw [zu_n hk9]
  by_cases hk8 : j = k8
  · rw [hk8, zu_s]
  rw [zu_n hk8]
  by_cases hk7 : j = k7
  · rw [hk7, zu_s]
  rw [zu_n hk7]
  by_cases hk6 : j = k6
  · rw [hk6, zu_s]
  rw [zu_n hk6]
  by_cases hk5 : j = k5
  · rw [hk5, zu_s]
  rw [zu_n hk5]
  by_cases hk4 : j = k4
  · rw [hk4, zu_s]
  rw [zu_n hk4]
  by_cases hk3 : j = k3
  · rw [hk3, zu_s]
  rw [zu_n hk3]
  by_cases hk2 : j = k2
  · rw [hk2, zu_s]
  rw [zu_n hk2]
  by_cases hk1 : j = k1
  · rw [hk1, zu_s]
  rw [zu_n hk1]
  by_cases hk0 : j = k0
  · rw [hk0, zu_s]
  rw [zu_n hk0]
  exact h j (by simp [hk0, hk1, hk2, hk3, hk4, hk5, hk6, hk7, hk8, hk9])
theorem zcn11 {I K : Nat → Int32} {k0 k1 k2 k3 k4 k5 k6 k7 k8 k9 k10 : Nat} (h : zfr [k0, k1, k2, k3, k4, k5, k6, k7, k8, k9, k10] I K) : ∃ ak0 ak1 ak2 ak3 ak4 ak5 ak6 ak7 ak8 ak9 ak10, K = (zu (zu (zu (zu (zu (zu (zu (zu (zu (zu (zu I k0 ak0) k1 ak1) k2 ak2) k3 ak3) k4 ak4) k5 ak5) k6 ak6) k7 ak7) k8 ak8) k9 ak9) k10 ak10) := by
  refine ⟨K k0, K k1, K k2, K k3, K k4, K k5, K k6, K k7, K k8, K k9, K k10, funext fun j => ?_⟩
  by_cases hk10 : j = k10
  · rw [hk10, zu_s]
  rw [zu_n hk10]
  by_cases hk9 : j = k9
  · rw [hk9, zu_s]
  rw [zu_n hk9]
  by_cases hk8 : j = k8
  · rw [hk8, zu_s]
  rw [zu_n hk8]
  by_cases hk7 : j = k7
  · rw [hk7, zu_s]
  rw [zu_n hk7]
  by_cases hk6 : j = k6
  · rw [hk6, zu_s]
  rw [zu_n hk6]
  by_cases hk5 : j = k5
  · rw [hk5, zu_s]
  rw [zu_n hk5]
  by_cases hk4 : j = k4
  · rw [hk4, zu_s]
  rw [zu_n hk4]
  by_cases hk3 : j = k3
  · rw [hk3, zu_s]
  rw [zu_n hk3]
  by_cases hk2 : j = k2
  · rw [hk2, zu_s]
  rw [zu_n hk2]
  by_cases hk1 : j = k1
  · rw [hk1, zu_s]
  rw [zu_n hk1]
  by_cases hk0 : j = k0
  · rw [hk0, zu_s]
  rw [zu_n hk0]
  exact h j (by simp [hk0, hk1, hk2, hk3, hk4, hk5, hk6, hk7, hk8, hk9, hk10])
theorem zcn12 {I K : Nat → Int32} {k0 k1 k2 k3 k4 k5 k6 k7 k8 k9 k10 k11 : Nat} (h : zfr [k0, k1, k2, k3, k4, k5, k6, k7, k8, k9, k10, k11] I K) : ∃ ak0 ak1 ak2 ak3 ak4 ak5 ak6 ak7 ak8 ak9 ak10 ak11, K = (zu (zu (zu (zu (zu (zu (zu (zu (zu (zu (zu (zu I k0 ak0) k1 ak1) k2 ak2) k3 ak3) k4 ak4) k5 ak5) k6 ak6) k7 ak7) k8 ak8) k9 ak9) k10 ak10) k11 ak11) := by
  refine ⟨K k0, K k1, K k2, K k3, K k4, K k5, K k6, K k7, K k8, K k9, K k10, K k11, funext fun j => ?_⟩
  by_cases hk11 : j = k11
  · rw [hk11, zu_s]
  rw [zu_n hk11]
  by_cases hk10 : j = k10
  · rw [hk10, zu_s]
  rw [zu_n hk10]
  by_cases hk9 : j = k9
  · rw [hk9, zu_s]
  rw [zu_n hk9]
  by_cases hk8 : j = k8
  · rw [hk8, zu_s]
  rw [zu_n hk8]
  by_cases hk7 : j = k7
  · rw [hk7, zu_s]
  rw [zu_n hk7]
  by_cases hk6 : j = k6
  · rw [hk6, zu_s]
  rw [zu_n hk6]
  by_cases hk5 : j = k5
  · rw [hk5, zu_s]
  rw [zu_n hk5]
  by_cases hk4 : j = k4
  · rw [hk4, zu_s]
  rw [zu_n hk4]
  by_cases hk3 : j = k3
  · rw [hk3, zu_s]
  rw [zu_n hk3]
  by_cases hk2 : j = k2
  · rw [hk2, zu_s]
  rw [zu_n hk2]
  by_cases hk1 : j = k1
  · rw [hk1, zu_s]
  rw [zu_n hk1]
  by_cases hk0 : j = k0
  · rw [hk0, zu_s]
  rw [zu_n hk0]
  exact h j (by simp [hk0, hk1, hk2, hk3, hk4, hk5, hk6, hk7, hk8, hk9, hk10, hk11])

/-! longs by their values; counting items -/
theorem zl_lt {x y : Int64} : x < y ↔ x.toInt < y.toInt := Int64.lt_iff_toInt_lt
theorem zl_le {x y : Int64} : x ≤ y ↔ x.toInt ≤ y.toInt := Int64.le_iff_toInt_le
theorem zl_eq {x y : Int64} : x = y ↔ x.toInt = y.toInt := Int64.toInt_inj.symm
theorem zl_lo (x : Int64) : -9223372036854775808 ≤ x.toInt := Int64.le_toInt x
theorem zl_hi (x : Int64) : x.toInt < 9223372036854775808 := Int64.toInt_lt x
theorem zbm {a : Int} (h1 : -9223372036854775808 ≤ a) (h2 : a < 9223372036854775808) : a.bmod (2 ^ 64) = a := by
  rw [Int.bmod_def]; split <;> omega
theorem zbm32 {a : Int} (h1 : -2147483648 ≤ a) (h2 : a < 2147483648) : a.bmod (2 ^ 32) = a := by
  rw [Int.bmod_def]; split <;> omega
theorem zl_add1 {x y : Int64} (h1 : -9223372036854775808 ≤ x.toInt + y.toInt) (h2 : x.toInt + y.toInt < 9223372036854775808) : (x + y).toInt = x.toInt + y.toInt := by
  rw [Int64.toInt_add, zbm h1 h2]
theorem zl_mul10 {x : Int64} (h1 : -9223372036854775808 ≤ 10 * x.toInt) (h2 : 10 * x.toInt < 9223372036854775808) : ((10 : Int64) * x).toInt = 10 * x.toInt := by
  rw [Int64.toInt_mul, show (10 : Int64).toInt = 10 from rfl, zbm h1 h2]
theorem zl_div10 (v : Int64) : (v / 10).toInt ≤ 922337203685477580 := by
  have h := zl_hi v; have h' := zl_lo v
  rw [Int64.toInt_div, show (10 : Int64).toInt = 10 from rfl]
  rcases Int.lt_or_le v.toInt 0 with c | c
  · have e : v.toInt.tdiv 10 = -((-v.toInt) / 10) := by
      rw [← Int.tdiv_eq_ediv_of_nonneg (by omega), Int.neg_tdiv, Int.neg_neg]
    rw [e, zbm (by omega) (by omega)]; omega
  · rw [Int.tdiv_eq_ediv_of_nonneg c, zbm (by omega) (by omega)]; omega
theorem zl_div10p {v : Int64} (h : 0 ≤ v.toInt) : (v / 10).toInt = v.toInt / 10 := by
  have h' := zl_hi v
  rw [Int64.toInt_div, show (10 : Int64).toInt = 10 from rfl, Int.tdiv_eq_ediv_of_nonneg h, zbm (by omega) (by omega)]
theorem zdiv10p {v : Int32} (h : 0 ≤ v.toInt) : (v / 10).toInt = v.toInt / 10 := by
  have h' := zhi v
  rw [Int32.toInt_div, show (10 : Int32).toInt = 10 from rfl, Int.tdiv_eq_ediv_of_nonneg h, zbm32 (by omega) (by omega)]
theorem zmul1 {x y : Int32} (h1 : -2147483648 ≤ x.toInt * y.toInt) (h2 : x.toInt * y.toInt < 2147483648) : (x * y).toInt = x.toInt * y.toInt := by
  rw [Int32.toInt_mul, zbm32 h1 h2]
theorem zneg1 {x : Int32} (h1 : -2147483648 < x.toInt) : (-x).toInt = -x.toInt := by
  have h := zhi x
  rw [Int32.toInt_neg, zbm32 (by omega) (by omega)]
theorem zand255 (x : Int32) : 0 ≤ (x &&& 255).toInt ∧ (x &&& 255).toInt ≤ 255 := by
  obtain ⟨j, hj, e⟩ := pk_andE x (m := 255) 8 (by decide)
  rw [e, znI (by omega)]; omega
def zcnt (f : Nat → Int32) (w : Int) (k : Nat) : Nat → Int
  | 0 => 0
  | n + 1 => (if (f k).toInt = w then 1 else 0) + zcnt f w (k + 1) n
def zrem (f : Nat → Int32) (w : Int) (k e : Int) : Int := zcnt f w k.toNat (e - k).toNat
theorem zrem_end {f : Nat → Int32} {w k e : Int} (h : e ≤ k) : zrem f w k e = 0 := by
  unfold zrem; rw [show (e - k).toNat = 0 by omega]; rfl
theorem zrem_step {f : Nat → Int32} {w e : Int} (x : Int32) (h0 : 0 ≤ x.toInt) (h : x.toInt < e) : zrem f w x.toInt e = (if (f x.toNatClampNeg).toInt = w then 1 else 0) + zrem f w (x.toInt + 1) e := by
  unfold zrem
  rw [show (e - x.toInt).toNat = (e - (x.toInt + 1)).toNat + 1 by omega, show (x.toInt + 1).toNat = x.toInt.toNat + 1 by omega]
  rfl
theorem zcnt_bd (f : Nat → Int32) (w : Int) : ∀ (n k : Nat), 0 ≤ zcnt f w k n ∧ zcnt f w k n ≤ n
  | 0, k => ⟨by simp [zcnt], by simp [zcnt]⟩
  | n + 1, k => by
    have h := zcnt_bd f w n (k + 1)
    simp only [zcnt]
    split <;> omega
theorem zrem_bd (f : Nat → Int32) (w k e : Int) : 0 ≤ zrem f w k e ∧ (k ≤ e → zrem f w k e ≤ e - k) := by
  have h := zcnt_bd f w (e - k).toNat k.toNat
  unfold zrem
  omega
theorem zmw {w m : Int} (h1 : 1 ≤ w) : 0 ≤ m % w ∧ m % w < w ∧ m / w * w = m - m % w := by
  have := Int.emod_add_mul_ediv m w
  have h2 := Int.emod_nonneg m (show w ≠ 0 by omega)
  have h3 := Int.emod_lt_of_pos m (show 0 < w by omega)
  rw [Int.mul_comm] at this
  omega
theorem zdivp {t w : Int32} (h0 : 0 ≤ t.toInt) (hw : 1 ≤ w.toInt) : (t / w).toInt = t.toInt / w.toInt := by
  have h' := zhi t
  have h2 : t.toInt / w.toInt ≤ t.toInt := Int.ediv_le_self _ h0
  have h3 : 0 ≤ t.toInt / w.toInt := Int.ediv_nonneg h0 (by omega)
  rw [Int32.toInt_div, Int.tdiv_eq_ediv_of_nonneg h0, zbm32 (by omega) (by omega)]
theorem zflp (t w : Int32) (h0 : 0 ≤ t.toInt) (hw : 1 ≤ w.toInt) : 0 ≤ (t / w * w).toInt ∧ (t / w * w).toInt ≤ t.toInt ∧ t.toInt < (t / w * w).toInt + w.toInt := by
  have h' := zhi t
  have h := @zmw w.toInt t.toInt hw
  have h5 : 0 ≤ t.toInt / w.toInt * w.toInt := Int.mul_nonneg (Int.ediv_nonneg h0 (by omega)) (by omega)
  have e : (t / w * w).toInt = t.toInt / w.toInt * w.toInt := by
    rw [zmul1 (by rw [zdivp h0 hw]; omega) (by rw [zdivp h0 hw]; omega), zdivp h0 hw]
  rw [e]
  omega
theorem zfln (t w : Int32) (h0 : 0 ≤ t.toInt) (hw : 1 ≤ w.toInt) : -t.toInt ≤ (-(t / w) * w).toInt ∧ (-(t / w) * w).toInt < -t.toInt + w.toInt := by
  have h' := zhi t
  have h := @zmw w.toInt t.toInt hw
  have hd := zdivp h0 hw
  have h3 : 0 ≤ t.toInt / w.toInt := Int.ediv_nonneg h0 (by omega)
  have h5 : 0 ≤ t.toInt / w.toInt * w.toInt := Int.mul_nonneg h3 (by omega)
  have hn : (-(t / w)).toInt = -(t.toInt / w.toInt) := by rw [zneg1 (by omega), hd]
  have e : (-(t / w) * w).toInt = -(t.toInt / w.toInt * w.toInt) := by
    rw [zmul1 (by rw [hn, Int.neg_mul]; omega) (by rw [hn, Int.neg_mul]; omega), hn, Int.neg_mul]
  rw [e]
  omega
theorem zten_bd (j : Nat) (h : j ≤ 18) : 1 ≤ (10 : Int) ^ j ∧ (10 : Int) ^ j ≤ 1000000000000000000 ∧ (10 : Int) * 10 ^ j = 10 ^ (j + 1) ∧ (10 : Int) ^ j < 10 ^ (j + 1) ∧ ((10 : Int) ^ j ≤ 922337203685477580 → j ≤ 17) ∧ (j ≤ 17 → (10 : Int) ^ (j + 1) ≤ 1000000000000000000) := by
  have h : j = 0 ∨ j = 1 ∨ j = 2 ∨ j = 3 ∨ j = 4 ∨ j = 5 ∨ j = 6 ∨ j = 7 ∨ j = 8 ∨ j = 9 ∨ j = 10 ∨ j = 11 ∨ j = 12 ∨ j = 13 ∨ j = 14 ∨ j = 15 ∨ j = 16 ∨ j = 17 ∨ j = 18 := by omega
  rcases h with rfl | rfl | rfl | rfl | rfl | rfl | rfl | rfl | rfl | rfl | rfl | rfl | rfl | rfl | rfl | rfl | rfl | rfl | rfl <;> decide

theorem zi64 (x : Int32) : x.toInt64.toInt = x.toInt := Int32.toInt_toInt64 x
theorem zsh255 (x : Int32) : 0 ≤ (x &&& 255).toInt ∧ (x &&& 255).toInt ≤ 255 := zand255 x
theorem zl_mul1 {x y : Int64} (h1 : -9223372036854775808 ≤ x.toInt * y.toInt) (h2 : x.toInt * y.toInt < 9223372036854775808) : (x * y).toInt = x.toInt * y.toInt := by
  rw [Int64.toInt_mul, zbm h1 h2]
theorem zl_sub1 {x y : Int64} (h1 : -9223372036854775808 ≤ x.toInt - y.toInt) (h2 : x.toInt - y.toInt < 9223372036854775808) : (x - y).toInt = x.toInt - y.toInt := by
  rw [Int64.toInt_sub, zbm h1 h2]

def zOK1 (sK sI sE kd fi se : Nat → Int32) (s : Int32) : Prop :=
  (0 ≤ (sI s.toNatClampNeg).toInt ∧ (sI s.toNatClampNeg).toInt ≤ (sE s.toNatClampNeg).toInt ∧ (sE s.toNatClampNeg).toInt ≤ 64 ∧ zrem kd 4 (sI s.toNatClampNeg).toInt (sE s.toNatClampNeg).toInt ≤ 1)
  ∧ (∀ i : Int32, (sI s.toNatClampNeg).toInt ≤ i.toInt → i.toInt < (sE s.toNatClampNeg).toInt → 0 ≤ (se i.toNatClampNeg).toInt ∧ (se i.toNatClampNeg).toInt ≤ 5)
  ∧ (∀ i : Int32, (sI s.toNatClampNeg).toInt ≤ i.toInt → i.toInt < (sE s.toNatClampNeg).toInt → (kd i.toNatClampNeg).toInt = 15 → 0 ≤ (fi i.toNatClampNeg).toInt ∧ (fi i.toNatClampNeg).toInt ≤ 3)
  ∧ ((sK s.toNatClampNeg).toInt = 4 → ∃ q : Int32, (sI s.toNatClampNeg).toInt ≤ q.toInt ∧ q.toInt < (sE s.toNatClampNeg).toInt ∧ (kd q.toNatClampNeg).toInt = 10)

/-! where a section ends, and that the items keep step with it -/
def ypl (c : Int) : Prop := c ≠ 34 ∧ c ≠ 92 ∧ c ≠ 95 ∧ c ≠ 42 ∧ c ≠ 59
def yP (f : Nat → Int32) (a b : Int) : Prop := ∀ j : Int, a ≤ j → j < b → ypl (f j.toNat).toInt
def yQ (f : Nat → Int32) (e p r : Int) : Prop := (r = p ∧ ∀ j : Int, p < j → j < e → (f j.toNat).toInt ≠ 34) ∨ (p + 2 ≤ r ∧ r ≤ e ∧ (f (r - 1).toNat).toInt = 34 ∧ ∀ j : Int, p < j → j < r - 1 → (f j.toNat).toInt ≠ 34)
theorem yQ_det {f : Nat → Int32} {e p r r' : Int} (h : yQ f e p r) (h' : yQ f e p r') : r = r' := by
  rcases h with ⟨h1, h2⟩ | ⟨h1, h2, h3, h4⟩ <;> rcases h' with ⟨k1, k2⟩ | ⟨k1, k2, k3, k4⟩
  · omega
  · exact absurd k3 (h2 _ (by omega) (by omega))
  · exact absurd h3 (k2 _ (by omega) (by omega))
  · rcases Int.lt_trichotomy r r' with c | c | c
    · exact absurd h3 (k4 _ (by omega) (by omega))
    · exact c
    · exact absurd k3 (h4 _ (by omega) (by omega))
def ypair (f : Nat → Int32) (e p : Int) : Prop := ((f p.toNat).toInt = 92 ∨ (f p.toNat).toInt = 95 ∨ (f p.toNat).toInt = 42) ∧ p + 1 < e
def ystep (f : Nat → Int32) (e p q : Int) : Prop := ((f p.toNat).toInt = 34 ∧ yQ f e p q ∧ p < q) ∨ (((f p.toNat).toInt ≠ 34 ∨ yQ f e p p) ∧ ypair f e p ∧ q = p + 2) ∨ (((f p.toNat).toInt ≠ 34 ∨ yQ f e p p) ∧ ¬ ypair f e p ∧ q = p + 1)
theorem ystep_det {f : Nat → Int32} {e p q q' : Int} (h : ystep f e p q) (h' : ystep f e p q') : q = q' := by
  rcases h with ⟨h1, h2, h3⟩ | ⟨h1, h2, h3⟩ | ⟨h1, h2, h3⟩ <;> rcases h' with ⟨k1, k2, k3⟩ | ⟨k1, k2, k3⟩ | ⟨k1, k2, k3⟩
  · exact yQ_det h2 k2
  · rcases k1 with k1 | k1
    · exact absurd h1 k1
    · have := yQ_det h2 k1; omega
  · rcases k1 with k1 | k1
    · exact absurd h1 k1
    · have := yQ_det h2 k1; omega
  · rcases h1 with h1 | h1
    · exact absurd k1 h1
    · have := yQ_det k2 h1; omega
  · omega
  · exact absurd h2 k2
  · rcases h1 with h1 | h1
    · exact absurd k1 h1
    · have := yQ_det k2 h1; omega
  · exact absurd k2 h2
  · omega
def yT (f : Nat → Int32) (e to : Int) : Nat → Int → Prop
  | 0, _ => False
  | n + 1, p => (e ≤ p ∧ to = p) ∨ (p < e ∧ (f p.toNat).toInt = 59 ∧ to = p) ∨ (p < e ∧ (f p.toNat).toInt ≠ 59 ∧ ∃ q, ystep f e p q ∧ yT f e to n q)
def yS (f : Nat → Int32) (e to p : Int) : Prop := ∃ n, yT f e to n p
theorem yS_end {f : Nat → Int32} {e p : Int} (h : e ≤ p) : yS f e p p := ⟨1, Or.inl ⟨h, rfl⟩⟩
theorem yS_semi {f : Nat → Int32} {e p : Int} (h : p < e) (h2 : (f p.toNat).toInt = 59) : yS f e p p := ⟨1, Or.inr (Or.inl ⟨h, h2, rfl⟩)⟩
theorem yS_back {f : Nat → Int32} {e to p q : Int} (h : p < e) (h2 : (f p.toNat).toInt ≠ 59) (hs : ystep f e p q) (hq : yS f e to q) : yS f e to p := by
  obtain ⟨n, hn⟩ := hq
  exact ⟨n + 1, Or.inr (Or.inr ⟨h, h2, q, hs, hn⟩)⟩
theorem yS_fwd {f : Nat → Int32} {e to p q : Int} (hS : yS f e to p) (h : p < e) (h2 : (f p.toNat).toInt ≠ 59) (hs : ystep f e p q) : yS f e to q := by
  obtain ⟨n, hn⟩ := hS
  cases n with
  | zero => exact absurd hn id
  | succ n =>
    rcases hn with ⟨h3, _⟩ | ⟨_, h3, _⟩ | ⟨_, _, q', hq', hT⟩
    · omega
    · exact absurd h3 h2
    · rw [ystep_det hs hq']; exact ⟨n, hT⟩
theorem yS_lt {f : Nat → Int32} {e to p : Int} (hS : yS f e to p) (h : p < to) : p < e ∧ (f p.toNat).toInt ≠ 59 := by
  obtain ⟨n, hn⟩ := hS
  cases n with
  | zero => exact absurd hn id
  | succ n =>
    rcases hn with ⟨_, h3⟩ | ⟨_, _, h3⟩ | ⟨h3, h4, _⟩
    · omega
    · omega
    · exact ⟨h3, h4⟩
theorem ystep_bd {f : Nat → Int32} {e p q : Int} (hs : ystep f e p q) (h : p < e) : p < q ∧ q ≤ e := by
  rcases hs with ⟨_, h2, h3⟩ | ⟨_, h2, h3⟩ | ⟨_, h2, h3⟩
  · rcases h2 with ⟨h4, _⟩ | ⟨h4, h5, _⟩ <;> omega
  · have := h2.2; omega
  · omega
theorem yT_le {f : Nat → Int32} {e to : Int} : ∀ (n : Nat) (p : Int), p ≤ e → yT f e to n p → p ≤ to ∧ to ≤ e
  | 0, _, _, h => absurd h id
  | n + 1, p, hp, h => by
    rcases h with ⟨h1, h2⟩ | ⟨h1, h2, h3⟩ | ⟨h1, h2, q, hq, hT⟩
    · omega
    · omega
    · have b := ystep_bd hq h1
      have := yT_le n q b.2 hT
      omega
theorem yS_le {f : Nat → Int32} {e to p : Int} (hS : yS f e to p) (hp : p ≤ e) : p ≤ to ∧ to ≤ e := by
  obtain ⟨n, hn⟩ := hS
  exact yT_le n p hp hn
theorem ystep_pl {f : Nat → Int32} {e p : Int} (h : ypl (f p.toNat).toInt) : ystep f e p (p + 1) := by
  obtain ⟨h1, h2, h3, h4, h5⟩ := h
  exact Or.inr (Or.inr ⟨Or.inl h1, fun c => by rcases c.1 with c | c | c <;> contradiction, rfl⟩)
theorem yS_plain {f : Nat → Int32} {e to : Int} : ∀ (n : Nat) (a : Int), a + n ≤ e → yP f a (a + n) → yS f e to a → yS f e to (a + n)
  | 0, a, _, _, h => by simpa using h
  | n + 1, a, he, hP, h => by
    have p0 := hP a (by omega) (by omega)
    have h1 := yS_fwd h (by omega) p0.2.2.2.2 (ystep_pl p0)
    have h2 := yS_plain n (a + 1) (by omega) (fun j hj hk => hP j (by omega) (by omega)) h1
    have e2 : a + 1 + (n : Int) = a + ((n + 1 : Nat) : Int) := by omega
    rwa [e2] at h2
theorem yS_pl {f : Nat → Int32} {e to a b : Int} (hab : a ≤ b) (he : b ≤ e) (hP : yP f a b) (h : yS f e to a) : yS f e to b := by
  have := yS_plain (f := f) (e := e) (to := to) (b - a).toNat a (by omega) (by rw [show a + ((b - a).toNat : Int) = b by omega]; exact hP) h
  rwa [show a + ((b - a).toNat : Int) = b by omega] at this
theorem yP_nil {f : Nat → Int32} {a : Int} : yP f a a := fun j h1 h2 => by omega
theorem yP_cons {f : Nat → Int32} {a b : Int} (h : ypl (f a.toNat).toInt) (h2 : yP f (a + 1) b) : yP f a b := fun j h1 h3 => by
  rcases Int.lt_or_le a j with c | c
  · exact h2 j (by omega) h3
  · rw [show j = a by omega]; exact h
theorem yP_snoc {f : Nat → Int32} {a b : Int} (h2 : yP f a b) (h : ypl (f b.toNat).toInt) : yP f a (b + 1) := fun j h1 h3 => by
  rcases Int.lt_or_le j b with c | c
  · exact h2 j h1 c
  · rw [show j = b by omega]; exact h
theorem yP_app {f : Nat → Int32} {a b c : Int} (h1 : yP f a b) (h2 : yP f b c) : yP f a c := fun j ha hc => by
  rcases Int.lt_or_le j b with k | k
  · exact h1 j ha k
  · exact h2 j k hc
def ych (f : Nat → Int32) (e p : Int) : Int := if p < e then (f p.toNat).toInt else 0
def ysm (c : Int) : Int := if 65 ≤ c ∧ c ≤ 90 then c + 32 else c
theorem ypl_of {f : Nat → Int32} {e p : Int} {b : Int} (h : ysm (ych f e p) = b) (hb : ypl b) (h0 : b ≠ 0) : p < e ∧ ypl (f p.toNat).toInt := by
  unfold ych at h
  split at h
  · refine ⟨by assumption, ?_⟩
    unfold ysm at h
    unfold ypl at hb ⊢
    split at h <;> omega
  · exfalso; apply h0; rw [← h]; rfl
def zby8 (w : Int64) (n k : Int32) : Int := ((w >>> (((8 : Int32) * ((n - (1 : Int32)) - k)).toInt64 &&& 63)) &&& (255 : Int64)).toInt32.toInt
def zup (w : Int64) (m : Int32) : Prop := (w >>> (((8 : Int32) * m).toInt64 &&& 63)) ≤ (0 : Int64)
def ySt (f : Nat → Int32) (e p : Int) (w : Int64) : Prop := ∃ n : Int32, 0 ≤ n.toInt ∧ n.toInt ≤ 8 ∧ (8 ≤ n.toInt ∨ zup w n) ∧ (∀ m : Int32, 0 ≤ m.toInt → m.toInt < n.toInt → ¬ zup w m) ∧ ∀ k : Int32, 0 ≤ k.toInt → k.toInt < n.toInt → ysm (ych f e (p + k.toInt)) = zby8 w n k
def yplB (c : Int) : Bool := c != 34 && c != 92 && c != 95 && c != 42 && c != 59 && c != 0
theorem yplB_of {c : Int} (h : yplB c = true) : ypl c ∧ c ≠ 0 := by
  simp only [yplB, Bool.and_eq_true, bne_iff_ne, ne_eq] at h
  unfold ypl
  omega
def zupB (w : Int64) (m : Int32) : Bool := decide ((w >>> (((8 : Int32) * m).toInt64 &&& 63)) ≤ (0 : Int64))
theorem zupB_iff {w : Int64} {m : Int32} : zupB w m = true ↔ zup w m := by unfold zupB zup; exact decide_eq_true_iff
/-- word w has N bytes, all of them plain -/
def zwok (w : Int64) (N : Nat) : Bool := decide (N ≤ 8) && (List.range N).all (fun k => !zupB w (nI k) && yplB (zby8 w (nI N) (nI k))) && (decide (N = 8) || zupB w (nI N))
theorem zof {x : Int32} (h0 : 0 ≤ x.toInt) : ∃ k : Nat, x = nI k ∧ (k : Int) = x.toInt ∧ k < 2 ^ 31 := by
  have := zhi x
  refine ⟨x.toInt.toNat, ?_, by omega, by omega⟩
  rw [zle_eq, znI (by omega)]; omega
theorem ySt_lit {f : Nat → Int32} {e p : Int} {w : Int64} (N : Nat) (h : ySt f e p w) (hw : zwok w N = true) : p + N ≤ max e p ∧ (0 < N → p + N ≤ e) ∧ yP f p (p + N) := by
  obtain ⟨n, h0, h8, hend, hup, hby⟩ := h
  simp only [zwok, Bool.and_eq_true, Bool.or_eq_true, decide_eq_true_eq, List.all_eq_true, List.mem_range, Bool.not_eq_true'] at hw
  obtain ⟨⟨hN, hall⟩, hlast⟩ := hw
  obtain ⟨k, rfl, hk, hk2⟩ := zof h0
  have hkN : k = N := by
    rcases Nat.lt_trichotomy k N with c | c | c
    · have h1 := (hall k c).1
      rcases hend with h2 | h2
      · omega
      · rw [zupB_iff.mpr h2] at h1; exact absurd h1 (by decide)
    · exact c
    · rcases hlast with h2 | h2
      · omega
      · exact absurd (zupB_iff.mp h2) (hup (nI N) (by rw [znI (by omega)]; omega) (by rw [znI (by omega)]; omega))
  subst hkN
  have key : ∀ j : Nat, j < k → p + j < e ∧ ypl (f (p + j).toNat).toInt := fun j hj => by
    have h1 := hby (nI j) (by rw [znI (by omega)]; omega) (by rw [znI (by omega)]; omega)
    rw [znI (by omega)] at h1
    have h2 := yplB_of (hall j hj).2
    exact ypl_of h1 h2.1 h2.2
  refine ⟨?_, fun hpos => ?_, fun j h1 h2 => ?_⟩
  · rcases Nat.eq_zero_or_pos k with c | c
    · omega
    · have := (key (k - 1) (by omega)).1; omega
  · have := (key (k - 1) (by omega)).1; omega
  · have := (key (j - p).toNat (by omega)).2
    rwa [show p + ((j - p).toNat : Int) = j by omega] at this
theorem zw1 : zwok 422725116779 5 = true := by decide +kernel
theorem zw2 : zwok 444300879214 5 = true := by decide +kernel
theorem zw3 : zwok 512852849765 5 = true := by decide +kernel
theorem zw4 : zwok 1651275109 4 = true := by decide +kernel
theorem zw5 : zwok 1668899182 4 = true := by decide +kernel
theorem zw6 : zwok 7497060 3 = true := by decide +kernel
theorem zw7 : zwok 133476517703543 6 = true := by decide +kernel
theorem zw8 : zwok 30787869172724833 7 = true := by decide +kernel

theorem ztn (x : Int32) : x.toInt.toNat = x.toNatClampNeg := rfl
theorem yJ_nil {f : Nat → Int32} {p r : Int} (hr : r = p + 1) : ∀ j : Int, p < j → j < r → (f j.toNat).toInt ≠ 34 := fun j h1 h2 => by omega
theorem yJ_step {f : Nat → Int32} {p r : Int} {x : Int32} (hJ : ∀ j : Int, p < j → j < x.toInt → (f j.toNat).toInt ≠ 34) (hr : r = x.toInt + 1) (hf : ¬ (f x.toNatClampNeg).toInt = 34) : ∀ j : Int, p < j → j < r → (f j.toNat).toInt ≠ 34 := fun j h1 h2 => by
  rcases Int.lt_or_le j x.toInt with c | c
  · exact hJ j h1 c
  · rw [show j = x.toInt by omega]; exact hf
theorem yQ_none {f : Nat → Int32} {e p x : Int} (hx : e ≤ x) (hJ : ∀ j : Int, p < j → j < x → (f j.toNat).toInt ≠ 34) : yQ f e p p := Or.inl ⟨rfl, fun j h1 h2 => hJ j h1 (by omega)⟩
theorem yQ_hit {f : Nat → Int32} {e p r : Int} {x : Int32} (hr : r = x.toInt + 1) (h1 : p < x.toInt) (h2 : x.toInt < e) (hf : (f x.toNatClampNeg).toInt = 34) (hJ : ∀ j : Int, p < j → j < x.toInt → (f j.toNat).toInt ≠ 34) : yQ f e p r :=
  Or.inr ⟨by omega, by omega, by rw [show r - 1 = x.toInt by omega]; exact hf, fun j a b => hJ j a (by omega)⟩
theorem yS_semi32 {f : Nat → Int32} {e : Int} {x : Int32} (h : x.toInt < e) (hf : (f x.toNatClampNeg).toInt = 59) : yS f e x.toInt x.toInt := yS_semi h hf
theorem yS_comp {f : Nat → Int32} {e x1 q : Int} {x : Int32} (hS : ∀ r : Int, yS f e r x.toInt → yS f e r x1) (hlt : x.toInt < e) (h59 : ¬ (f x.toNatClampNeg).toInt = 59) (hs : ystep f e x.toInt q) : ∀ r : Int, yS f e r q → yS f e r x1 := fun r h => hS r (yS_back hlt h59 hs h)
theorem ystep_q32 {f : Nat → Int32} {e q : Int} {x : Int32} (hf : (f x.toNatClampNeg).toInt = 34) (hQ : yQ f e x.toInt q) (hlt : x.toInt < q) : ystep f e x.toInt q := Or.inl ⟨hf, hQ, hlt⟩
theorem ystep_p32 {f : Nat → Int32} {e q : Int} {x : Int32} (hf : ¬ (f x.toNatClampNeg).toInt = 34) (hp : ((f x.toNatClampNeg).toInt = 92 ∨ (f x.toNatClampNeg).toInt = 95 ∨ (f x.toNatClampNeg).toInt = 42) ∧ x.toInt + 1 < e) (hq : q = x.toInt + 2) : ystep f e x.toInt q := Or.inr (Or.inl ⟨Or.inl hf, hp, hq⟩)
theorem ystep_o32 {f : Nat → Int32} {e q : Int} {x : Int32} (hf : ¬ (f x.toNatClampNeg).toInt = 34) (hp : ¬ (((f x.toNatClampNeg).toInt = 92 ∨ (f x.toNatClampNeg).toInt = 95 ∨ (f x.toNatClampNeg).toInt = 42) ∧ x.toInt + 1 < e)) (hq : q = x.toInt + 1) : ystep f e x.toInt q := Or.inr (Or.inr ⟨Or.inl hf, hp, hq⟩)
theorem ystep_n32 {f : Nat → Int32} {e q r : Int} {x : Int32} (hQ : yQ f e x.toInt r) (hr : r = x.toInt) (hf : (f x.toNatClampNeg).toInt = 34) (hq : q = x.toInt + 1) : ystep f e x.toInt q := Or.inr (Or.inr ⟨Or.inr (hr ▸ hQ), fun c => by
  have h := c.1; rw [ztn] at h; omega, hq⟩)
theorem yP_end {f : Nat → Int32} {a b : Int} (h : b ≤ a) : yP f a b := fun j h1 h2 => by omega
theorem yP_one {f : Nat → Int32} {a b : Int} {x : Int32} (ha : a = x.toInt) (hb : b ≤ a + 1) (h : ypl (f x.toNatClampNeg).toInt) : yP f a b := fun j h1 h2 => by
  rw [show j = x.toInt by omega]; exact h
theorem yP_sn {f : Nat → Int32} {a b c : Int} {x : Int32} (h1 : yP f a b) (hb : b = x.toInt) (hc : c = b + 1) (h : ypl (f x.toNatClampNeg).toInt) : yP f a c := by
  subst hc; subst hb; exact yP_snoc h1 h
theorem yP_cn {f : Nat → Int32} {a b c : Int} {x : Int32} (h1 : yP f b c) (ha : a = x.toInt) (hb : b = a + 1) (h : ypl (f x.toNatClampNeg).toInt) : yP f a c := by
  subst hb; subst ha; exact yP_cons h h1
theorem ySt_step {f : Nat → Int32} {e p r : Int} {w : Int64} {n x : Int32} (h : ∀ k : Int32, 0 ≤ k.toInt → k.toInt < x.toInt → ysm (ych f e (p + k.toInt)) = zby8 w n k) (hr : r = x.toInt + 1) (hx : ysm (ych f e (p + x.toInt)) = zby8 w n x) : ∀ k : Int32, 0 ≤ k.toInt → k.toInt < r → ysm (ych f e (p + k.toInt)) = zby8 w n k := fun k h0 h1 => by
  rcases Int.lt_or_le k.toInt x.toInt with c | c
  · exact h k h0 c
  · rw [show k = x from Int32.toInt_inj.mp (by omega)]; exact hx
theorem yU_step {w : Int64} {r : Int} {x : Int32} (h : ∀ m : Int32, 0 ≤ m.toInt → m.toInt < x.toInt → ¬ zup w m) (hr : r = x.toInt + 1) (hx : ¬ zup w x) : ∀ m : Int32, 0 ≤ m.toInt → m.toInt < r → ¬ zup w m := fun k h0 h1 => by
  rcases Int.lt_or_le k.toInt x.toInt with c | c
  · exact h k h0 c
  · rw [show k = x from Int32.toInt_inj.mp (by omega)]; exact hx
theorem zmac (x a : Int32) (h1 : -2900000 ≤ x.toInt) (h2 : x.toInt ≤ 2900000) (h3 : 0 ≤ a.toInt) (h4 : a.toInt ≤ 255) : ((10 : Int32) * x + a - (48 : Int32)).toInt = 10 * x.toInt + a.toInt - 48 := by
  have e1 : ((10 : Int32) * x).toInt = 10 * x.toInt := by
    rw [zmul1 (by simp only [Int32.reduceToInt]; omega) (by simp only [Int32.reduceToInt]; omega)]; rfl
  have e2 : ((10 : Int32) * x + a).toInt = 10 * x.toInt + a.toInt := by rw [zadd1 (by omega) (by omega), e1]
  rw [zsub1 (by simp only [Int32.reduceToInt]; omega) (by simp only [Int32.reduceToInt]; omega), e2]
  rfl
theorem ySt_use {f : Nat → Int32} {e p r : Int} {w : Int64} (N : Nat) (k : Int32) (q : Int) (h : r = 0 ∨ ySt f e p w) (hw : zwok w N = true) (hN : 0 < N) (hk : k.toInt = N) (hq : p = q) : r = 0 ∨ (q + k.toInt ≤ e ∧ yP f q (q + k.toInt)) := by
  rcases h with h | h
  · exact Or.inl h
  · have := ySt_lit N h hw
    rw [hk, ← hq]
    exact Or.inr ⟨this.2.1 hN, this.2.2⟩
theorem yW1 {f : Nat → Int32} {e p r : Int} (q : Int) (h : r = 0 ∨ ySt f e p 422725116779) (hq : p = q) : r = 0 ∨ (q + (5 : Int32).toInt ≤ e ∧ yP f q (q + (5 : Int32).toInt)) := ySt_use 5 5 q h zw1 (by decide) (by rfl) hq
theorem yW2 {f : Nat → Int32} {e p r : Int} (q : Int) (h : r = 0 ∨ ySt f e p 444300879214) (hq : p = q) : r = 0 ∨ (q + (5 : Int32).toInt ≤ e ∧ yP f q (q + (5 : Int32).toInt)) := ySt_use 5 5 q h zw2 (by decide) (by rfl) hq
theorem yW3 {f : Nat → Int32} {e p r : Int} (q : Int) (h : r = 0 ∨ ySt f e p 512852849765) (hq : p = q) : r = 0 ∨ (q + (5 : Int32).toInt ≤ e ∧ yP f q (q + (5 : Int32).toInt)) := ySt_use 5 5 q h zw3 (by decide) (by rfl) hq
theorem yW4 {f : Nat → Int32} {e p r : Int} (q : Int) (h : r = 0 ∨ ySt f e p 1651275109) (hq : p = q) : r = 0 ∨ (q + (4 : Int32).toInt ≤ e ∧ yP f q (q + (4 : Int32).toInt)) := ySt_use 4 4 q h zw4 (by decide) (by rfl) hq
theorem yW5 {f : Nat → Int32} {e p r : Int} (q : Int) (h : r = 0 ∨ ySt f e p 1668899182) (hq : p = q) : r = 0 ∨ (q + (4 : Int32).toInt ≤ e ∧ yP f q (q + (4 : Int32).toInt)) := ySt_use 4 4 q h zw5 (by decide) (by rfl) hq
theorem yW6 {f : Nat → Int32} {e p r : Int} (q : Int) (h : r = 0 ∨ ySt f e p 7497060) (hq : p = q) : r = 0 ∨ (q + (3 : Int32).toInt ≤ e ∧ yP f q (q + (3 : Int32).toInt)) := ySt_use 3 3 q h zw6 (by decide) (by rfl) hq
theorem yW7 {f : Nat → Int32} {e p r : Int} (q : Int) (h : r = 0 ∨ ySt f e p 133476517703543) (hq : p = q) : r = 0 ∨ (q + (6 : Int32).toInt ≤ e ∧ yP f q (q + (6 : Int32).toInt)) := ySt_use 6 6 q h zw7 (by decide) (by rfl) hq
theorem yW8 {f : Nat → Int32} {e p r : Int} (q : Int) (h : r = 0 ∨ ySt f e p 30787869172724833) (hq : p = q) : r = 0 ∨ (q + (7 : Int32).toInt ≤ e ∧ yP f q (q + (7 : Int32).toInt)) := ySt_use 7 7 q h zw8 (by decide) (by rfl) hq
theorem zw9 : zwok 418443653229 5 = true := by decide +kernel
theorem yW9 {f : Nat → Int32} {e p r : Int} (q : Int) (h : r = 0 ∨ ySt f e p 418443653229) (hq : p = q) : r = 0 ∨ (q + (5 : Int32).toInt ≤ e ∧ yP f q (q + (5 : Int32).toInt)) := ySt_use 5 5 q h zw9 (by decide) (by rfl) hq
theorem zw10 : zwok 6369136 3 = true := by decide +kernel
theorem yW10 {f : Nat → Int32} {e p r : Int} (q : Int) (h : r = 0 ∨ ySt f e p 6369136) (hq : p = q) : r = 0 ∨ (q + (3 : Int32).toInt ≤ e ∧ yP f q (q + (3 : Int32).toInt)) := ySt_use 3 3 q h zw10 (by decide) (by rfl) hq
theorem ySt_no {f : Nat → Int32} {e p : Int} {w : Int64} {n k : Int32} (hA : 8 ≤ n.toInt ∨ zup w n) (hB : ∀ m : Int32, 0 ≤ m.toInt → m.toInt < n.toInt → ¬ zup w m) (h0 : 0 ≤ n.toInt) (h8 : n.toInt ≤ 8) (k0 : 0 ≤ k.toInt) (k1 : k.toInt < n.toInt) (hne : ¬ ysm (ych f e (p + k.toInt)) = zby8 w n k) : ¬ ySt f e p w := by
  rintro ⟨n', g0, g8, gA, gB, gC⟩
  have e : n' = n := by
    apply Int32.toInt_inj.mp
    rcases Int.lt_trichotomy n'.toInt n.toInt with c | c | c
    · rcases gA with d | d
      · omega
      · exact absurd d (hB n' g0 c)
    · exact c
    · rcases hA with d | d
      · omega
      · exact absurd d (gB n h0 c)
  subst e
  exact hne (gC k k0 k1)
noncomputable def ycn (f : Nat → Int32) (e p : Int) : Int := by
  classical exact if ¬ ych f e p = 91 then 0 else if ySt f e (p + 1) 422725116779 then 5 else if ySt f e (p + 1) 444300879214 then 5 else if ySt f e (p + 1) 512852849765 then 5 else if ySt f e (p + 1) 1651275109 then 4 else if ySt f e (p + 1) 1668899182 then 4 else if ySt f e (p + 1) 7497060 then 3 else if ySt f e (p + 1) 133476517703543 then 6 else if ySt f e (p + 1) 30787869172724833 then 7 else 0
noncomputable def ycol (f : Nat → Int32) (e p : Int) : Int := if 0 < ycn f e p ∧ ych f e (p + 1 + ycn f e p) = 93 then ycn f e p + 2 else 0

/-! items that are put behind the last one; counts over split ranges -/
theorem zcnt_add (f : Nat → Int32) (w : Int) : ∀ (n m k : Nat), zcnt f w k (n + m) = zcnt f w k n + zcnt f w (k + n) m
  | 0, m, k => by simp [zcnt]
  | n + 1, m, k => by
    rw [show n + 1 + m = (n + m) + 1 by omega]
    simp only [zcnt]
    rw [zcnt_add f w n m (k + 1), show k + 1 + n = k + (n + 1) by omega]
    omega
theorem zrem_split {f : Nat → Int32} {w a b c : Int} (h0 : 0 ≤ a) (h1 : a ≤ b) (h2 : b ≤ c) : zrem f w a c = zrem f w a b + zrem f w b c := by
  unfold zrem
  rw [show (c - a).toNat = (b - a).toNat + (c - b).toNat by omega, zcnt_add, show a.toNat + (b - a).toNat = b.toNat by omega]
theorem zcnt_congr {f g : Nat → Int32} {w : Int} : ∀ (n k : Nat), (∀ j : Nat, k ≤ j → j < k + n → ((f j).toInt = w ↔ (g j).toInt = w)) → zcnt f w k n = zcnt g w k n
  | 0, k, _ => rfl
  | n + 1, k, h => by
    simp only [zcnt]
    rw [zcnt_congr n (k + 1) (fun j h1 h2 => h j (by omega) (by omega))]
    have := h k (by omega) (by omega)
    by_cases c : (f k).toInt = w
    · rw [if_pos c, if_pos (this.mp c)]
    · rw [if_neg c, if_neg (fun d => c (this.mpr d))]
theorem zrem_congr {f g : Nat → Int32} {w a b : Int} (h0 : 0 ≤ a) (h : ∀ j : Nat, a ≤ (j : Int) → (j : Int) < b → ((f j).toInt = w ↔ (g j).toInt = w)) : zrem f w a b = zrem g w a b := by
  unfold zrem
  exact zcnt_congr _ _ (fun j h1 h2 => h j (by omega) (by omega))
theorem zcnt_zero {f : Nat → Int32} {w : Int} : ∀ (n k : Nat), (∀ j : Nat, k ≤ j → j < k + n → (f j).toInt ≠ w) → zcnt f w k n = 0
  | 0, k, _ => rfl
  | n + 1, k, h => by
    simp only [zcnt]
    rw [zcnt_zero n (k + 1) (fun j h1 h2 => h j (by omega) (by omega)), if_neg (h k (by omega) (by omega))]
    rfl
theorem zrem_zero {f : Nat → Int32} {w a b : Int} (h0 : 0 ≤ a) (h : ∀ j : Nat, a ≤ (j : Int) → (j : Int) < b → (f j).toInt ≠ w) : zrem f w a b = 0 := by
  unfold zrem
  exact zcnt_zero _ _ (fun j h1 h2 => h j (by omega) (by omega))
def yA (kd fi se kd' fi' se' : Nat → Int32) (b b' : Int) : Prop := (∀ n : Nat, (n : Int) < b → kd' n = kd n ∧ fi' n = fi n ∧ se' n = se n) ∧ (∀ n : Nat, b ≤ (n : Int) → (n : Int) < b' → (kd' n).toInt ≠ 4 ∧ ((kd' n).toInt = 15 → 0 ≤ (fi' n).toInt ∧ (fi' n).toInt ≤ 3) ∧ 0 ≤ (se' n).toInt ∧ (se' n).toInt ≤ 5)
theorem yA_refl {kd fi se : Nat → Int32} {b b' : Int} (h : b' ≤ b) : yA kd fi se kd fi se b b' := ⟨fun _ _ => ⟨rfl, rfl, rfl⟩, fun n h1 h2 => by omega⟩
theorem yA_item {kd fi se kd' fi' se' : Nat → Int32} {b b' c : Int} {i v x y : Int32} (h : yA kd fi se kd' fi' se' b b') (hi : i.toInt = b') (hb : b ≤ b') (h0 : 0 ≤ b') (hc : c = b' + 1) (hv : v.toInt ≠ 4) (hx : v.toInt = 15 → 0 ≤ x.toInt ∧ x.toInt ≤ 3) (hy : 0 ≤ y.toInt ∧ y.toInt ≤ 5) : yA kd fi se (upd kd' i.toNatClampNeg v) (upd fi' i.toNatClampNeg x) (upd se' i.toNatClampNeg y) b c := by
  subst hc
  have hn : i.toNatClampNeg = b'.toNat := by rw [← hi]; rfl
  refine ⟨fun n h1 => ?_, fun n h1 h2 => ?_⟩
  · have hne : n ≠ i.toNatClampNeg := by omega
    rw [pk_un hne, pk_un hne, pk_un hne]; exact h.1 n h1
  · by_cases e : n = i.toNatClampNeg
    · subst e; rw [pk_us, pk_us, pk_us]; exact ⟨hv, hx, hy⟩
    · rw [pk_un e, pk_un e, pk_un e]; exact h.2 n h1 (by omega)
theorem yA_trans {kd fi se kd' fi' se' kd2 fi2 se2 : Nat → Int32} {b b' b2 : Int} (h : yA kd fi se kd' fi' se' b b') (h2 : yA kd' fi' se' kd2 fi2 se2 b' b2) (hb : b ≤ b') : yA kd fi se kd2 fi2 se2 b b2 := by
  refine ⟨fun n h1 => ?_, fun n h1 h3 => ?_⟩
  · have a := h.1 n h1; have c := h2.1 n (by omega)
    exact ⟨c.1.trans a.1, c.2.1.trans a.2.1, c.2.2.trans a.2.2⟩
  · rcases Int.lt_or_le (n : Int) b' with k | k
    · have a := h.2 n h1 k; have c := h2.1 n k
      rw [c.1, c.2.1, c.2.2]; exact a
    · exact h2.2 n k h3
/-- what the items of a section that is being read keep -/
def yG (kd fi se : Nat → Int32) (a b pt : Int) : Prop := (∀ n : Nat, a ≤ (n : Int) → (n : Int) < b → ((kd n).toInt = 15 → 0 ≤ (fi n).toInt ∧ (fi n).toInt ≤ 3) ∧ 0 ≤ (se n).toInt ∧ (se n).toInt ≤ 5) ∧ zrem kd 4 a b ≤ pt
theorem yG_nil {kd fi se : Nat → Int32} {a b pt : Int} (h : b ≤ a) (hp : 0 ≤ pt) : yG kd fi se a b pt := ⟨fun n h1 h2 => by omega, by rw [zrem_end h]; exact hp⟩
theorem yG_A {kd fi se kd' fi' se' : Nat → Int32} {a b b' pt : Int} (h : yG kd fi se a b pt) (hA : yA kd fi se kd' fi' se' b b') (h0 : 0 ≤ a) (h1 : a ≤ b) (h2 : b ≤ b') : yG kd' fi' se' a b' pt := by
  refine ⟨fun n h3 h4 => ?_, ?_⟩
  · rcases Int.lt_or_le (n : Int) b with k | k
    · have c := hA.1 n k
      rw [c.1, c.2.1, c.2.2]; exact h.1 n h3 k
    · exact (hA.2 n k h4).2
  · rw [zrem_split h0 h1 h2, zrem_zero (by omega) (fun j h3 h4 => (hA.2 j h3 h4).1), ← zrem_congr (g := kd') (f := kd) h0 (fun j h3 h4 => by rw [(hA.1 j h4).1])]
    have := h.2; omega
theorem yG_pt {kd fi se kd' fi' se' : Nat → Int32} {a b pt pt' c : Int} {i v x y : Int32} (h : yG kd fi se a b pt) (hi : i.toInt = b) (h0 : 0 ≤ a) (h1 : a ≤ b) (hc : c = b + 1) (hp : pt + 1 ≤ pt') (hv : v.toInt = 4) (hy : 0 ≤ y.toInt ∧ y.toInt ≤ 5) (e1 : kd' = upd kd i.toNatClampNeg v) (e2 : fi' = upd fi i.toNatClampNeg x) (e3 : se' = upd se i.toNatClampNeg y) : yG kd' fi' se' a c pt' := by
  subst hc; subst e1; subst e2; subst e3
  have hn : i.toNatClampNeg = b.toNat := by rw [← hi]; rfl
  refine ⟨fun n h3 h4 => ?_, ?_⟩
  · by_cases e : n = i.toNatClampNeg
    · subst e; rw [pk_us, pk_us, pk_us]; exact ⟨fun q => by omega, hy⟩
    · rw [pk_un e, pk_un e, pk_un e]; exact h.1 n h3 (by omega)
  · have z1 := zrem_bd (upd kd i.toNatClampNeg v) 4 b (b + 1)
    rw [zrem_split h0 h1 (show b ≤ b + 1 by omega), ← zrem_congr (f := kd) h0 (fun j h3 h4 => by rw [pk_un (by omega)])]
    have := h.2; omega

theorem yS_id {f : Nat → Int32} {e a b : Int} (h : b = a) : ∀ to : Int, yS f e to a → yS f e to b := fun _ k => h ▸ k
theorem yS_q {f : Nat → Int32} {e a b q : Int} {x : Int32} (ha : a = x.toInt) (hb : b = q) (hf : (f x.toNatClampNeg).toInt = 34) (hQ : yQ f e x.toInt q) (hlt : x.toInt < q) (he : x.toInt < e) : ∀ to : Int, yS f e to a → yS f e to b := fun to h => by
  subst ha; subst hb
  exact yS_fwd h he (by rw [ztn]; omega) (ystep_q32 hf hQ hlt)
theorem yS_p {f : Nat → Int32} {e a b : Int} {x : Int32} (ha : a = x.toInt) (hb : b = x.toInt + 2) (hp : ((f x.toNatClampNeg).toInt = 92 ∨ (f x.toNatClampNeg).toInt = 95 ∨ (f x.toNatClampNeg).toInt = 42) ∧ x.toInt + 1 < e) : ∀ to : Int, yS f e to a → yS f e to b := fun to h => by
  subst ha
  exact yS_fwd h (by omega) (by rw [ztn]; omega) (ystep_p32 (by omega) hp hb)
theorem yS_P {f : Nat → Int32} {e a b c : Int} (hP : yP f a c) (hb : b = c) (h1 : a ≤ c) (h2 : c ≤ e) : ∀ to : Int, yS f e to a → yS f e to b := fun to h => by
  subst hb; exact yS_pl h1 h2 hP h
theorem yS_1 {f : Nat → Int32} {e a b : Int} {x : Int32} (ha : a = x.toInt) (hb : b = x.toInt + 1) (hp : ypl (f x.toNatClampNeg).toInt) (h2 : x.toInt < e) : ∀ to : Int, yS f e to a → yS f e to b := fun to h => by
  subst ha; subst hb; exact yS_pl (by omega) (by omega) (yP_one rfl (by omega) hp) h
theorem yA_mod {kd fi se kd' fi' se' se2 : Nat → Int32} {b b' : Int} {i y : Int32} (h : yA kd fi se kd' fi' se' b b') (e : se2 = upd se' i.toNatClampNeg y) (h1 : b ≤ i.toInt) (h0 : 0 ≤ i.toInt) (hy : 0 ≤ y.toInt ∧ y.toInt ≤ 5) : yA kd fi se kd' fi' se2 b b' := by
  subst e
  have hn : (i.toNatClampNeg : Int) = i.toInt := by rw [← ztn]; omega
  refine ⟨fun n h3 => ?_, fun n h3 h4 => ?_⟩
  · rw [pk_un (by omega)]; exact h.1 n h3
  · by_cases c : n = i.toNatClampNeg
    · subst c; rw [pk_us]; have := h.2 _ h3 h4; exact ⟨this.1, this.2.1, hy⟩
    · rw [pk_un c]; exact h.2 n h3 h4

def yN (kd kd' : Nat → Int32) (a : Int) : Prop := ∀ n : Nat, kd' n = kd n ∨ (kd n).toInt = 2 ∧ (kd' n).toInt = 9 ∧ a ≤ (n : Int)
theorem yN_refl {kd : Nat → Int32} {a : Int} : yN kd kd a := fun _ => Or.inl rfl
theorem yN_step {kd kd' : Nat → Int32} {a : Int} {i : Int32} (h : yN kd kd' a) (hi : (kd' i.toNatClampNeg).toInt = 2) (ha : a ≤ i.toInt) (h0 : 0 ≤ i.toInt) : yN kd (upd kd' i.toNatClampNeg 9) a := fun n => by
  by_cases e : n = i.toNatClampNeg
  · subst e
    rw [pk_us]
    rcases h i.toNatClampNeg with c | c
    · rw [c] at hi; exact Or.inr ⟨hi, rfl, by rw [← ztn]; omega⟩
    · omega
  · rw [pk_un e]; exact h n
theorem yG_N {kd kd' fi se : Nat → Int32} {a b pt c : Int} (h : yG kd fi se a b pt) (hN : yN kd kd' c) (h0 : 0 ≤ a) : yG kd' fi se a b pt := by
  refine ⟨fun n h1 h2 => ?_, ?_⟩
  · have k := h.1 n h1 h2
    rcases hN n with d | d
    · rw [d]; exact k
    · exact ⟨fun q => by omega, k.2⟩
  · rw [← zrem_congr (f := kd) h0 (fun j _ _ => by rcases hN j with d | d; rw [d]; omega)]
    exact h.2
def yF (f g : Nat → Int32) (a : Int) : Prop := ∀ n : Nat, (n : Int) < a → g n = f n
theorem yF_A {kd fi se kd' fi' se' : Nat → Int32} {a b b' : Int} (h : yA kd fi se kd' fi' se' b b') (hab : a ≤ b) : yF kd kd' a ∧ yF fi fi' a ∧ yF se se' a := ⟨fun n h1 => (h.1 n (by omega)).1, fun n h1 => (h.1 n (by omega)).2.1, fun n h1 => (h.1 n (by omega)).2.2⟩
theorem yF_N {kd kd' : Nat → Int32} {a : Int} (h : yN kd kd' a) : yF kd kd' a := fun n h1 => (h n).resolve_right (fun c => by omega)
theorem yF_trans {f g k : Nat → Int32} {a : Int} (h : yF f g a) (h2 : yF g k a) : yF f k a := fun n h1 => (h2 n h1).trans (h n h1)
theorem yF_upd {f g : Nat → Int32} {a : Int} {i v : Int32} (e : g = upd f i.toNatClampNeg v) (h : a ≤ i.toInt) (h0 : 0 ≤ i.toInt) : yF f g a := fun n h1 => by
  subst e; rw [pk_un]; rw [← ztn]; omega
theorem yF_refl {f : Nat → Int32} {a : Int} : yF f f a := fun _ _ => rfl
theorem yA_cast {kd fi se kd' fi' se' : Nat → Int32} {b b' c : Int} (e : c = b') (h : yA kd fi se kd' fi' se' b b') : yA kd fi se kd' fi' se' b c := e ▸ h
theorem yP_cast {f : Nat → Int32} {a b a' b' : Int} (h1 : a' = a) (h2 : b' = b) (h : yP f a b) : yP f a' b' := by subst h1; subst h2; exact h
theorem yP_two {f : Nat → Int32} {a m b : Int} {x y : Int32} (h1 : a = x.toInt) (h2 : y.toInt = a + 1) (h3 : m = a + 2) (hx : ypl (f x.toNatClampNeg).toInt) (hy : ypl (f y.toNatClampNeg).toInt) (h : yP f m b) : yP f a b :=
  yP_cn (x := x) (b := a + 1) (yP_cn (x := y) (b := m) h (by omega) (by omega) hy) h1 rfl hx
theorem yP_on {f : Nat → Int32} {a m b : Int} {x : Int32} (h1 : a = x.toInt) (h3 : m = a + 1) (hx : ypl (f x.toNatClampNeg).toInt) (h : yP f m b) : yP f a b := yP_cn (x := x) (b := m) h h1 h3 hx

theorem yG_cast {kd fi se : Nat → Int32} {a b pt b' pt' : Int} (h : yG kd fi se a b pt) (hb : b' = b) (hp : pt ≤ pt') : yG kd fi se a b' pt' := by
  subst hb; exact ⟨h.1, Int.le_trans h.2 hp⟩
/-- what a section's items keep over one more item (or none), and what lies before the section -/
def yH (kd fi se kd' fi' se' : Nat → Int32) (a b b' pt pt' : Int) : Prop := (yG kd fi se a b pt → yG kd' fi' se' a b' pt') ∧ yF kd kd' a ∧ yF fi fi' a ∧ yF se se' a ∧ (∀ q : Nat, a ≤ (q : Int) → (q : Int) < b → (kd q).toInt = 10 → (kd' q).toInt = 10)
theorem yH_A {kd fi se kd' fi' se' : Nat → Int32} {a b b' c pt pt' : Int} (hA : yA kd fi se kd' fi' se' b b') (h0 : 0 ≤ a) (h1 : a ≤ b) (h2 : b ≤ b') (hc : c = b') (hp : pt ≤ pt') : yH kd fi se kd' fi' se' a b c pt pt' :=
  ⟨fun g => yG_cast (yG_A g hA h0 h1 h2) hc hp, (yF_A hA h1).1, (yF_A hA h1).2.1, (yF_A hA h1).2.2, fun q _ h4 h5 => by rw [(hA.1 q h4).1]; exact h5⟩
theorem yH_N {kd kd1 fi se kd' fi' se' : Nat → Int32} {a b b' c pt pt' : Int} (hN : yN kd kd1 a) (hA : yA kd1 fi se kd' fi' se' b b') (h0 : 0 ≤ a) (h1 : a ≤ b) (h2 : b ≤ b') (hc : c = b') (hp : pt ≤ pt') : yH kd fi se kd' fi' se' a b c pt pt' :=
  ⟨fun g => yG_cast (yG_A (yG_N g hN h0) hA h0 h1 h2) hc hp, yF_trans (yF_N hN) (yF_A hA h1).1, (yF_A hA h1).2.1, (yF_A hA h1).2.2, fun q _ h4 h5 => by
    rw [(hA.1 q h4).1]; rcases hN q with d | d; rw [d]; exact h5; omega⟩
theorem yH_pt {kd fi se kd' fi' se' : Nat → Int32} {a b c pt pt' : Int} {i v x y : Int32} (e1 : kd' = upd kd i.toNatClampNeg v) (e2 : fi' = upd fi i.toNatClampNeg x) (e3 : se' = upd se i.toNatClampNeg y) (hi : i.toInt = b) (h0 : 0 ≤ a) (h1 : a ≤ b) (hc : c = b + 1) (hp : pt + 1 ≤ pt') (hv : v.toInt = 4) (hy : 0 ≤ y.toInt ∧ y.toInt ≤ 5) : yH kd fi se kd' fi' se' a b c pt pt' :=
  ⟨fun g => yG_pt g hi h0 h1 hc hp hv hy e1 e2 e3, yF_upd e1 (by omega) (by omega), yF_upd e2 (by omega) (by omega), yF_upd e3 (by omega) (by omega), fun q _ h4 h5 => by
    subst e1; rw [pk_un]; exact h5; rw [← ztn]; omega⟩
def yM (fi fi' kd : Nat → Int32) (a : Int) : Prop := ∀ n : Nat, fi' n = fi n ∨ (kd n).toInt = 11 ∧ a ≤ (n : Int)
theorem yM_refl {fi kd : Nat → Int32} {a : Int} : yM fi fi kd a := fun _ => Or.inl rfl
theorem yM_step {fi fi' kd : Nat → Int32} {a : Int} {i v : Int32} (h : yM fi fi' kd a) (hk : (kd i.toNatClampNeg).toInt = 11) (ha : a ≤ i.toInt) (h0 : 0 ≤ i.toInt) : yM fi (upd fi' i.toNatClampNeg v) kd a := fun n => by
  by_cases e : n = i.toNatClampNeg
  · subst e; exact Or.inr ⟨hk, by rw [← ztn]; omega⟩
  · rw [pk_un e]; exact h n
theorem yG_M {kd fi fi' se : Nat → Int32} {a b pt c : Int} (h : yG kd fi se a b pt) (hM : yM fi fi' kd c) : yG kd fi' se a b pt := by
  refine ⟨fun n h1 h2 => ?_, h.2⟩
  have k := h.1 n h1 h2
  rcases hM n with d | d
  · rw [d]; exact k
  · exact ⟨fun q => by omega, k.2⟩
theorem yF_M {kd fi fi' : Nat → Int32} {a : Int} (hM : yM fi fi' kd a) : yF fi fi' a := fun n h1 => (hM n).resolve_right (fun c => by omega)

theorem yS_self {f : Nat → Int32} {e to : Int} : ∀ (n : Nat) (p : Int), yT f e to n p → yS f e to to
  | 0, _, h => absurd h id
  | n + 1, p, h => by
    rcases h with ⟨h1, h2⟩ | ⟨h1, h2, h3⟩ | ⟨_, _, q, _, hT⟩
    · subst h2; exact yS_end h1
    · subst h3; exact yS_semi h1 h2
    · exact yS_self n q hT
theorem yS_to {f : Nat → Int32} {e to p : Int} (h : yS f e to p) : yS f e to to := by
  obtain ⟨n, hn⟩ := h; exact yS_self n p hn
def yK (sK sK' kd : Nat → Int32) (i : Nat) (a b : Int) : Prop := ∃ v : Int32, sK' = upd sK i v ∧ (v.toInt = 4 → ∃ q : Nat, a ≤ (q : Int) ∧ (q : Int) < b ∧ (kd q).toInt = 10)
theorem upd_upd {f : Nat → Int32} {i : Nat} {v w : Int32} : upd (upd f i v) i w = upd f i w := funext fun n => by
  by_cases e : n = i
  · subst e; rw [pk_us, pk_us]
  · rw [pk_un e, pk_un e, pk_un e]
/-- the state of a section that is being read -/
def yR (kd0 fi0 se0 sK0 kd fi se sK : Nat → Int32) (i : Nat) (a b pt : Int) : Prop := yG kd fi se a b pt ∧ yF kd0 kd a ∧ yF fi0 fi a ∧ yF se0 se a ∧ yK sK0 sK kd i a b
theorem yR_0 {kd fi se sK sK' : Nat → Int32} {i : Nat} {v : Int32} {a b pt : Int} (hb : b ≤ a) (hp : 0 ≤ pt) (e : sK' = upd sK i v) (hv : ¬ v.toInt = 4) : yR kd fi se sK kd fi se sK' i a b pt :=
  ⟨yG_nil hb hp, yF_refl, yF_refl, yF_refl, v, e, fun h => absurd h hv⟩
theorem yR_A {kd0 fi0 se0 sK0 kd fi se sK kd' fi' se' : Nat → Int32} {i : Nat} {a b b' c pt : Int} (h : yR kd0 fi0 se0 sK0 kd fi se sK i a b pt) (hA : yA kd fi se kd' fi' se' b b') (h0 : 0 ≤ a) (h1 : a ≤ b) (h2 : b ≤ b') (hc : c = b') : yR kd0 fi0 se0 sK0 kd' fi' se' sK i a c pt := by
  subst hc
  obtain ⟨g, k1, k2, k3, v, e, hv⟩ := h
  refine ⟨yG_A g hA h0 h1 h2, yF_trans k1 (yF_A hA h1).1, yF_trans k2 (yF_A hA h1).2.1, yF_trans k3 (yF_A hA h1).2.2, v, e, fun hq => ?_⟩
  obtain ⟨q, q1, q2, q3⟩ := hv hq
  exact ⟨q, q1, by omega, by rw [(hA.1 q q2).1]; exact q3⟩
theorem yR_H {kd0 fi0 se0 sK0 kd fi se sK kd' fi' se' sK' : Nat → Int32} {i : Nat} {x : Int32} {a b b' pt pt' : Int} (h : yR kd0 fi0 se0 sK0 kd fi se sK i a b pt) (hH : yH kd fi se kd' fi' se' a b b' pt pt') (h2 : b ≤ b') (h1 : a ≤ b) (hx : x.toInt = b) (h0 : 0 ≤ b) (hs : sK' = sK ∨ sK' = upd sK i 3 ∨ sK' = upd sK i 4 ∧ b' = b + 1 ∧ (kd' x.toNatClampNeg).toInt = 10) : yR kd0 fi0 se0 sK0 kd' fi' se' sK' i a b' pt' := by
  obtain ⟨g, k1, k2, k3, v, e, hv⟩ := h
  obtain ⟨h3, f1, f2, f3, hq⟩ := hH
  refine ⟨h3 g, yF_trans k1 f1, yF_trans k2 f2, yF_trans k3 f3, ?_⟩
  rcases hs with c | c | ⟨c, d, d2⟩
  · refine ⟨v, c.trans e, fun h4 => ?_⟩
    obtain ⟨q, q1, q2, q3⟩ := hv h4
    exact ⟨q, q1, by omega, hq q q1 q2 q3⟩
  · exact ⟨3, by rw [c, e, upd_upd], fun h4 => absurd h4 (by decide)⟩
  · refine ⟨4, by rw [c, e, upd_upd], fun _ => ⟨x.toNatClampNeg, ?_, ?_, d2⟩⟩
    · rw [← ztn]; omega
    · rw [← ztn]; omega
theorem yR_M {kd0 fi0 se0 sK0 kd fi se sK fi' : Nat → Int32} {i : Nat} {a b pt : Int} (h : yR kd0 fi0 se0 sK0 kd fi se sK i a b pt) (hM : yM fi fi' kd a) : yR kd0 fi0 se0 sK0 kd fi' se sK i a b pt := by
  obtain ⟨g, k1, k2, k3, k4⟩ := h
  exact ⟨yG_M g hM, k1, yF_trans k2 (yF_M hM), k3, k4⟩
theorem yR_c {kd0 fi0 se0 sK0 kd fi se sK : Nat → Int32} {i : Nat} {a b pt a' b' pt' : Int} (h : yR kd0 fi0 se0 sK0 kd fi se sK i a b pt) (ha : a' = a) (hb : b' = b) (hp : pt ≤ pt') : yR kd0 fi0 se0 sK0 kd fi se sK i a' b' pt' := by
  subst ha; subst hb
  exact ⟨⟨h.1.1, Int.le_trans h.1.2 hp⟩, h.2⟩
theorem yS_c {f : Nat → Int32} {e to p e' p' : Int} (he : e' = e) (hp : p' = p) (h : yS f e to p) : yS f e' to p' := by subst he; subst hp; exact h
theorem yS_y {f : Nat → Int32} {e to a b e' b' : Int} (hY : yP f a b) (hS : yS f e to a) (h1 : a ≤ b) (h2 : b ≤ e) (he : e' = e) (hb : b' = b) : yS f e' to b' := by subst he; subst hb; exact yS_pl h1 h2 hY hS

theorem yF_mono {f g : Nat → Int32} {a c : Int} (h : yF f g a) (hc : c ≤ a) : yF f g c := fun n h1 => h n (by omega)
theorem yG_F {kd fi se kd' fi' se' : Nat → Int32} {a b c pt : Int} (h : yG kd fi se a b pt) (h1 : yF kd kd' c) (h2 : yF fi fi' c) (h3 : yF se se' c) (hb : b ≤ c) (h0 : 0 ≤ a) : yG kd' fi' se' a b pt := by
  refine ⟨fun n k1 k2 => ?_, ?_⟩
  · rw [h1 n (by omega), h2 n (by omega), h3 n (by omega)]; exact h.1 n k1 k2
  · rw [← zrem_congr (f := kd) h0 (fun j _ k2 => by rw [h1 j (by omega)])]; exact h.2
/-- section s of the code that is being read -/
def yO (sK sI sE kd fi se : Nat → Int32) (b : Int) (s : Nat) : Prop := (160 ≤ (sI (5 + s)).toInt ∧ (sI (5 + s)).toInt ≤ (sE (5 + s)).toInt ∧ (sE (5 + s)).toInt ≤ b) ∧ yG kd fi se (sI (5 + s)).toInt (sE (5 + s)).toInt 1 ∧ ((sK (5 + s)).toInt = 4 → ∃ q : Nat, (sI (5 + s)).toInt ≤ (q : Int) ∧ (q : Int) < (sE (5 + s)).toInt ∧ (kd q).toInt = 10)
theorem yO_step {sK sI sE kd fi se sK' sI' sE' kd' fi' se' : Nat → Int32} {x u v : Int32} {i0 i1 b b' : Int} (hall : ∀ s : Nat, (s : Int) < x.toInt → yO sK sI sE kd fi se b s) (hR : yR kd fi se sK kd' fi' se' sK' (5 + x).toNatClampNeg b b' 1) (eI : sI' = upd sI (5 + x).toNatClampNeg u) (hu : u.toInt = b) (eE : sE' = upd sE (5 + x).toNatClampNeg v) (hv : v.toInt = b') (h0 : 0 ≤ x.toInt) (h3 : x.toInt ≤ 3) (hb : 160 ≤ b) (hbb : b ≤ b') : ∀ s : Nat, (s : Int) < x.toInt + 1 → yO sK' sI' sE' kd' fi' se' b' s := by
  obtain ⟨g, k1, k2, k3, w, e, hw⟩ := hR
  have hx : (5 + x).toNatClampNeg = 5 + x.toInt.toNat := by
    rw [← ztn, zadd1 (by simp only [Int32.reduceToInt]; omega) (by simp only [Int32.reduceToInt]; omega)]; simp only [Int32.reduceToInt]; omega
  rw [hx] at e eI eE
  intro s hs
  by_cases c : s = x.toInt.toNat
  · subst c; subst e; subst eI; subst eE
    unfold yO
    rw [pk_us, pk_us, pk_us, hu, hv]
    exact ⟨⟨hb, hbb, Int.le_refl _⟩, g, hw⟩
  · obtain ⟨⟨a1, a2, a3⟩, a4, a5⟩ := hall s (by omega)
    have hne : 5 + s ≠ 5 + x.toInt.toNat := by omega
    subst e; subst eI; subst eE
    unfold yO
    rw [pk_un hne, pk_un hne, pk_un hne]
    refine ⟨⟨a1, a2, by omega⟩, yG_F a4 k1 k2 k3 a3 (by omega), fun q4 => ?_⟩
    obtain ⟨q, q1, q2, q3⟩ := a5 q4
    exact ⟨q, q1, q2, by rw [k1 q (by omega)]; exact q3⟩
theorem zcnt_shift {f g : Nat → Int32} {w : Int} : ∀ (n k d : Nat), (∀ j : Nat, k ≤ j → j < k + n → f j = g (d + j)) → zcnt f w k n = zcnt g w (d + k) n
  | 0, _, _, _ => rfl
  | n + 1, k, d, h => by
    simp only [zcnt]
    rw [zcnt_shift n (k + 1) d (fun j h1 h2 => h j (by omega) (by omega)), h k (by omega) (by omega), show d + (k + 1) = d + k + 1 by omega]
theorem yFin {sK sI sE kd fi se : Nat → Int32} {n it : Int} (hall : ∀ s : Nat, (s : Int) < n → yO sK sI sE kd fi se (160 + it) s) (hs : ∀ s : Nat, (s : Int) < n → sK s = sK (5 + s) ∧ (sI s).toInt = (sI (5 + s)).toInt - 160 ∧ (sE s).toInt = (sE (5 + s)).toInt - 160) (hk : ∀ k : Nat, (k : Int) < it → kd k = kd (160 + k) ∧ fi k = fi (160 + k) ∧ se k = se (160 + k)) (h64 : it ≤ 64) : ∀ s : Int32, 0 ≤ s.toInt → s.toInt < n → zOK1 sK sI sE kd fi se s := by
  intro s h0 h1
  have hn : (s.toNatClampNeg : Int) = s.toInt := by rw [← ztn]; omega
  obtain ⟨⟨a1, a2, a3⟩, a4, a5⟩ := hall s.toNatClampNeg (by omega)
  obtain ⟨e1, e2, e3⟩ := hs s.toNatClampNeg (by omega)
  have key : ∀ i : Int32, (sI s.toNatClampNeg).toInt ≤ i.toInt → i.toInt < (sE s.toNatClampNeg).toInt → (i.toNatClampNeg : Int) = i.toInt := fun i k1 k2 => by rw [← ztn]; omega
  refine ⟨⟨by omega, by omega, by omega, ?_⟩, fun i k1 k2 => ?_, fun i k1 k2 k3 => ?_, fun q4 => ?_⟩
  · have hz : zrem kd 4 (sI s.toNatClampNeg).toInt (sE s.toNatClampNeg).toInt = zrem kd 4 (sI (5 + s.toNatClampNeg)).toInt (sE (5 + s.toNatClampNeg)).toInt := by
      unfold zrem
      rw [zcnt_shift (g := kd) _ _ 160 (fun j j1 j2 => (hk j (by omega)).1)]
      rw [show 160 + (sI s.toNatClampNeg).toInt.toNat = (sI (5 + s.toNatClampNeg)).toInt.toNat by omega, show ((sE s.toNatClampNeg).toInt - (sI s.toNatClampNeg).toInt).toNat = ((sE (5 + s.toNatClampNeg)).toInt - (sI (5 + s.toNatClampNeg)).toInt).toNat by omega]
    rw [hz]; exact a4.2
  · have hi := key i k1 k2
    rw [(hk i.toNatClampNeg (by omega)).2.2]
    exact (a4.1 (160 + i.toNatClampNeg) (by omega) (by omega)).2
  · have hi := key i k1 k2
    rw [(hk i.toNatClampNeg (by omega)).1] at k3
    rw [(hk i.toNatClampNeg (by omega)).2.1]
    exact (a4.1 (160 + i.toNatClampNeg) (by omega) (by omega)).1 k3
  · rw [e1] at q4
    obtain ⟨q, q1, q2, q3⟩ := a5 q4
    refine ⟨nI (q - 160), ?_, ?_, ?_⟩
    · rw [znI (by omega)]; omega
    · rw [znI (by omega)]; omega
    · have : (nI (q - 160)).toNatClampNeg = q - 160 := nI_clamp (by omega)
      rw [this, (hk (q - 160) (by omega)).1, show 160 + (q - 160) = q by omega]; exact q3
theorem zOK_F {sK sI sE kd fi se sK' sI' sE' kd' fi' se' : Nat → Int32} {s : Int32} (h : zOK1 sK sI sE kd fi se s) (f1 : yF sK sK' 5) (f2 : yF sI sI' 5) (f3 : yF sE sE' 5) (f4 : yF kd kd' 160) (f5 : yF fi fi' 160) (f6 : yF se se' 160) (h0 : 0 ≤ s.toInt) (h4 : s.toInt < 5) : zOK1 sK' sI' sE' kd' fi' se' s := by
  have hn : (s.toNatClampNeg : Int) = s.toInt := by rw [← ztn]; omega
  obtain ⟨⟨a1, a2, a3, a4⟩, b1, b2, b3⟩ := h
  unfold zOK1
  rw [f1 _ (by omega), f2 _ (by omega), f3 _ (by omega)]
  have key : ∀ i : Int32, (sI s.toNatClampNeg).toInt ≤ i.toInt → i.toInt < (sE s.toNatClampNeg).toInt → (i.toNatClampNeg : Int) < 160 := fun i k1 k2 => by rw [← ztn]; omega
  refine ⟨⟨a1, a2, a3, ?_⟩, fun i k1 k2 => ?_, fun i k1 k2 k3 => ?_, fun q4 => ?_⟩
  · rw [← zrem_congr (f := kd) a1 (fun j _ k2 => by rw [f4 j (by omega)])]; exact a4
  · rw [f6 _ (key i k1 k2)]; exact b1 i k1 k2
  · rw [f5 _ (key i k1 k2)]; rw [f4 _ (key i k1 k2)] at k3; exact b2 i k1 k2 k3
  · obtain ⟨q, q1, q2, q3⟩ := b3 q4
    exact ⟨q, q1, q2, by rw [f4 _ (key q q1 q2)]; exact q3⟩

theorem yF_u {f g : Nat → Int32} {a : Int} {i v : Int32} (h : yF f g a) (h1 : a ≤ i.toInt) (h0 : 0 ≤ i.toInt) : yF f (upd g i.toNatClampNeg v) a := fun n k => by
  rw [pk_un]
  · exact h n k
  · rw [← ztn]; omega
theorem yF_e {f g k : Nat → Int32} {a : Int} {i v : Int32} (e : g = upd k i.toNatClampNeg v) (h : yF f k a) (h1 : a ≤ i.toInt) (h0 : 0 ≤ i.toInt) : yF f g a := e ▸ yF_u h h1 h0
theorem yF_Nc {kd kd' : Nat → Int32} {a c : Int} (h : yN kd kd' a) (hc : c ≤ a) : yF kd kd' c := fun n h1 => (h n).resolve_right (fun d => by omega)
theorem yF_mono2 {f g : Nat → Int32} {a c : Int} (h : yF f g a) (hc : c ≤ a) : yF f g c := fun n h1 => h n (by omega)

theorem yG_hi {kd fi se kd' fi' se' : Nat → Int32} {a b pt : Int} (h : yG kd fi se a b pt) (hh : ∀ n : Nat, 160 ≤ (n : Int) → kd' n = kd n ∧ fi' n = fi n ∧ se' n = se n) (h0 : 160 ≤ a) : yG kd' fi' se' a b pt := by
  refine ⟨fun n k1 k2 => ?_, ?_⟩
  · obtain ⟨e1, e2, e3⟩ := hh n (by omega)
    rw [e1, e2, e3]; exact h.1 n k1 k2
  · rw [← zrem_congr (f := kd) (by omega) (fun j k1 _ => by rw [(hh j (by omega)).1])]; exact h.2
theorem yO_hi {sK sI sE kd fi se kd' fi' se' : Nat → Int32} {b : Int} {s : Nat} (h : yO sK sI sE kd fi se b s) (hh : ∀ n : Nat, 160 ≤ (n : Int) → kd' n = kd n ∧ fi' n = fi n ∧ se' n = se n) : yO sK sI sE kd' fi' se' b s := by
  obtain ⟨a, g, k⟩ := h
  refine ⟨a, yG_hi g hh a.1, fun q4 => ?_⟩
  obtain ⟨q, q1, q2, q3⟩ := k q4
  exact ⟨q, q1, q2, by rw [(hh q (by omega)).1]; exact q3⟩
theorem yO_se {sK sI sE sK' sI' sE' kd fi se : Nat → Int32} {b : Int} {s : Nat} (h : yO sK sI sE kd fi se b s) (e1 : sK' (5 + s) = sK (5 + s)) (e2 : sI' (5 + s) = sI (5 + s)) (e3 : sE' (5 + s) = sE (5 + s)) : yO sK' sI' sE' kd fi se b s := by
  unfold yO at h ⊢; rw [e1, e2, e3]; exact h
def yC (sK sI sE : Nat → Int32) (n : Int) : Prop := ∀ s : Nat, (s : Int) < n → sK s = sK (5 + s) ∧ (sI s).toInt = (sI (5 + s)).toInt - 160 ∧ (sE s).toInt = (sE (5 + s)).toInt - 160
def yCk (kd fi se : Nat → Int32) (n : Int) : Prop := ∀ k : Nat, (k : Int) < n → kd k = kd (160 + k) ∧ fi k = fi (160 + k) ∧ se k = se (160 + k)
def yOs (sK sI sE kd fi se : Nat → Int32) (b n : Int) : Prop := ∀ s : Nat, (s : Int) < n → yO sK sI sE kd fi se b s
theorem y5 {x : Int32} (h0 : 0 ≤ x.toInt) (h4 : x.toInt ≤ 100) : (5 + x).toNatClampNeg = 5 + x.toNatClampNeg ∧ (160 + x).toNatClampNeg = 160 + x.toNatClampNeg ∧ (x.toNatClampNeg : Int) = x.toInt := by
  refine ⟨?_, ?_, by rw [← ztn]; omega⟩
  · rw [← ztn, ← ztn, zadd1 (by simp only [Int32.reduceToInt]; omega) (by simp only [Int32.reduceToInt]; omega)]; simp only [Int32.reduceToInt]; omega
  · rw [← ztn, ← ztn, zadd1 (by simp only [Int32.reduceToInt]; omega) (by simp only [Int32.reduceToInt]; omega)]; simp only [Int32.reduceToInt]; omega
theorem yOs_c {sK sI sE kd fi se : Nat → Int32} {b n : Int} {x u v w : Int32} (h : yOs sK sI sE kd fi se b n) (h0 : 0 ≤ x.toInt) (h4 : x.toInt < 5) : yOs (upd sK x.toNatClampNeg u) (upd sI x.toNatClampNeg v) (upd sE x.toNatClampNeg w) kd fi se b n := fun s hs => by
  have hx := (y5 h0 (by omega)).2.2
  refine yO_se (h s hs) ?_ ?_ ?_ <;> exact pk_un (by omega)
theorem yC_step {sK sI sE kd fi se : Nat → Int32} {b n r : Int} {x : Int32} (hO : yOs sK sI sE kd fi se b n) (h : yC sK sI sE x.toInt) (h0 : 0 ≤ x.toInt) (h4 : x.toInt < 5) (hn : x.toInt < n) (hb : b ≤ 400) (hr : r = x.toInt + 1) : yC (upd sK x.toNatClampNeg (sK (5 + x).toNatClampNeg)) (upd sI x.toNatClampNeg (sI (5 + x).toNatClampNeg - 160)) (upd sE x.toNatClampNeg (sE (5 + x).toNatClampNeg - 160)) r := fun s hs => by
  obtain ⟨e5, _, hx⟩ := y5 h0 (show x.toInt ≤ 100 by omega)
  rw [e5, pk_un (show 5 + s ≠ x.toNatClampNeg by omega), pk_un (show 5 + s ≠ x.toNatClampNeg by omega), pk_un (show 5 + s ≠ x.toNatClampNeg by omega)]
  by_cases c : s = x.toNatClampNeg
  · subst c
    rw [pk_us, pk_us, pk_us]
    obtain ⟨⟨a1, a2, a3⟩, _, _⟩ := hO x.toNatClampNeg (by omega)
    exact ⟨rfl, zsub1 (by simp only [Int32.reduceToInt]; omega) (by simp only [Int32.reduceToInt]; omega), zsub1 (by simp only [Int32.reduceToInt]; omega) (by simp only [Int32.reduceToInt]; omega)⟩
  · rw [pk_un c, pk_un c, pk_un c]; exact h s (by omega)
theorem yOs_k {sK sI sE kd fi se : Nat → Int32} {b n : Int} {x u v w : Int32} (h : yOs sK sI sE kd fi se b n) (h0 : 0 ≤ x.toInt) (h4 : x.toInt < 100) : yOs sK sI sE (upd kd x.toNatClampNeg u) (upd fi x.toNatClampNeg v) (upd se x.toNatClampNeg w) b n := fun s hs => by
  have hx := (y5 h0 (show x.toInt ≤ 100 by omega)).2.2
  refine yO_hi (h s hs) (fun m hm => ⟨?_, ?_, ?_⟩) <;> exact pk_un (by omega)
theorem yCk_step {kd fi se : Nat → Int32} {r : Int} {x : Int32} (h : yCk kd fi se x.toInt) (h0 : 0 ≤ x.toInt) (h4 : x.toInt < 100) (hr : r = x.toInt + 1) : yCk (upd kd x.toNatClampNeg (kd (160 + x).toNatClampNeg)) (upd fi x.toNatClampNeg (fi (160 + x).toNatClampNeg)) (upd se x.toNatClampNeg (se (160 + x).toNatClampNeg)) r := fun s hs => by
  obtain ⟨_, e5, hx⟩ := y5 h0 (show x.toInt ≤ 100 by omega)
  rw [e5, pk_un (show 160 + s ≠ x.toNatClampNeg by omega), pk_un (show 160 + s ≠ x.toNatClampNeg by omega), pk_un (show 160 + s ≠ x.toNatClampNeg by omega)]
  by_cases c : s = x.toNatClampNeg
  · subst c; rw [pk_us, pk_us, pk_us]; exact ⟨rfl, rfl, rfl⟩
  · rw [pk_un c, pk_un c, pk_un c]; exact h s (by omega)
theorem yOs_nil {sK sI sE kd fi se : Nat → Int32} {b n : Int} (h : n ≤ 0) : yOs sK sI sE kd fi se b n := fun s hs => by omega
theorem yC_nil {sK sI sE : Nat → Int32} {n : Int} (h : n ≤ 0) : yC sK sI sE n := fun s hs => by omega
theorem yCk_nil {kd fi se : Nat → Int32} {n : Int} (h : n ≤ 0) : yCk kd fi se n := fun s hs => by omega
theorem yOs_n {sK sI sE kd fi se : Nat → Int32} {b n b' n' : Int} (h : yOs sK sI sE kd fi se b n) (hb : b' = b) (hn : n' = n) : yOs sK sI sE kd fi se b' n' := by subst hb; subst hn; exact h
theorem yC_n {sK sI sE : Nat → Int32} {n n' : Int} (h : yC sK sI sE n) (hn : n' = n) : yC sK sI sE n' := by subst hn; exact h
theorem yOs_st {sK sI sE kd fi se sK' sI' sE' kd' fi' se' : Nat → Int32} {x u v : Int32} {b b' b2 n n' : Int} (hall : yOs sK sI sE kd fi se b n) (hR : yR kd fi se sK kd' fi' se' sK' (5 + x).toNatClampNeg b b' 1) (eI : sI' = upd sI (5 + x).toNatClampNeg u) (eE : sE' = upd sE (5 + x).toNatClampNeg v) (hn : n = x.toInt) (hu : u.toInt = b) (hv : v.toInt = b') (h0 : 0 ≤ x.toInt) (h3 : x.toInt ≤ 3) (hb : 160 ≤ b) (hbb : b ≤ b') (hn' : n' = x.toInt + 1) (hb2 : b2 = b') : yOs sK' sI' sE' kd' fi' se' b2 n' := by
  subst hn; subst hn'; subst hb2
  exact yO_step (i0 := 0) (i1 := 0) hall hR eI hu eE hv h0 h3 hb hbb
theorem yOr {sK sI sE kd fi se : Nat → Int32} {w w' b n b' n' : Int} (h : 0 ≤ w ∨ yOs sK sI sE kd fi se b n) (hw : w' = w) (hb : b' = b) (hn : n' = n) : 0 ≤ w' ∨ yOs sK sI sE kd fi se b' n' := by subst hw; subst hb; subst hn; exact h

/-! the bytes of a word, the highest first: how many are not 0, and whether one is bad -/
def ybM (w k : Int32) : Int := ((w >>> (k &&& 31)) &&& (255 : Int32)).toInt
theorem ybM_bd (w k : Int32) : 0 ≤ ybM w k ∧ ybM w k ≤ 255 := zand255 _
def ycB (B : Int32 → Int) : Nat → Int
  | 0 => 0
  | i + 1 => ycB B i + (if B (nI (24 - 8 * i)) = 0 then 0 else 1)
def ybB (B : Int32 → Int) : Nat → Int
  | 0 => 0
  | i + 1 => if ¬ B (nI (24 - 8 * i)) = 0 ∧ (B (nI (24 - 8 * i)) < 32 ∨ 126 < B (nI (24 - 8 * i))) then 1 else ybB B i
theorem ycB_le (B : Int32 → Int) : ∀ i : Nat, i < 4 → ycB B (i + 1) ≤ ycB B 4
  | 0, _ => by simp only [ycB]; split <;> split <;> split <;> split <;> omega
  | 1, _ => by simp only [ycB]; split <;> split <;> split <;> split <;> omega
  | 2, _ => by simp only [ycB]; split <;> split <;> split <;> split <;> omega
  | 3, _ => Int.le_refl _
  | n + 4, h => by omega
theorem ycB_bd (B : Int32 → Int) : ∀ i : Nat, 0 ≤ ycB B i ∧ ycB B i ≤ i
  | 0 => ⟨Int.le_refl _, Int.le_refl _⟩
  | i + 1 => by
    have := ycB_bd B i
    simp only [ycB]
    split <;> omega
theorem ybB_01 (B : Int32 → Int) : ∀ i : Nat, ybB B i = 0 ∨ ybB B i = 1
  | 0 => Or.inl rfl
  | i + 1 => by
    have := ybB_01 B i
    simp only [ybB]
    split <;> omega
theorem ybB_up (B : Int32 → Int) (i : Nat) : ybB B i = 1 → ybB B (i + 1) = 1 := fun h => by simp only [ybB]; split <;> omega
theorem ybX {x : Int32} {i : Nat} (h : x.toInt = 24 - 8 * (i : Int)) (hi : i ≤ 3) : x = nI (24 - 8 * i) := by
  rw [zle_eq, znI (by omega)]; omega
theorem ybM_s {w x : Int32} {i : Nat} (h : x.toInt = 24 - 8 * (i : Int)) (hi : i ≤ 3) : ycB (ybM w) (i + 1) = ycB (ybM w) i + (if ((w >>> (x &&& 31)) &&& (255 : Int32)).toInt = 0 then 0 else 1) ∧ ybB (ybM w) (i + 1) = (if ¬ ((w >>> (x &&& 31)) &&& (255 : Int32)).toInt = 0 ∧ (((w >>> (x &&& 31)) &&& (255 : Int32)).toInt < 32 ∨ 126 < ((w >>> (x &&& 31)) &&& (255 : Int32)).toInt) then 1 else ybB (ybM w) i) := by
  rw [ybX h hi]; exact ⟨rfl, rfl⟩

theorem yR_H2 {kd0 fi0 se0 sK0 kd fi se sK kd' fi' se' sK' : Nat → Int32} {i : Nat} {x : Int32} {a b b' pt pt' n n0 : Int} (h : yR kd0 fi0 se0 sK0 kd fi se sK i a b pt) (hH : yH kd fi se kd' fi' se' a b b' pt pt') (h2 : b ≤ b') (h1 : a ≤ b) (hx : x.toInt = b) (h0 : 0 ≤ b) (hn : b' = b + (n - n0)) (hs : sK' = sK ∨ sK' = upd sK i 3 ∨ sK' = upd sK i 4 ∧ n = n0 + 1 ∧ (kd' x.toNatClampNeg).toInt = 10) : yR kd0 fi0 se0 sK0 kd' fi' se' sK' i a b' pt' := by
  refine yR_H h hH h2 h1 hx h0 ?_
  rcases hs with c | c | ⟨c, d, e⟩
  · exact Or.inl c
  · exact Or.inr (Or.inl c)
  · exact Or.inr (Or.inr ⟨c, by omega, e⟩)
theorem yR_id {kd0 fi0 se0 sK0 kd fi se sK : Nat → Int32} {i : Nat} {a b pt : Int} (h : yR kd0 fi0 se0 sK0 kd fi se sK i a b pt) : yR kd0 fi0 se0 sK0 kd fi se sK i a b pt := h
