/-! arithmetic of ints by their values -/
theorem zin_iff {x : Int32} {n : Nat} : vp_in x n ↔ 0 ≤ x.toInt ∧ x.toInt < (n : Int) := by
  unfold vp_in
  rw [Int32.lt_iff_toInt_lt, show (0 : Int32).toInt = 0 from rfl, show x.toNatClampNeg = x.toInt.toNat from rfl]
  omega
theorem zle_lt {x y : Int32} : x < y ↔ x.toInt < y.toInt := Int32.lt_iff_toInt_lt
theorem zle_le {x y : Int32} : x ≤ y ↔ x.toInt ≤ y.toInt := Int32.le_iff_toInt_le
theorem zle_eq {x y : Int32} : x = y ↔ x.toInt = y.toInt := Int32.toInt_inj.symm
theorem znI {n : Nat} (h : n < 2 ^ 31) : (nI n).toInt = n := Int32.toInt_ofNat_of_lt h
theorem zadd (x y : Int32) : (x + y).toInt = if x.toInt + y.toInt < -2147483648 then x.toInt + y.toInt + 4294967296 else if 2147483648 ≤ x.toInt + y.toInt then x.toInt + y.toInt - 4294967296 else x.toInt + y.toInt := by
  have h1 := Int32.toInt_lt x; have h2 := Int32.le_toInt x; have h3 := Int32.toInt_lt y; have h4 := Int32.le_toInt y
  rw [Int32.toInt_add, Int.bmod_def]
  split <;> split <;> (try split) <;> omega
theorem zsub (x y : Int32) : (x - y).toInt = if x.toInt - y.toInt < -2147483648 then x.toInt - y.toInt + 4294967296 else if 2147483648 ≤ x.toInt - y.toInt then x.toInt - y.toInt - 4294967296 else x.toInt - y.toInt := by
  have h1 := Int32.toInt_lt x; have h2 := Int32.le_toInt x; have h3 := Int32.toInt_lt y; have h4 := Int32.le_toInt y
  rw [Int32.toInt_sub, Int.bmod_def]
  split <;> split <;> (try split) <;> omega
theorem zadd1 {x y : Int32} (h1 : -2147483648 ≤ x.toInt + y.toInt) (h2 : x.toInt + y.toInt < 2147483648) : (x + y).toInt = x.toInt + y.toInt := by
  rw [zadd, if_neg (by omega), if_neg (by omega)]
theorem zsub1 {x y : Int32} (h1 : -2147483648 ≤ x.toInt - y.toInt) (h2 : x.toInt - y.toInt < 2147483648) : (x - y).toInt = x.toInt - y.toInt := by
  rw [zsub, if_neg (by omega), if_neg (by omega)]
theorem zlo (x : Int32) : -2147483648 ≤ x.toInt := Int32.le_toInt x
theorem zhi (x : Int32) : x.toInt < 2147483648 := Int32.toInt_lt x
theorem zcl (x : Int32) : x.toNatClampNeg = x.toInt.toNat := rfl
theorem zu_s {f : Nat → Int32} {k : Nat} {x : Int32} : zu f k x k = x := by simp [zu]
theorem zu_n {f : Nat → Int32} {k j : Nat} {x : Int32} (h : j ≠ k) : zu f k x j = f j := by
  have : Nat.beq j k = false := by cases hb : Nat.beq j k with | false => rfl | true => exact absurd (Nat.eq_of_beq_eq_true hb) h
  simp [zu, this]
theorem zneg (x : Int32) : (-x).toInt = if x.toInt = -2147483648 then -2147483648 else -x.toInt := by
  have h1 := Int32.toInt_lt x; have h2 := Int32.le_toInt x
  rw [Int32.toInt_neg, Int.bmod_def]
  split <;> split <;> omega
theorem zm1 : (-1 : Int32).toInt = -1 := rfl
theorem zm8 : (-8 : Int32).toInt = -8 := rfl
theorem zb_iff {x : Int32} : zb x ↔ x.toInt = 0 ∨ x.toInt = 1 := by
  unfold zb; rw [zle_eq, zle_eq]; exact Iff.rfl
theorem zc_iff {x : Int32} : zc x ↔ 0 ≤ x.toInt ∧ x.toInt < 65536 := by
  constructor
  · rintro ⟨q, hq, rfl⟩
    rw [znI (by omega)]; omega
  · intro h
    refine ⟨x.toInt.toNat, by omega, ?_⟩
    rw [zle_eq, znI (by omega)]; omega

def zfr (L : List Nat) (I K : Nat → Int32) : Prop := ∀ k, k ∉ L → K k = I k
theorem zfr_refl {L : List Nat} {I : Nat → Int32} : zfr L I I := fun _ _ => rfl
theorem zfr_zu {L : List Nat} {I K : Nat → Int32} {k : Nat} {x : Int32} (hk : k ∈ L) (h : zfr L I K) : zfr L I (zu K k x) := fun j hj => by
  rw [zu_n (fun e : j = k => hj (e ▸ hk))]; exact h j hj
theorem zcn0 {I K : Nat → Int32} (h : zfr [] I K) : K = I := funext fun j => h j (by simp)
theorem zcn1 {I K : Nat → Int32} {k0 : Nat} (h : zfr [k0] I K) : ∃ ak0, K = (zu I k0 ak0) := by
  refine ⟨K k0, funext fun j => ?_⟩
  by_cases hk0 : j = k0
  · rw [hk0, zu_s]
  rw [zu_n hk0]
  exact h j (by simp [hk0])
theorem zcn2 {I K : Nat → Int32} {k0 k1 : Nat} (h : zfr [k0, k1] I K) : ∃ ak0 ak1, K = (zu (zu I k0 ak0) k1 ak1) := by
  refine ⟨K k0, K k1, funext fun j => ?_⟩
  by_cases hk1 : j = k1
  · rw [hk1, zu_s]
  rw [zu_n hk1]
  by_cases hk0 : j = k0
  · rw [hk0, zu_s]
  rw [zu_n hk0]
  exact h j (by simp [hk0, hk1])
theorem zcn3 {I K : Nat → Int32} {k0 k1 k2 : Nat} (h : zfr [k0, k1, k2] I K) : ∃ ak0 ak1 ak2, K = (zu (zu (zu I k0 ak0) k1 ak1) k2 ak2) := by
  refine ⟨K k0, K k1, K k2, funext fun j => ?_⟩
  by_cases hk2 : j = k2
  · rw [hk2, zu_s]
  rw [zu_n hk2]
  by_cases hk1 : j = k1
  · rw [hk1, zu_s]
  rw [zu_n hk1]
  by_cases hk0 : j = k0
  · rw [hk0, zu_s]
  rw [zu_n hk0]
  exact h j (by simp [hk0, hk1, hk2])
theorem zcn4 {I K : Nat → Int32} {k0 k1 k2 k3 : Nat} (h : zfr [k0, k1, k2, k3] I K) : ∃ ak0 ak1 ak2 ak3, K = (zu (zu (zu (zu I k0 ak0) k1 ak1) k2 ak2) k3 ak3) := by
  refine ⟨K k0, K k1, K k2, K k3, funext fun j => ?_⟩
  by_cases hk3 : j = k3
  · rw [hk3, zu_s]
  rw [zu_n hk3]
  by_cases hk2 : j = k2
  · rw [hk2, zu_s]
  rw [zu_n hk2]
  by_cases hk1 : j = k1
  · rw [hk1, zu_s]
  rw [zu_n hk1]
  by_cases hk0 : j = k0
  · rw [hk0, zu_s]
  rw [zu_n hk0]
  exact h j (by simp [hk0, hk1, hk2, hk3])
theorem zcn5 {I K : Nat → Int32} {k0 k1 k2 k3 k4 : Nat} (h : zfr [k0, k1, k2, k3, k4] I K) : ∃ ak0 ak1 ak2 ak3 ak4, K = (zu (zu (zu (zu (zu I k0 ak0) k1 ak1) k2 ak2) k3 ak3) k4 ak4) := by
  refine ⟨K k0, K k1, K k2, K k3, K k4, funext fun j => ?_⟩
  by_cases hk4 : j = k4
  · rw [hk4, zu_s]
  rw [zu_n hk4]
  by_cases hk3 : j = k3
  · rw [hk3, zu_s]
  rw [zu_n hk3]
  by_cases hk2 : j = k2
  · rw [hk2, zu_s]
  rw [zu_n hk2]
  by_cases hk1 : j = k1
  · rw [hk1, zu_s]
  rw [zu_n hk1]
  by_cases hk0 : j = k0
  · rw [hk0, zu_s]
  rw [zu_n hk0]
  exact h j (by simp [hk0, hk1, hk2, hk3, hk4])
theorem zcn6 {I K : Nat → Int32} {k0 k1 k2 k3 k4 k5 : Nat} (h : zfr [k0, k1, k2, k3, k4, k5] I K) : ∃ ak0 ak1 ak2 ak3 ak4 ak5, K = (zu (zu (zu (zu (zu (zu I k0 ak0) k1 ak1) k2 ak2) k3 ak3) k4 ak4) k5 ak5) := by
  refine ⟨K k0, K k1, K k2, K k3, K k4, K k5, funext fun j => ?_⟩
  by_cases hk5 : j = k5
  · rw [hk5, zu_s]
  rw [zu_n hk5]
  by_cases hk4 : j = k4
  · rw [hk4, zu_s]
  rw [zu_n hk4]
  by_cases hk3 : j = k3
  · rw [hk3, zu_s]
  rw [zu_n hk3]
  by_cases hk2 : j = k2
  · rw [hk2, zu_s]
  rw [zu_n hk2]
  by_cases hk1 : j = k1
  · rw [hk1, zu_s]
  rw [zu_n hk1]
  by_cases hk0 : j = k0
  · rw [hk0, zu_s]
  rw [zu_n hk0]
  exact h j (by simp [hk0, hk1, hk2, hk3, hk4, hk5])
theorem zcn7 {I K : Nat → Int32} {k0 k1 k2 k3 k4 k5 k6 : Nat} (h : zfr [k0, k1, k2, k3, k4, k5, k6] I K) : ∃ ak0 ak1 ak2 ak3 ak4 ak5 ak6, K = (zu (zu (zu (zu (zu (zu (zu I k0 ak0) k1 ak1) k2 ak2) k3 ak3) k4 ak4) k5 ak5) k6 ak6) := by
  refine ⟨K k0, K k1, K k2, K k3, K k4, K k5, K k6, funext fun j => ?_⟩
  by_cases hk6 : j = k6
  · rw [hk6, zu_s]
  rw [zu_n hk6]
  by_cases hk5 : j = k5
  · rw [hk5, zu_s]
  rw [zu_n hk5]
  by_cases hk4 : j = k4
  · rw [hk4, zu_s]
  rw [zu_n hk4]
  by_cases hk3 : j = k3
  · rw [hk3, zu_s]
  rw [zu_n hk3]
  by_cases hk2 : j = k2
  · rw [hk2, zu_s]
  rw [zu_n hk2]
  by_cases hk1 : j = k1
  · rw [hk1, zu_s]
  rw [zu_n hk1]
  by_cases hk0 : j = k0
  · rw [hk0, zu_s]
  rw [zu_n hk0]
  exact h j (by simp [hk0, hk1, hk2, hk3, hk4, hk5, hk6])
theorem zcn8 {I K : Nat → Int32} {k0 k1 k2 k3 k4 k5 k6 k7 : Nat} (h : zfr [k0, k1, k2, k3, k4, k5, k6, k7] I K) : ∃ ak0 ak1 ak2 ak3 ak4 ak5 ak6 ak7, K = (zu (zu (zu (zu (zu (zu (zu (zu I k0 ak0) k1 ak1) k2 ak2) k3 ak3) k4 ak4) k5 ak5) k6 ak6) k7 ak7) := by
  refine ⟨K k0, K k1, K k2, K k3, K k4, K k5, K k6, K k7, funext fun j => ?_⟩
  by_cases hk7 : j = k7
  · rw [hk7, zu_s]
  rw [zu_n hk7]
  by_cases hk6 : j = k6
  · rw [hk6, zu_s]
  rw [zu_n hk6]
  by_cases hk5 : j = k5
  · rw [hk5, zu_s]
  rw [zu_n hk5]
  by_cases hk4 : j = k4
  · rw [hk4, zu_s]
  rw [zu_n hk4]
  by_cases hk3 : j = k3
  · rw [hk3, zu_s]
  rw [zu_n hk3]
  by_cases hk2 : j = k2
  · rw [hk2, zu_s]
  rw [zu_n hk2]
  by_cases hk1 : j = k1
  · rw [hk1, zu_s]
  rw [zu_n hk1]
  by_cases hk0 : j = k0
  · rw [hk0, zu_s]
  rw [zu_n hk0]
  exact h j (by simp [hk0, hk1, hk2, hk3, hk4, hk5, hk6, hk7])
theorem zcn9 {I K : Nat → Int32} {k0 k1 k2 k3 k4 k5 k6 k7 k8 : Nat} (h : zfr [k0, k1, k2, k3, k4, k5, k6, k7, k8] I K) : ∃ ak0 ak1 ak2 ak3 ak4 ak5 ak6 ak7 ak8, K = (zu (zu (zu (zu (zu (zu (zu (zu (zu I k0 ak0) k1 ak1) k2 ak2) k3 ak3) k4 ak4) k5 ak5) k6 ak6) k7 ak7) k8 ak8) := by
  refine ⟨K k0, K k1, K k2, K k3, K k4, K k5, K k6, K k7, K k8, funext fun j => ?_⟩
  by_cases hk8 : j = k8
  · rw [hk8, zu_s]
  rw [zu_n hk8]
  by_cases hk7 : j = k7
  · rw [hk7, zu_s]
  rw [zu_n hk7]
  by_cases hk6 : j = k6
  · rw [hk6, zu_s]
  rw [zu_n hk6]
  by_cases hk5 : j = k5
  · rw [hk5, zu_s]
  rw [zu_n hk5]
  by_cases hk4 : j = k4
  · rw [hk4, zu_s]
  rw [zu_n hk4]
  by_cases hk3 : j = k3
  · rw [hk3, zu_s]
  rw [zu_n hk3]
  by_cases hk2 : j = k2
  · rw [hk2, zu_s]
  rw [zu_n hk2]
  by_cases hk1 : j = k1
  · rw [hk1, zu_s]
  rw [zu_n hk1]
  by_cases hk0 : j = k0
  · rw [hk0, zu_s]
  rw [zu_n hk0]
  exact h j (by simp [hk0, hk1, hk2, hk3, hk4, hk5, hk6, hk7, hk8])
theorem zcn10 {I K : Nat → Int32} {k0 k1 k2 k3 k4 k5 k6 k7 k8 k9 : Nat} (h : zfr [k0, k1, k2, k3, k4, k5, k6, k7, k8, k9] I K) : ∃ ak0 ak1 ak2 ak3 ak4 ak5 ak6 ak7 ak8 ak9, K = (zu (zu (zu (zu (zu (zu (zu (zu (zu (zu I k0 ak0) k1 ak1) k2 ak2) k3 ak3) k4 ak4) k5 ak5) k6 ak6) k7 ak7) k8 ak8) k9 ak9) := by
  refine ⟨K k0, K k1, K k2, K k3, K k4, K k5, K k6, K k7, K k8, K k9, funext fun j => ?_⟩
  by_cases hk9 : j = k9
  · rw [hk9, zu_s]
  rw [zu_n hk9]
  by_cases hk8 : j = k8
  · rw [hk8, zu_s]
  rw [zu_n hk8]
  by_cases hk7 : j = k7
  · rw [hk7, zu_s]
  rw [zu_n hk7]
  by_cases hk6 : j = k6
  · rw [hk6, zu_s]
  rw [zu_n hk6]
  by_cases hk5 : j = k5
  · rw [hk5, zu_s]
  rw [zu_n hk5]
  by_cases hk4 : j = k4
  · rw [hk4, zu_s]
  rw [zu_n hk4]
  by_cases hk3 : j = k3
  · rw [hk3, zu_s]
  rw [zu_n hk3]
  by_cases hk2 : j = k2
  · rw [hk2, zu_s]
  rw [zu_n hk2]
  by_cases hk1 : j = k1
  · rw [hk1, zu_s]
  rw [zu_n hk1]
  by_cases hk0 : j = k0
  · rw [hk0, zu_s]
  rw [zu_n hk0]
  exact h j (by simp [hk0, hk1, hk2, hk3, hk4, hk5, hk6, hk7, hk8, hk9])
theorem zcn11 {I K : Nat → Int32} {k0 k1 k2 k3 k4 k5 k6 k7 k8 k9 k10 : Nat} (h : zfr [k0, k1, k2, k3, k4, k5, k6, k7, k8, k9, k10] I K) : ∃ ak0 ak1 ak2 ak3 ak4 ak5 ak6 ak7 ak8 ak9 ak10, K = (zu (zu (zu (zu (zu (zu (zu (zu (zu (zu (zu I k0 ak0) k1 ak1) k2 ak2) k3 ak3) k4 ak4) k5 ak5) k6 ak6) k7 ak7) k8 ak8) k9 ak9) k10 ak10) := by
  refine ⟨K k0, K k1, K k2, K k3, K k4, K k5, K k6, K k7, K k8, K k9, K k10, funext fun j => ?_⟩
  by_cases hk10 : j = k10
  · rw [hk10, zu_s]
  rw [zu_n hk10]
  by_cases hk9 : j = k9
  · rw [hk9, zu_s]
  rw [zu_n hk9]
  by_cases hk8 : j = k8
  · rw [hk8, zu_s]
  rw [zu_n hk8]
  by_cases hk7 : j = k7
  · rw [hk7, zu_s]
  rw [zu_n hk7]
  by_cases hk6 : j = k6
  · rw [hk6, zu_s]
  rw [zu_n hk6]
  by_cases hk5 : j = k5
  · rw [hk5, zu_s]
  rw [zu_n hk5]
  by_cases hk4 : j = k4
  · rw [hk4, zu_s]
  rw [zu_n hk4]
  by_cases hk3 : j = k3
  · rw [hk3, zu_s]
  rw [zu_n hk3]
  by_cases hk2 : j = k2
  · rw [hk2, zu_s]
  rw [zu_n hk2]
  by_cases hk1 : j = k1
  · rw [hk1, zu_s]
  rw [zu_n hk1]
  by_cases hk0 : j = k0
  · rw [hk0, zu_s]
  rw [zu_n hk0]
  exact h j (by simp [hk0, hk1, hk2, hk3, hk4, hk5, hk6, hk7, hk8, hk9, hk10])
theorem zcn12 {I K : Nat → Int32} {k0 k1 k2 k3 k4 k5 k6 k7 k8 k9 k10 k11 : Nat} (h : zfr [k0, k1, k2, k3, k4, k5, k6, k7, k8, k9, k10, k11] I K) : ∃ ak0 ak1 ak2 ak3 ak4 ak5 ak6 ak7 ak8 ak9 ak10 ak11, K = (zu (zu (zu (zu (zu (zu (zu (zu (zu (zu (zu (zu I k0 ak0) k1 ak1) k2 ak2) k3 ak3) k4 ak4) k5 ak5) k6 ak6) k7 ak7) k8 ak8) k9 ak9) k10 ak10) k11 ak11) := by
  refine ⟨K k0, K k1, K k2, K k3, K k4, K k5, K k6, K k7, K k8, K k9, K k10, K k11, funext fun j => ?_⟩
  by_cases hk11 : j = k11
  · rw [hk11, zu_s]
  rw [zu_n hk11]
  by_cases hk10 : j = k10
  · rw [hk10, zu_s]
  rw [zu_n hk10]
  by_cases hk9 : j = k9
  · rw [hk9, zu_s]
  rw [zu_n hk9]
  by_cases hk8 : j = k8
  · rw [hk8, zu_s]
  rw [zu_n hk8]
  by_cases hk7 : j = k7
  · rw [hk7, zu_s]
  rw [zu_n hk7]
  by_cases hk6 : j = k6
  · rw [hk6, zu_s]
  rw [zu_n hk6]
  by_cases hk5 : j = k5
  · rw [hk5, zu_s]
  rw [zu_n hk5]
  by_cases hk4 : j = k4
  · rw [hk4, zu_s]
  rw [zu_n hk4]
  by_cases hk3 : j = k3
  · rw [hk3, zu_s]
  rw [zu_n hk3]
  by_cases hk2 : j = k2
  · rw [hk2, zu_s]
  rw [zu_n hk2]
  by_cases hk1 : j = k1
  · rw [hk1, zu_s]
  rw [zu_n hk1]
  by_cases hk0 : j = k0
  · rw [hk0, zu_s]
  rw [zu_n hk0]
  exact h j (by simp [hk0, hk1, hk2, hk3, hk4, hk5, hk6, hk7, hk8, hk9, hk10, hk11])
