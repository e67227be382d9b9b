/-! parts of a day -/
theorem pd_eq {X : Int} : (X / 100000000 + 5000000) / 10000000 = rnd X 14 := by
  have e14 : (10 : Int) ^ 14 = 100000000 * 1000000 := by decide
  have e15 : (10 : Int) ^ (14 + 1) = 100000000 * 10000000 := by decide
  unfold rnd
  rw [e14, e15, ← Int.ediv_ediv_of_nonneg (by decide), ← Int.ediv_ediv_of_nonneg (by decide)]
  generalize X / 100000000 = Y
  split <;> omega
theorem pd_sp {r p : Int} : (r / 100000000 * p + r % 100000000 * p / 100000000) = r * p / 100000000 := by
  have e : r * p = r % 100000000 * p + 100000000 * (r / 100000000 * p) := by
    have a : r = r % 100000000 + 100000000 * (r / 100000000) := by omega
    calc r * p = (r % 100000000 + 100000000 * (r / 100000000)) * p := by rw [← a]
      _ = _ := by rw [Int.add_mul, Int.mul_assoc]
  rw [e, Int.add_mul_ediv_left _ _ (by decide), Int.add_comm]
theorem pd_1 {X : Int64} {Y : Int} (hX : X.toInt = Y) (h0 : 0 ≤ Y) : (X / 10000000).toInt = Y / 10000000 := by rw [zl_divp (by omega) (by decide), hX]; rfl
theorem pd_2 {X : Int64} {Y : Int} (hX : X.toInt = Y) (h0 : 0 ≤ Y) : (X / 100000000).toInt = Y / 100000000 := by rw [zl_divp (by omega) (by decide), hX]; rfl
theorem pd_3 {X : Int64} {Y : Int} (hX : X.toInt = Y) (h0 : 0 ≤ Y) (h1 : Y ≤ 1000000000000000000) : (X + 5000000).toInt = Y + 5000000 := by
  have e : (5000000 : Int64).toInt = 5000000 := by simp only [Int64.reduceToInt]
  rw [zl_add1 (by rw [e]; omega) (by rw [e]; omega), e, hX]
theorem pd_4 {C E : Int64} {a b : Int} (hC : C.toInt = a) (hE : E.toInt = b) (h0 : 0 ≤ a) (h1 : a ≤ 1000000000000000000) (h2 : 0 ≤ b) (h3 : b ≤ 1000000000000000000) : (C + E).toInt = a + b := by
  rw [zl_add1 (by omega) (by omega), hC, hE]
theorem pd_m {A p : Int64} {a : Int} (hA : A.toInt = a) (h0 : 0 ≤ a) (h1 : a ≤ 100000000) (h2 : 0 ≤ p.toInt) (h3 : p.toInt ≤ 86400000) : (A * p).toInt = a * p.toInt ∧ 0 ≤ a * p.toInt ∧ a * p.toInt ≤ 8640000000000000 := by
  have m1 : 0 ≤ a * p.toInt := Int.mul_nonneg h0 h2
  have m2 : a * p.toInt ≤ 100000000 * 86400000 := Int.le_trans (Int.mul_le_mul_of_nonneg_right h1 h2) (Int.mul_le_mul_of_nonneg_left h3 (by decide))
  subst hA
  exact ⟨zl_mul1 (by omega) (by omega), m1, by omega⟩
theorem pd_w {A B p : Int64} {R : Int} (hA : A.toInt = R / 100000000) (hB : B.toInt = R % 100000000) (h0 : 0 ≤ R) (h1 : R ≤ 1000000000000000) (h2 : 0 ≤ p.toInt) (h3 : p.toInt ≤ 86400000) : (((A * p + B * p / 100000000) + 5000000) / 10000000).toInt = rnd (R * p.toInt) 14 := by
  have c := pd_m hA (by omega) (by omega) h2 h3
  have d := pd_m hB (by omega) (by omega) h2 h3
  have e := pd_2 d.1 d.2.1
  have s := pd_sp (r := R) (p := p.toInt)
  generalize A * p = C at *
  generalize B * p = D at *
  generalize D / 100000000 = E at *
  generalize R / 100000000 * p.toInt = ca at *
  generalize R % 100000000 * p.toInt = da at *
  have f := pd_4 c.1 e c.2.1 (by omega) (by omega) (by omega)
  generalize C + E = G at *
  rw [s] at f
  have g := pd_3 f (by omega) (by omega)
  generalize G + 5000000 = H at *
  rw [pd_1 g (by omega)]
  exact pd_eq
theorem pd_v {r p : Int64} (h0 : 0 ≤ r.toInt) (h1 : r.toInt ≤ 1000000000000000) (h2 : 0 ≤ p.toInt) (h3 : p.toInt ≤ 86400000) : (((r / 100000000 * p + (r - r / 100000000 * 100000000) * p / 100000000) + 5000000) / 10000000).toInt = rnd (r.toInt * p.toInt) 14 :=
  pd_w (zl_divp h0 (by decide)) (zl_rem h0 (by decide) (by decide)) h0 h1 h2 h3
