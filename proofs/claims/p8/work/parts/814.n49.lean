/-! the calendar: days since the first of March 1600 -/
def ccN (A : Int) : Int := (A - A / 1460 + A / 36524 - A / 146096) / 365
def ccR (A : Int) : Int := A - (365 * ccN A + ccN A / 4 - ccN A / 100)
/-- four hundred years: c hundreds, q fours, z years, E days -/
theorem cc_dec {A : Int} (h0 : 0 ≤ A) (h1 : A < 146097) : ∃ c q z E : Int, A = 36524 * c + 1461 * q + 365 * z + E ∧ 0 ≤ c ∧ c ≤ 3 ∧ 0 ≤ q ∧ q ≤ 24 ∧ 0 ≤ z ∧ z ≤ 3 ∧ 0 ≤ E ∧ E ≤ 365 ∧ (E = 365 → z = 3 ∧ (q < 24 ∨ c = 3)) := by
  obtain ⟨c, B, e1, c0, c3, b0, b1, b2⟩ : ∃ c B : Int, A = 36524 * c + B ∧ 0 ≤ c ∧ c ≤ 3 ∧ 0 ≤ B ∧ B ≤ 36524 ∧ (B = 36524 → c = 3) := by
    rcases Int.lt_or_le A 109572 with k | k
    · exact ⟨A / 36524, A % 36524, by omega, by omega, by omega, by omega, by omega, by omega⟩
    · exact ⟨3, A - 109572, by omega, by omega, by omega, by omega, by omega, by omega⟩
  obtain ⟨z, E, e2, z0, z3, f0, f1, f2⟩ : ∃ z E : Int, B % 1461 = 365 * z + E ∧ 0 ≤ z ∧ z ≤ 3 ∧ 0 ≤ E ∧ E ≤ 365 ∧ (E = 365 → z = 3) := by
    rcases Int.lt_or_le (B % 1461) 1095 with k | k
    · exact ⟨B % 1461 / 365, B % 1461 % 365, by omega, by omega, by omega, by omega, by omega, by omega⟩
    · exact ⟨3, B % 1461 - 1095, by omega, by omega, by omega, by omega, by omega, by omega⟩
  refine ⟨c, B / 1461, z, E, by omega, c0, c3, by omega, by omega, z0, z3, f0, f1, fun hE => ⟨f2 hE, ?_⟩⟩
  have := f2 hE
  omega
theorem cc_n {c q z E : Int} (c0 : 0 ≤ c) (c3 : c ≤ 3) (q0 : 0 ≤ q) (q24 : q ≤ 24) (z0 : 0 ≤ z) (z3 : z ≤ 3) (E0 : 0 ≤ E) (E1 : E ≤ 365) (hE : E = 365 → z = 3 ∧ (q < 24 ∨ c = 3)) : ccN (36524 * c + 1461 * q + 365 * z + E) = 100 * c + 4 * q + z := by
  have a1 : (36524 * c + 1461 * q + 365 * z + E) / 1460 = 25 * c + q + (24 * c + q + 365 * z + E) / 1460 := by omega
  have a4 : (36524 * c + 1461 * q + 365 * z + E) / 36524 - (36524 * c + 1461 * q + 365 * z + E) / 146096 = c := by
    rcases Int.lt_or_le (36524 * c + 1461 * q + 365 * z + E) 146096 with k | k
    · rw [Int.ediv_eq_zero_of_lt (b := 146096) (by omega) k]
      omega
    · omega
  have d : (24 * c + q + 365 * z + E) / 1460 = 0 ∨ (24 * c + q + 365 * z + E) / 1460 = 1 := by omega
  unfold ccN
  rw [a1]
  generalize hD : (24 * c + q + 365 * z + E) / 1460 = D at *
  generalize (36524 * c + 1461 * q + 365 * z + E) / 36524 = X at *
  generalize (36524 * c + 1461 * q + 365 * z + E) / 146096 = Y at *
  have e : 36524 * c + 1461 * q + 365 * z + E - (25 * c + q + D) + X - Y = 365 * (100 * c + 4 * q + z) + (E - D) := by omega
  rw [e]
  have b : 0 ≤ E - D ∧ E - D < 365 := by
    by_cases k : E = 365
    · have := hE k; omega
    · omega
  omega
theorem cc_r {c q z E : Int} (c0 : 0 ≤ c) (c3 : c ≤ 3) (q0 : 0 ≤ q) (q24 : q ≤ 24) (z0 : 0 ≤ z) (z3 : z ≤ 3) (E0 : 0 ≤ E) (E1 : E ≤ 365) (hE : E = 365 → z = 3 ∧ (q < 24 ∨ c = 3)) : ccR (36524 * c + 1461 * q + 365 * z + E) = E := by
  unfold ccR
  rw [cc_n c0 c3 q0 q24 z0 z3 E0 E1 hE]
  omega
def ccF (R : Int) : Int := (5 * R + 2) / 153
def ccD (R : Int) : Int := R - (153 * ccF R + 2) / 5 + 1
def ccM (R : Int) : Int := if ccF R < 10 then ccF R + 3 else ccF R - 9
def ccY (s : Int) : Int := 1600 + 400 * (s / 146097) + ccN (s % 146097) + (if ccM (ccR (s % 146097)) ≤ 2 then 1 else 0)
theorem cc_b {s : Int} (h0 : 0 ≤ s) : 0 ≤ ccN (s % 146097) ∧ ccN (s % 146097) ≤ 399 ∧ 0 ≤ ccR (s % 146097) ∧ ccR (s % 146097) ≤ 365 := by
  obtain ⟨c, q, z, E, e, c0, c3, q0, q24, z0, z3, E0, E1, hE⟩ := cc_dec (A := s % 146097) (by omega) (by omega)
  rw [e, cc_n c0 c3 q0 q24 z0 z3 E0 E1 hE, cc_r c0 c3 q0 q24 z0 z3 E0 E1 hE]
  omega
def cdY (n : Int) : Int := if n < 61 then 1900 else ccY (n - 61 + 109572)
def cdM (n : Int) : Int := if n < 61 then (if n ≤ 31 then 1 else 2) else ccM (ccR ((n - 61 + 109572) % 146097))
def cdD (n : Int) : Int := if n < 61 then (if n ≤ 31 then n else n - 31) else ccD (ccR ((n - 61 + 109572) % 146097))
/-! time of a day: parts P, rest r in units of 10 ^ -15 -/
def dtP (P : Int) : Int := 86400 * 10 ^ P.toNat
def dtT (r P : Int) : Int := rnd (r * dtP P) 14
def dtC (r P : Int) : Int := if dtP P ≤ dtT r P then 1 else 0
def dtI (r P : Int) : Int := if dtP P ≤ dtT r P then dtT r P - dtP P else dtT r P
theorem dtP_b {P : Int} (h : P ≤ 3) : 86400 ≤ dtP P ∧ dtP P ≤ 86400000 := by
  have l := p10_le (show P.toNat ≤ 3 by omega)
  have p := p10 P.toNat
  have e : (10 : Int) ^ 3 = 1000 := by decide
  unfold dtP; omega
theorem dtT_b {r P : Int} (h0 : 0 ≤ r) (h1 : r ≤ 1000000000000000) (h : P ≤ 3) : 0 ≤ dtT r P ∧ dtT r P ≤ dtP P := by
  have b := dtP_b h
  unfold dtT
  rw [← pd_eq]
  generalize dtP P = p at *
  have m0 : 0 ≤ r * p := Int.mul_nonneg h0 (by omega)
  have m1 : r * p ≤ 1000000000000000 * p := Int.mul_le_mul_of_nonneg_right h1 (by omega)
  omega
theorem dtI_b {r P : Int} (h0 : 0 ≤ r) (h1 : r ≤ 1000000000000000) (h : P ≤ 3) : 0 ≤ dtI r P ∧ dtI r P < dtP P := by
  have a := dtT_b h0 h1 h
  have b := dtP_b h
  unfold dtI
  split <;> omega
def dtO (J : Nat → Int64) (N r P : Int) : Prop := (J 1).toInt = N + dtC r P ∧ (J 2).toInt = dtI r P / 10 ^ P.toNat ∧ (J 3).toInt = dtI r P % 10 ^ P.toNat * 10 ^ (3 - P).toNat
section
variable {J0 : Nat → Int64} {x2 x4 x6 s1 r3 : Int64} {P r N : Int}
theorem tt_c {a b c : Int64} (h2 : b.toInt = 10 ^ P.toNat) (h3 : c.toInt = 10 ^ (3 - P).toNat) (hP0 : 0 ≤ P) (hP : P ≤ 3) (ha : 0 ≤ a.toInt) : (a / b).toInt = a.toInt / 10 ^ P.toNat ∧ ((a - a / b * b) * c).toInt = a.toInt % 10 ^ P.toNat * 10 ^ (3 - P).toNat := by
  have p := p10 P.toNat
  have q := p10 (3 - P).toNat
  have l := p10_le (show P.toNat ≤ 3 by omega)
  have l2 := p10_le (show (3 - P).toNat ≤ 3 by omega)
  have e : (10 : Int) ^ 3 = 1000 := by decide
  have e1 := zl_rem (a := a) (b := b) ha (by omega) (by omega)
  have b1 := Int.emod_nonneg a.toInt (show b.toInt ≠ 0 by omega)
  have b2 := Int.emod_lt_of_pos a.toInt (show 0 < b.toInt by omega)
  refine ⟨by rw [zl_divp ha (by omega), h2], ?_⟩
  have m0 : 0 ≤ a.toInt % b.toInt * c.toInt := Int.mul_nonneg b1 (by omega)
  have m1 : a.toInt % b.toInt * c.toInt ≤ 1000 * 1000 := Int.le_trans (Int.mul_le_mul_of_nonneg_right (show a.toInt % b.toInt ≤ 1000 by omega) (by omega)) (Int.mul_le_mul_of_nonneg_left (by omega) (by decide))
  rw [zl_mul1 (by rw [e1]; omega) (by rw [e1]; omega), e1, h2, h3]
theorem tt_A (h2 : x2.toInt = 10 ^ P.toNat) (h4 : x4.toInt = dtP P) (h6 : x6.toInt = dtT r P) (hs : s1.toInt = N) (h3 : r3.toInt = 10 ^ (3 - P).toNat) (hP0 : 0 ≤ P) (hP : P ≤ 3) (h0 : 0 ≤ r) (h1 : r ≤ 1000000000000000) (hc : x6.toInt < x4.toInt) : dtO (zul (zul (zul J0 1 s1) 2 (x6 / x2)) 3 ((x6 - x6 / x2 * x2) * r3)) N r P := by
  have b := dtT_b h0 h1 hP
  have q := tt_c (a := x6) h2 h3 hP0 hP (by omega)
  have e1 : dtC r P = 0 := by unfold dtC; rw [if_neg (by omega)]
  have e2 : dtI r P = dtT r P := by unfold dtI; rw [if_neg (by omega)]
  unfold dtO
  rw [e1, e2, ← h6]
  exact ⟨by show s1.toInt = _; omega, q.1, q.2⟩
theorem tt_B (h2 : x2.toInt = 10 ^ P.toNat) (h4 : x4.toInt = dtP P) (h6 : x6.toInt = dtT r P) (hs : s1.toInt = N) (h3 : r3.toInt = 10 ^ (3 - P).toNat) (hP0 : 0 ≤ P) (hP : P ≤ 3) (h0 : 0 ≤ r) (h1 : r ≤ 1000000000000000) (hN : 0 ≤ N) (hN2 : N ≤ 1000000000000000) (hc : ¬ x6.toInt < x4.toInt) : dtO (zul (zul (zul J0 1 (s1 + 1)) 2 ((x6 - x4) / x2)) 3 (((x6 - x4) - (x6 - x4) / x2 * x2) * r3)) N r P := by
  have b := dtT_b h0 h1 hP
  have b2 := dtP_b hP
  have e0 : (x6 - x4).toInt = dtT r P - dtP P := by rw [zl_sub1 (by omega) (by omega), h6, h4]
  have q := tt_c (a := x6 - x4) h2 h3 hP0 hP (by omega)
  have e1 : dtC r P = 1 := by unfold dtC; rw [if_pos (by omega)]
  have e2 : dtI r P = dtT r P - dtP P := by unfold dtI; rw [if_pos (by omega)]
  have e3 : (s1 + 1).toInt = s1.toInt + 1 := by rw [zl_add1] <;> simp only [Int64.reduceToInt] <;> omega
  unfold dtO
  rw [e1, e2, ← e0]
  exact ⟨by show (s1 + 1).toInt = _; omega, q.1, q.2⟩
end
theorem dt_86 {s : Int64} {P : Int} (h : s.toInt = 10 ^ P.toNat) (hP : P ≤ 3) : (86400 * s).toInt = dtP P ∧ 0 ≤ dtP P ∧ dtP P ≤ 86400000 := by
  have b := dtP_b hP
  have e : (86400 : Int64).toInt = 86400 := by simp only [Int64.reduceToInt]
  unfold dtP at b ⊢
  refine ⟨?_, by omega, by omega⟩
  rw [zl_mul1 (by rw [e, h]; omega) (by rw [e, h]; omega), e, h]
/-! Int32 forms of the calendar -/
theorem zdvk {x y : Int32} {a b : Int} (hx : x.toInt = a) (hy : y.toInt = b) (h : 0 ≤ a) (hb : 1 ≤ b) : (x / y).toInt = a / b := by subst hx; subst hy; exact zdivp h hb
theorem zdif {x y : Int32} {a b : Int} (hx : x.toInt = a) (hy : y.toInt = b) (h0 : -1000000000 ≤ a) (h1 : a ≤ 1000000000) (h2 : -1000000000 ≤ b) (h3 : b ≤ 1000000000) : (x - y).toInt = a - b ∧ (x + y).toInt = a + b := by
  subst hx; subst hy
  exact ⟨zsub1 (by omega) (by omega), zadd1 (by omega) (by omega)⟩
theorem zml {x y : Int32} {a b : Int} (hx : x.toInt = a) (hy : y.toInt = b) (h0 : -2000000000 ≤ a * b) (h1 : a * b ≤ 2000000000) : (x * y).toInt = a * b := by
  subst hx; subst hy; exact zmul1 (by omega) (by omega)
theorem cc_v1 {y : Int32} {A : Int} (h : y.toInt = A) (h0 : 0 ≤ A) (h1 : A < 146097) : (((y - y / 1460) + y / 36524 - y / 146096) / 365).toInt = ccN A := by
  have a := zdvk (y := 1460) (b := 1460) h (by decide) h0 (by decide)
  have b := zdvk (y := 36524) (b := 36524) h (by decide) h0 (by decide)
  have c := zdvk (y := 146096) (b := 146096) h (by decide) h0 (by decide)
  generalize y / 1460 = p at *
  generalize y / 36524 = q at *
  generalize y / 146096 = r at *
  have d := (zdif h a (by omega) (by omega) (by omega) (by omega)).1
  generalize y - p = s at *
  have e := (zdif d b (by omega) (by omega) (by omega) (by omega)).2
  generalize s + q = t at *
  have f := (zdif e c (by omega) (by omega) (by omega) (by omega)).1
  generalize t - r = w at *
  exact zdvk f (by decide) (by omega) (by decide)
theorem cc_v2 {y n : Int32} {A N : Int} (h : y.toInt = A) (hn : n.toInt = N) (h0 : 0 ≤ A) (h1 : A < 146097) (n0 : 0 ≤ N) (n1 : N ≤ 399) : (y - ((365 * n + n / 4) - n / 100)).toInt = A - (365 * N + N / 4 - N / 100) := by
  have a := zdvk (y := 4) (b := 4) hn (by decide) n0 (by decide)
  have b := zdvk (y := 100) (b := 100) hn (by decide) n0 (by decide)
  have c := zml (x := 365) (a := 365) (by decide) hn (by omega) (by omega)
  generalize n / 4 = p at *
  generalize n / 100 = q at *
  generalize 365 * n = r at *
  have d := (zdif c a (by omega) (by omega) (by omega) (by omega)).2
  generalize r + p = s at *
  have e := (zdif d b (by omega) (by omega) (by omega) (by omega)).1
  generalize s - q = t at *
  exact (zdif h e (by omega) (by omega) (by omega) (by omega)).1
theorem cc_v3 {y : Int32} {R : Int} (h : y.toInt = R) (h0 : 0 ≤ R) (h1 : R ≤ 365) : ((5 * y + 2) / 153).toInt = ccF R ∧ 0 ≤ ccF R ∧ ccF R ≤ 11 := by
  have c := zml (x := 5) (a := 5) (by decide) h (by omega) (by omega)
  generalize 5 * y = r at *
  have d := (zdif c (y := 2) (b := 2) (by decide) (by omega) (by omega) (by omega) (by omega)).2
  generalize r + 2 = s at *
  refine ⟨zdvk d (by decide) (by omega) (by decide), ?_⟩
  unfold ccF; omega
theorem cc_v4 {y f : Int32} {R : Int} (h : y.toInt = R) (hf : f.toInt = ccF R) (h0 : 0 ≤ R) (h1 : R ≤ 365) : ((y - (153 * f + 2) / 5) + 1).toInt = ccD R := by
  have b : 0 ≤ ccF R ∧ ccF R ≤ 11 := by unfold ccF; omega
  have c := zml (x := 153) (a := 153) (by decide) hf (by omega) (by omega)
  unfold ccD
  generalize ccF R = F at *
  generalize 153 * f = r at *
  have d := (zdif c (y := 2) (b := 2) (by decide) (by omega) (by omega) (by omega) (by omega)).2
  generalize r + 2 = s at *
  have e := zdvk d (y := 5) (b := 5) (by decide) (by omega) (by decide)
  generalize s / 5 = t at *
  have g := (zdif h e (by omega) (by omega) (by omega) (by omega)).1
  generalize y - t = w at *
  exact (zdif g (y := 1) (b := 1) (by decide) (by omega) (by omega) (by omega) (by omega)).2
theorem zmodn {x y : Int32} {a b : Int} (hx : x.toInt = a) (hy : y.toInt = b) (h : 0 ≤ a) (hb : 1 ≤ b) : (x - x / y * y).toInt = a % b := by subst hx; subst hy; exact zrm h hb
theorem ccM_v {f m : Int32} {R : Int} (hf : f.toInt = ccF R) (h0 : 0 ≤ ccF R) (h1 : ccF R ≤ 11) (hm : (10 ≤ f.toInt ∧ m = f - 9) ∨ (¬ 10 ≤ f.toInt ∧ m = f + 3)) : m.toInt = ccM R ∧ 1 ≤ ccM R ∧ ccM R ≤ 12 := by
  unfold ccM
  generalize ccF R = F at *
  rcases hm with ⟨a, b⟩ | ⟨a, b⟩
  · rw [if_neg (by omega), b, (zdif hf (y := 9) (b := 9) (by decide) (by omega) (by omega) (by omega) (by omega)).1]; omega
  · rw [if_pos (by omega), b, (zdif hf (y := 3) (b := 3) (by decide) (by omega) (by omega) (by omega) (by omega)).2]; omega
theorem ccY_v {a n w : Int32} {s : Int} (ha : a.toInt = s / 146097) (hn : n.toInt = ccN (s % 146097)) (hw : (2 < ccM (ccR (s % 146097)) ∧ w.toInt = 0) ∨ (¬ 2 < ccM (ccR (s % 146097)) ∧ w.toInt = 1)) (h0 : 0 ≤ s) (h1 : s ≤ 3100000) : (((1600 + 400 * a) + n) + w).toInt = ccY s := by
  have b := cc_b h0
  have c := zml (x := 400) (a := 400) (by decide) ha (by omega) (by omega)
  have ew : w.toInt = (if ccM (ccR (s % 146097)) ≤ 2 then 1 else 0) := by
    rcases hw with ⟨p, q⟩ | ⟨p, q⟩
    · rw [if_neg (by omega), q]
    · rw [if_pos (by omega), q]
  have wb : 0 ≤ w.toInt ∧ w.toInt ≤ 1 := by omega
  unfold ccY
  rw [← ew]
  generalize 400 * a = r at *
  have d := (zdif (x := 1600) (a := 1600) (by decide) c (by omega) (by omega) (by omega) (by omega)).2
  generalize 1600 + r = t at *
  have e := (zdif d hn (by omega) (by omega) (by omega) (by omega)).2
  generalize t + n = u at *
  exact (zdif e rfl (by omega) (by omega) (by omega) (by omega)).2
def cdO (I : Nat → Int32) (n : Int) : Prop := (I 4).toInt = cdY n ∧ (I 5).toInt = cdM n ∧ (I 6).toInt = cdD n
def ccO (I : Nat → Int32) (s : Int) : Prop := (I 4).toInt = ccY s ∧ (I 5).toInt = ccM (ccR (s % 146097)) ∧ (I 6).toInt = ccD (ccR (s % 146097))
theorem ccO_i {I0 : Nat → Int32} {y m v : Int32} {s : Int} (hy : y.toInt = ccY s) (hm : m.toInt = ccM (ccR (s % 146097))) (hv : v.toInt = ccD (ccR (s % 146097))) : ccO (zu (zu (zu I0 6 v) 5 m) 4 y) s := ⟨hy, hm, hv⟩
theorem cdO_c {I : Nat → Int32} {n s : Int} (h : ccO I s) (hs : s = n - 61 + 109572) (hn : ¬ n < 61) : cdO I n := by
  subst hs
  unfold cdO cdY cdM cdD
  rw [if_neg hn, if_neg hn, if_neg hn]
  exact h
theorem cdO_a {I0 : Nat → Int32} {x : Int32} (hn : x.toInt < 61) (h : ¬ 31 < x.toInt) : cdO (zu (zu (zu I0 4 1900) 5 1) 6 x) x.toInt := by
  unfold cdO cdY cdM cdD
  rw [if_pos hn, if_pos hn, if_pos hn, if_pos (by omega), if_pos (by omega)]
  exact ⟨rfl, rfl, rfl⟩
theorem cdO_b {I0 : Nat → Int32} {x : Int32} (hn : x.toInt < 61) (h : 31 < x.toInt) : cdO (zu (zu (zu I0 4 1900) 5 2) 6 (x - 31)) x.toInt := by
  unfold cdO cdY cdM cdD
  rw [if_pos hn, if_pos hn, if_pos hn, if_neg (by omega), if_neg (by omega)]
  exact ⟨rfl, rfl, (zdif (x := x) rfl (y := 31) (b := 31) (by decide) (by omega) (by omega) (by omega) (by omega)).1⟩
/-! names -/
def nmI (a b : Int) : Int := if a ≤ b then a else b
def nmL (t : Nat) (row : Int) : Int := if row = 3 then 3 else if row = 4 then (zsn t : Int) else 1
def nmC (t : Nat) (row : Int) : List Int := txs (zsb t) 0 (nmI (nmL t row) (zsn t))
theorem nm_x {f : Nat → Int32} {x a b : Int} (h : a ≤ x ∨ b ≤ x) : txs f x (nmI a b) = [] := txs_x (by unfold nmI; split <;> omega)
theorem nm_s {f : Nat → Int32} {x : Int32} {y a b : Int} (h0 : 0 ≤ x.toInt) (ha : ¬ a ≤ x.toInt) (hb : ¬ b ≤ x.toInt) (hy : y = x.toInt + 1) : txs f x.toInt (nmI a b) = [(f x.toNatClampNeg).toInt] ++ txs f y (nmI a b) := txs_s h0 (by unfold nmI; split <;> omega) hy
theorem nm_3 {t : Nat} {row a z : Int} (hr : row = 3) (ha : a = 3) (hz : z = 0) : txs (zsb t) z (nmI a (zsn t)) = nmC t row := by unfold nmC nmL; rw [if_pos hr, ha, hz]
theorem nm_4 {t : Nat} {row a z : Int} (hr : row = 4) (ha : a = zsn t) (hz : z = 0) : txs (zsb t) z (nmI a (zsn t)) = nmC t row := by unfold nmC nmL; rw [if_neg (by omega), if_pos hr, ha, hz]
theorem nm_1 {t : Nat} {row a z : Int} (hr : ¬ row = 3) (hr4 : ¬ row = 4) (ha : a = 1) (hz : z = 0) : txs (zsb t) z (nmI a (zsn t)) = nmC t row := by unfold nmC nmL; rw [if_neg hr, if_neg hr4, ha, hz]
def mnI (m : Int) : Nat := if m = 1 then 13 else if m = 2 then 14 else if m = 3 then 15 else if m = 4 then 16 else if m = 5 then 17 else if m = 6 then 18 else if m = 7 then 19 else if m = 8 then 20 else if m = 9 then 21 else if m = 10 then 22 else if m = 11 then 23 else 24
def wdI (d : Int) : Nat := if d = 0 then 25 else if d = 1 then 26 else if d = 2 then 27 else if d = 3 then 28 else if d = 4 then 29 else if d = 5 then 30 else 31
theorem mnI_24 {m : Int} (h0 : ¬ m = 1) (h1 : ¬ m = 2) (h2 : ¬ m = 3) (h3 : ¬ m = 4) (h4 : ¬ m = 5) (h5 : ¬ m = 6) (h6 : ¬ m = 7) (h7 : ¬ m = 8) (h8 : ¬ m = 9) (h9 : ¬ m = 10) (h10 : ¬ m = 11) : 24 = mnI m := by unfold mnI; rw [if_neg h0, if_neg h1, if_neg h2, if_neg h3, if_neg h4, if_neg h5, if_neg h6, if_neg h7, if_neg h8, if_neg h9, if_neg h10]
theorem wdI_31 {m : Int} (h0 : ¬ m = 0) (h1 : ¬ m = 1) (h2 : ¬ m = 2) (h3 : ¬ m = 3) (h4 : ¬ m = 4) (h5 : ¬ m = 5) : 31 = wdI m := by unfold wdI; rw [if_neg h0, if_neg h1, if_neg h2, if_neg h3, if_neg h4, if_neg h5]
