/-! the calendar of the reference -/
def lpf (y : Int) : Int := if (y % 4 = 0 ∧ ¬ y % 100 = 0) ∨ y % 400 = 0 then 1 else 0
def dmn (y m : Int) : Int := if m = 2 then 28 + lpf y else if m = 4 ∨ m = 6 ∨ m = 9 ∨ m = 11 then 30 else 31
def dyb (y : Int) : Int := 365 * (y - 1900) + (y - 1) / 4 - (y - 1) / 100 + (y - 1) / 400 - 460
def msb (y m : Int) : Int := if m = 1 then 0 else if m = 2 then 31 else 59 + lpf y + (153 * (m - 3) + 2) / 5
theorem lpf_b {y : Int} : 0 ≤ lpf y ∧ lpf y ≤ 1 := by unfold lpf; split <;> omega
theorem dyb_s {y : Int} : dyb (y + 1) = dyb y + (365 + lpf y) := by
  unfold dyb lpf
  rw [show y + 1 - 1 = y by omega]
  split <;> omega
theorem dyb_l {y : Int} : dyb y + lpf y = 365 * (y - 1900) + y / 4 - y / 100 + y / 400 - 460 := by
  have := dyb_s (y := y)
  unfold dyb at this ⊢
  rw [show y + 1 - 1 = y by omega] at this
  omega
theorem dyb_m {a b : Int} (h : a ≤ b) : dyb a ≤ dyb b := by unfold dyb; omega
theorem msb_s {y m : Int} (h1 : 1 ≤ m) (h2 : m ≤ 12) : msb y (m + 1) = msb y m + dmn y m := by
  have l := lpf_b (y := y)
  unfold msb dmn
  generalize lpf y = l at *
  have c : m = 1 ∨ m = 2 ∨ m = 3 ∨ m = 4 ∨ m = 5 ∨ m = 6 ∨ m = 7 ∨ m = 8 ∨ m = 9 ∨ m = 10 ∨ m = 11 ∨ m = 12 := by omega
  rcases c with c | c | c | c | c | c | c | c | c | c | c | c <;> subst c <;> simp only [Int.reduceAdd, Int.reduceSub, Int.reduceMul, Int.reduceDiv, Int.reduceEq, if_true, if_false, reduceIte, or_true, true_or, or_false, false_or] <;> omega
theorem msb_m {y a b : Int} (h0 : 1 ≤ a) (h : a ≤ b) (hb : b ≤ 13) : msb y a ≤ msb y b := by
  have l := lpf_b (y := y)
  unfold msb
  generalize lpf y = l at *
  split
  · split
    · omega
    split <;> omega
  split
  · split
    · omega
    split <;> omega
  · rw [if_neg (by omega), if_neg (by omega)]; omega
theorem msb_13 {y : Int} : msb y 13 = 365 + lpf y := by
  unfold msb; rw [if_neg (by decide), if_neg (by decide)]
  have e : ((153 * (13 - 3) + 2) / 5 : Int) = 306 := by decide
  omega
def calO (L y m d : Int) : Prop := L = dyb y + msb y m + d ∧ 1 ≤ m ∧ m ≤ 12 ∧ 1 ≤ d ∧ d ≤ dmn y m
theorem cal_y {L y m d : Int} (h : calO L y m d) : dyb y + 1 ≤ L ∧ L ≤ dyb (y + 1) := by
  obtain ⟨a, b, c, e, f⟩ := h
  have s := msb_s (y := y) b c
  have q := msb_m (y := y) (a := 1) (b := m) (by decide) b (by omega)
  have r := msb_m (y := y) (a := m + 1) (b := 13) (by omega) (by omega) (by decide)
  have z : msb y 1 = 0 := rfl
  rw [msb_13] at r
  rw [dyb_s]; omega
theorem cal_u {L y m d y2 m2 d2 : Int} (h : calO L y m d) (h2 : calO L y2 m2 d2) : y = y2 ∧ m = m2 ∧ d = d2 := by
  have a := cal_y h
  have b := cal_y h2
  have ey : y = y2 := by
    rcases Int.lt_trichotomy y y2 with k | k | k
    · have := dyb_m (a := y + 1) (b := y2) (by omega); omega
    · exact k
    · have := dyb_m (a := y2 + 1) (b := y) (by omega); omega
  subst ey
  obtain ⟨a1, a2, a3, a4, a5⟩ := h
  obtain ⟨b1, b2, b3, b4, b5⟩ := h2
  have s := msb_s (y := y) a2 a3
  have t := msb_s (y := y) b2 b3
  have em : m = m2 := by
    rcases Int.lt_trichotomy m m2 with k | k | k
    · have := msb_m (y := y) (a := m + 1) (b := m2) (by omega) (by omega) (by omega); omega
    · exact k
    · have := msb_m (y := y) (a := m2 + 1) (b := m) (by omega) (by omega) (by omega); omega
  subst em
  exact ⟨rfl, rfl, by omega⟩
theorem lp_365 {a c q z : Int} (q0 : 0 ≤ q) (q24 : q ≤ 24) (z3 : z = 3) (h : q < 24 ∨ c = 3) : lpf (1600 + 400 * a + (100 * c + 4 * q + z) + 1) = 1 := by
  subst z3
  have m4 : (1600 + 400 * a + (100 * c + 4 * q + 3) + 1) % 4 = 0 := by omega
  unfold lpf
  by_cases w : q = 24
  · have c3 : c = 3 := by omega
    subst c3; subst w
    have m400 : (1600 + 400 * a + (100 * 3 + 4 * 24 + 3) + 1) % 400 = 0 := by omega
    rw [if_pos (Or.inr m400)]
  · have m100 : (1600 + 400 * a + (100 * c + 4 * q + 3) + 1) % 100 = 4 * q + 4 := by omega
    rw [if_pos (Or.inl ⟨m4, by rw [m100]; omega⟩)]
theorem cal_c {s : Int} (h0 : 0 ≤ s) : calO (s - 109512) (ccY s) (ccM (ccR (s % 146097))) (ccD (ccR (s % 146097))) := by
  obtain ⟨c, q, z, E, e, c0, c3, q0, q24, z0, z3, E0, E1, hE⟩ := cc_dec (A := s % 146097) (by omega) (by omega)
  have eN := cc_n c0 c3 q0 q24 z0 z3 E0 E1 hE
  have eR := cc_r c0 c3 q0 q24 z0 z3 E0 E1 hE
  have es : s = 146097 * (s / 146097) + (36524 * c + 1461 * q + 365 * z + E) := by omega
  have eY : ccY s = 1600 + 400 * (s / 146097) + (100 * c + 4 * q + z) + (if ccM E ≤ 2 then 1 else 0) := by unfold ccY; rw [e, eN, eR]
  rw [eY, e, eR]
  have a0 : 0 ≤ s / 146097 := by omega
  generalize s / 146097 = a at *
  have hF : 0 ≤ ccF E ∧ ccF E ≤ 11 ∧ 153 * ccF E ≤ 5 * E + 2 ∧ 5 * E + 2 ≤ 153 * ccF E + 152 := by unfold ccF; omega
  have y4 : (1600 + 400 * a + (100 * c + 4 * q + z)) / 4 = 400 + 100 * a + 25 * c + q := by omega
  have y100 : (1600 + 400 * a + (100 * c + 4 * q + z)) / 100 = 16 + 4 * a + c := by omega
  have y400 : (1600 + 400 * a + (100 * c + 4 * q + z)) / 400 = 4 + a := by omega
  unfold ccD ccM
  generalize ccF E = F at *
  by_cases k : F < 10
  · rw [if_pos k, if_neg (by omega), Int.add_zero]
    have l := dyb_l (y := 1600 + 400 * a + (100 * c + 4 * q + z))
    rw [y4, y100, y400] at l
    refine ⟨?_, by omega, by omega, by omega, ?_⟩
    · unfold msb
      rw [if_neg (by omega), if_neg (by omega), show F + 3 - 3 = F by omega]
      generalize (153 * F + 2) / 5 = G at *
      generalize dyb (1600 + 400 * a + (100 * c + 4 * q + z)) = DY at *
      generalize lpf (1600 + 400 * a + (100 * c + 4 * q + z)) = LP at *
      omega
    · unfold dmn
      rw [if_neg (by omega)]
      split <;> omega
  · rw [if_neg k, if_pos (by omega)]
    have l := dyb_s (y := 1600 + 400 * a + (100 * c + 4 * q + z))
    have l2 := dyb_l (y := 1600 + 400 * a + (100 * c + 4 * q + z))
    rw [y4, y100, y400] at l2
    have g10 : F = 10 → (153 * F + 2) / 5 = 306 := by omega
    have g11 : F = 11 → (153 * F + 2) / 5 = 337 := by omega
    generalize (153 * F + 2) / 5 = G at *
    refine ⟨?_, by omega, by omega, by omega, ?_⟩
    · rw [l]
      unfold msb
      generalize dyb (1600 + 400 * a + (100 * c + 4 * q + z)) = DY at *
      generalize lpf (1600 + 400 * a + (100 * c + 4 * q + z)) = LP at *
      by_cases f : F = 10
      · have := g10 f
        rw [if_pos (by omega)]; omega
      · have := g11 (by omega)
        rw [if_neg (by omega), if_pos (by omega)]; omega
    · unfold dmn
      by_cases f : F = 10
      · have := g10 f
        rw [if_neg (by omega), if_neg (by omega)]; omega
      · have := g11 (by omega)
        rw [if_pos (by omega)]
        by_cases g : E = 365
        · have := lp_365 (a := a) q0 q24 (hE g).1 (hE g).2
          rw [this]; omega
        · have := lpf_b (y := 1600 + 400 * a + (100 * c + 4 * q + z) + 1)
          omega
/-- the reference's date of day n is the one of the class -/
theorem cal_eq {n L y m d : Int} (h0 : 1 ≤ n) (h60 : ¬ n = 60) (hL : (60 < n ∧ L = n - 1) ∨ (¬ 60 < n ∧ L = n)) (h : calO L y m d) : y = cdY n ∧ m = cdM n ∧ d = cdD n := by
  by_cases k : n < 61
  · have e : L = n := by omega
    have c : calO n (cdY n) (cdM n) (cdD n) := by
      unfold cdY cdM cdD
      rw [if_pos k, if_pos k, if_pos k]
      have d0 : dyb 1900 = 0 := by decide
      have l0 : lpf 1900 = 0 := by decide
      unfold calO
      rw [d0]
      by_cases q : n ≤ 31
      · rw [if_pos q, if_pos q]
        have z : msb 1900 1 = 0 := rfl
        have w : dmn 1900 1 = 31 := by decide
        omega
      · rw [if_neg q, if_neg q]
        have z : msb 1900 2 = 31 := rfl
        have w : dmn 1900 2 = 28 := by decide
        omega
    rw [e] at h
    exact cal_u h c
  · have e : L = (n - 61 + 109572) - 109512 := by omega
    have c := cal_c (s := n - 61 + 109572) (by omega)
    rw [← e] at c
    unfold cdY cdM cdD
    rw [if_neg k, if_neg k, if_neg k]
    exact cal_u h c
def calL (n : Int) : Int := if 60 < n then n - 1 else n
def calM (L y m d : Int) : Prop := L = dyb y + msb y m + d ∧ (1 ≤ m ∧ m ≤ 12 ∧ 1 ≤ d ∧ d ≤ 366) ∧ msb y m + d ≤ 365 + lpf y
def calY (L y d : Int) : Prop := L = dyb y + d ∧ 1 ≤ d
theorem calM_b {L y m d : Int} (h : calM L y m d) : 1 ≤ m ∧ m ≤ 12 ∧ 1 ≤ d ∧ d ≤ 366 := h.2.1
theorem calY_b {n y d : Int} (h : calY (calL n) y d) (h0 : n ≤ 2958466) : 1 ≤ d ∧ y ≤ 11000 := by
  obtain ⟨a, b⟩ := h
  refine ⟨b, ?_⟩
  have l : calL n ≤ n := by unfold calL; split <;> omega
  unfold dyb at a
  omega
theorem calY_d {n y d : Int} (h : calY (calL n) y d) (hy : 1900 ≤ y) (h0 : n ≤ 2958466) : d ≤ 3000000 := by
  obtain ⟨a, b⟩ := h
  have l : calL n ≤ n := by unfold calL; split <;> omega
  have m := dyb_m hy
  have z : dyb 1900 = 0 := by decide
  omega
theorem calY_i {n y d : Int} (hy : y = 1900) (h0 : 1 ≤ n) (hd : (60 < n ∧ d = n - 1) ∨ (¬ 60 < n ∧ d = n)) : calY (calL n) y d := by
  have z : dyb 1900 = 0 := by decide
  unfold calY calL
  rw [hy, z]
  split <;> omega
theorem calY_s {L y d l y2 d2 : Int} (h : calY L y d) (hl : l = lpf y) (hd : ¬ d ≤ 365 + l) (hy : y2 = y + 1) (hd2 : d2 = d - (365 + l)) : calY L y2 d2 := by
  obtain ⟨a, b⟩ := h
  refine ⟨?_, by omega⟩
  rw [hy, dyb_s]; omega
theorem calM_i {L y d l m : Int} (h : calY L y d) (hl : l = lpf y) (hd : d ≤ 365 + l) (hm : m = 1) : calM L y m d := by
  obtain ⟨a, b⟩ := h
  have z : msb y 1 = 0 := rfl
  have q := lpf_b (y := y)
  subst hm
  refine ⟨by omega, by omega, by omega⟩
theorem calM_s {L y m d r m2 d2 : Int} (h : calM L y m d) (hr : r = dmn y m) (hd : ¬ d ≤ r) (hm : m2 = m + 1) (hd2 : d2 = d - r) : calM L y m2 d2 := by
  obtain ⟨a, b, c⟩ := h
  have s := msb_s (y := y) b.1 b.2.1
  have q := msb_13 (y := y)
  have n12 : ¬ m = 12 := fun e => by
    rw [e] at s c hr
    rw [show (12 : Int) + 1 = 13 by decide] at s
    omega
  have p : 28 ≤ dmn y m := by
    have := lpf_b (y := y)
    unfold dmn; (repeat' split) <;> omega
  subst hm
  rw [hd2]
  refine ⟨by omega, by omega, by omega⟩
theorem calM_e {n y m d r : Int} (h : calM (calL n) y m d) (hr : r = dmn y m) (hd : d ≤ r) (h0 : 1 ≤ n) (h60 : ¬ n = 60) : y = cdY n ∧ m = cdM n ∧ d = cdD n := by
  obtain ⟨a, b, c⟩ := h
  refine cal_eq (L := calL n) h0 h60 ?_ ⟨a, b.1, b.2.1, b.2.2.1, by omega⟩
  unfold calL; split <;> omega
theorem cd_60 : cdY 60 = 1900 ∧ cdM 60 = 2 ∧ cdD 60 = 29 := by decide
theorem cd_00 : cdY 0 = 1900 ∧ cdM 0 = 1 ∧ cdD 0 = 0 := by decide
theorem t10_v {x r : Int} (h : (x = 0 ∧ r = 1) ∨ (x = 1 ∧ r = 10) ∨ (x = 2 ∧ r = 100) ∨ (x = 3 ∧ r = 1000)) : r = 10 ^ x.toNat := by
  rcases h with ⟨a, b⟩ | ⟨a, b⟩ | ⟨a, b⟩ | ⟨a, b⟩ <;> subst a <;> subst b <;> decide
theorem dmn_b {y m : Int} : 28 ≤ dmn y m ∧ dmn y m ≤ 31 := by
  have := lpf_b (y := y)
  unfold dmn; (repeat' split) <;> omega
