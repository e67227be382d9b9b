/-! the parts of a day by the reference's digits -/
def tkI (R b j x c l : Int) : Prop := (0 ≤ j ∧ x = R / 10 ^ j.toNat ∧ c = R % 10 ^ j.toNat * b / 10 ^ j.toNat) ∧ (j = 0 ∨ l = R % 10 ^ j.toNat * b / 10 ^ (j - 1).toNat % 10) ∧ 0 ≤ l ∧ l ≤ 9
theorem tk_m {R : Int} {j : Nat} : R % 10 ^ (j + 1) = R % 10 ^ j + 10 ^ j * (R / 10 ^ j % 10) := by
  have p := p10 j
  rw [Int.emod_def R, Int.emod_def R, Int.pow_succ, ← Int.ediv_ediv_of_nonneg (Int.le_of_lt p)]
  generalize R / 10 ^ j = y
  have e : y % 10 = y - 10 * (y / 10) := by omega
  rw [e, Int.mul_assoc, Int.mul_sub]
  generalize 10 ^ j * (10 * (y / 10)) = u
  omega
theorem tkI_b {R b j x c l : Int} (h : tkI R b j x c l) (h0 : 0 ≤ R) (h1 : R ≤ 1000000000000000) (hb : 0 ≤ b) (hb2 : b ≤ 86400000) : (0 ≤ x ∧ x ≤ 1000000000000000) ∧ (0 ≤ c ∧ c ≤ 86400000) ∧ 0 ≤ l ∧ l ≤ 9 := by
  obtain ⟨⟨j0, ex, ec⟩, _, l0⟩ := h
  have p := p10 j.toNat
  have a := Int.emod_nonneg R (show (10 : Int) ^ j.toNat ≠ 0 by omega)
  have d := Int.emod_lt_of_pos R p
  have m0 := Int.mul_nonneg a hb
  have m1 : R % 10 ^ j.toNat * b ≤ 10 ^ j.toNat * b := Int.mul_le_mul_of_nonneg_right (by omega) hb
  have q1 : R % 10 ^ j.toNat * b / 10 ^ j.toNat ≤ b := by
    exact Int.ediv_le_of_le_mul p (by rw [Int.mul_comm b]; exact m1)
  have q0 := Int.ediv_nonneg m0 (Int.le_of_lt p)
  have x0 := Int.ediv_nonneg h0 (Int.le_of_lt p)
  have x1 := Int.ediv_le_self (10 ^ j.toNat) h0
  exact ⟨by omega, by omega, l0⟩
theorem tkI_i {R b j x c l : Int} (hj : j = 0) (hx : x = R) (hc : c = 0) (hl : l = 0) : tkI R b j x c l := by
  subst hj; subst hc; subst hl
  refine ⟨⟨by decide, ?_, ?_⟩, Or.inl rfl, by decide, by decide⟩
  · rw [hx]; exact (Int.ediv_one R).symm
  · show 0 = R % 1 * b / 1
    rw [Int.emod_one, Int.zero_mul]; rfl
theorem tkI_s {R b j x c l S x2 c2 l2 j2 : Int} (h : tkI R b j x c l) (hS : S = c + x % 10 * b) (hx : x2 = x / 10) (hc : c2 = S / 10) (hl : l2 = S % 10) (hj : j2 = j + 1) : tkI R b j2 x2 c2 l2 := by
  obtain ⟨⟨j0, ex, ec⟩, _, _⟩ := h
  have p := p10 j.toNat
  have eS : R % 10 ^ (j.toNat + 1) * b / 10 ^ j.toNat = S := by
    rw [tk_m, Int.add_mul, Int.mul_assoc, Int.add_mul_ediv_left _ _ (by omega), hS, ec, ex]
  subst hj
  have e1 : (j + 1).toNat = j.toNat + 1 := by omega
  refine ⟨⟨by omega, ?_, ?_⟩, Or.inr ?_, by omega, by omega⟩
  · rw [e1, Int.pow_succ, ← Int.ediv_ediv_of_nonneg (Int.le_of_lt p), ← ex, hx]
  · rw [e1, hc, ← eS, Int.pow_succ, ← Int.ediv_ediv_of_nonneg (Int.le_of_lt p)]
  · rw [e1, show (j + 1 - 1).toNat = j.toNat by omega, eS, hl]
theorem tkI_x {R b j x c l t : Int} (h : tkI R b j x c l) (hj : j = 15) (ht : (5 ≤ l ∧ t = c + x * b + 1) ∨ (¬ 5 ≤ l ∧ t = c + x * b)) : t = rnd (R * b) 14 := by
  obtain ⟨⟨j0, ex, ec⟩, el, _⟩ := h
  subst hj
  have el := el.resolve_left (by decide)
  have e15 : ((15 : Int)).toNat = 14 + 1 := rfl
  have e14 : ((15 : Int) - 1).toNat = 14 := rfl
  rw [e15] at ex ec el
  rw [e14] at el
  have dec : R * b = R % 10 ^ (14 + 1) * b + 10 ^ (14 + 1) * (R / 10 ^ (14 + 1) * b) := by
    have a : R = R % 10 ^ (14 + 1) + 10 ^ (14 + 1) * (R / 10 ^ (14 + 1)) := by
      have e : (10 : Int) ^ (14 + 1) = 1000000000000000 := by decide
      rw [e]; omega
    calc R * b = (R % 10 ^ (14 + 1) + 10 ^ (14 + 1) * (R / 10 ^ (14 + 1))) * b := by rw [← a]
      _ = _ := by rw [Int.add_mul, Int.mul_assoc]
  have d1 : R * b / 10 ^ (14 + 1) = c + x * b := by
    rw [dec, Int.add_mul_ediv_left _ _ (by have := p10 (14 + 1); omega), ec, ex]
  have d2 : R * b / 10 ^ 14 % 10 = l := by
    rw [dec, show (10 : Int) ^ (14 + 1) * (R / 10 ^ (14 + 1) * b) = 10 ^ 14 * (10 * (R / 10 ^ (14 + 1) * b)) by rw [Int.pow_succ, Int.mul_assoc], Int.add_mul_ediv_left _ _ (by have := p10 14; omega), el]
    omega
  unfold rnd
  rw [d1, d2]
  rcases ht with ⟨a, q⟩ | ⟨a, q⟩
  · rw [if_pos a, q]
  · rw [if_neg a, q, Int.add_zero]
theorem tk_a {c x b : Int64} {C X B : Int} (hc : c.toInt = C) (hx : x.toInt = X) (hb : b.toInt = B) (c0 : 0 ≤ C) (c1 : C ≤ 86400000) (x0 : 0 ≤ X) (b0 : 0 ≤ B) (b1 : B ≤ 86400000) : (c + (x - x / 10 * 10) * b).toInt = C + X % 10 * B ∧ 0 ≤ C + X % 10 * B ∧ C + X % 10 * B ≤ 1000000000 := by
  have l10 : (10 : Int64).toInt = 10 := by simp only [Int64.reduceToInt]
  have m := zl_mn hx l10 x0 (by decide) (by decide)
  generalize x - x / 10 * 10 = y at *
  have q0 : 0 ≤ X % 10 * B := Int.mul_nonneg (by omega) b0
  have q1 : X % 10 * B ≤ 9 * 86400000 := Int.le_trans (Int.mul_le_mul_of_nonneg_right (show X % 10 ≤ 9 by omega) b0) (Int.mul_le_mul_of_nonneg_left b1 (by decide))
  have e := zl_xn m hb q0 (by omega)
  generalize y * b = z at *
  exact ⟨zl_an hc e c0 (by omega) q0 (by omega), by omega, by omega⟩
theorem tkI_t {R B j j2 : Int} {x c l b : Int64} (h : tkI R B j x.toInt c.toInt l.toInt) (hb : b.toInt = B) (h0 : 0 ≤ R) (h1 : R ≤ 1000000000000000) (b0 : 0 ≤ B) (b1 : B ≤ 86400000) (hj : j2 = j + 1) : tkI R B j2 (x / 10).toInt ((c + (x - x / 10 * 10) * b) / 10).toInt ((c + (x - x / 10 * 10) * b) - (c + (x - x / 10 * 10) * b) / 10 * 10).toInt := by
  have l10 : (10 : Int64).toInt = 10 := by simp only [Int64.reduceToInt]
  have q := tkI_b h h0 h1 b0 b1
  have a := tk_a (c := c) (x := x) rfl rfl hb q.2.1.1 q.2.1.2 q.1.1 b0 b1
  have dx := zl_dn (x := x) rfl l10 q.1.1 (by decide)
  generalize c + (x - x / 10 * 10) * b = S at *
  exact tkI_s h rfl dx (by rw [zl_dn (x := S) a.1 l10 a.2.1 (by decide)]) (by rw [zl_mn (x := S) a.1 l10 a.2.1 (by decide) (by decide)]) hj
theorem tkI_e {R B j : Int} {x c l b : Int64} (h : tkI R B j x.toInt c.toInt l.toInt) (hb : b.toInt = B) (h0 : 0 ≤ R) (h1 : R ≤ 1000000000000000) (b0 : 0 ≤ B) (b1 : B ≤ 86400000) (hj : j = 15) : (l.toInt < 5 → (c + x * b).toInt = rnd (R * B) 14) ∧ (¬ l.toInt < 5 → ((c + x * b) + 1).toInt = rnd (R * B) 14) := by
  have q := tkI_b h h0 h1 b0 b1
  have x1 : x.toInt ≤ 1 := by
    have ex := h.1.2.1
    rw [hj] at ex
    have e : (10 : Int) ^ (15 : Int).toNat = 1000000000000000 := by decide
    rw [e] at ex; omega
  have m0 : 0 ≤ x.toInt * B := Int.mul_nonneg q.1.1 b0
  have m1 : x.toInt * B ≤ 1 * B := Int.mul_le_mul_of_nonneg_right x1 b0
  have e := zl_xn (x := x) rfl hb m0 (by omega)
  generalize x * b = z at *
  have e2 := zl_an (x := c) rfl e q.2.1.1 (by omega) m0 (by omega)
  generalize c + z = w at *
  have e3 := zl_an e2 lk_1 (by omega) (by omega) (by decide) (by decide)
  exact ⟨fun k => tkI_x h hj (Or.inr ⟨by omega, e2⟩), fun k => tkI_x h hj (Or.inl ⟨by omega, e3⟩)⟩
def fdO (r dy tk pt ng sx pl M R P : Int) : Prop := (((¬ ng = 0 ∧ ¬ sx = 1) ∨ 7 < pl) ∧ r = 0) ∨ (((ng = 0 ∨ sx = 1) ∧ pl ≤ 7) ∧ dy = M + dtC R P ∧ tk = dtI R P ∧ pt = P ∧ ((dy < 2958466 ∧ r = 1) ∨ (¬ dy < 2958466 ∧ r = 0)))
theorem fdO_a {r dy tk pt ng sx pl M R P s b : Int} (hs : s = dtT R P) (hb : b = dtP P) (hn : ¬ s = b) (h0 : 0 ≤ R) (h1 : R ≤ 1000000000000000) (hP : P ≤ 3) (hc : (ng = 0 ∨ sx = 1) ∧ pl ≤ 7) (hd : dy = M) (ht : tk = s) (hp : pt = P) (hr : (dy < 2958466 ∧ r = 1) ∨ (¬ dy < 2958466 ∧ r = 0)) : fdO r dy tk pt ng sx pl M R P := by
  have q := dtT_b h0 h1 hP
  have e1 : dtC R P = 0 := by unfold dtC; rw [if_neg (by omega)]
  have e2 : dtI R P = dtT R P := by unfold dtI; rw [if_neg (by omega)]
  exact Or.inr ⟨hc, by omega, by omega, hp, hr⟩
theorem fdO_b {r dy tk pt ng sx pl M R P s b : Int} (hs : s = dtT R P) (hb : b = dtP P) (hn : s = b) (hc : (ng = 0 ∨ sx = 1) ∧ pl ≤ 7) (hd : dy = M + 1) (ht : tk = 0) (hp : pt = P) (hr : (dy < 2958466 ∧ r = 1) ∨ (¬ dy < 2958466 ∧ r = 0)) : fdO r dy tk pt ng sx pl M R P := by
  have e1 : dtC R P = 1 := by unfold dtC; rw [if_pos (by omega)]
  have e2 : dtI R P = 0 := by unfold dtI; rw [if_pos (by omega)]; omega
  exact Or.inr ⟨hc, by omega, by omega, hp, hr⟩
theorem fdI_b {g h : Nat → Int32} {m t c p x v : Int} (hT : tkO g h m c t p) (hv : vO h c p) (H : fdI g m t x v) (ht : t ≤ 7) (hx : 0 ≤ x) : 0 ≤ v ∧ v ≤ 1000000 := by
  have td := tk_d hv hT.2.2 hT.1
  have e1 := hT.1
  have e2 := hv.1
  have b := dV_bd m.toNat td.1
  unfold fdI at H
  refine ⟨by rw [H]; exact spW_0 b.1, ?_⟩
  rw [H]
  by_cases k : t - m - 1 - x < 0
  · unfold spW
    rw [if_pos k]
    have : dV g m.toNat / 10 ^ (-(t - m - 1 - x)).toNat < 1000001 := by
      refine Int.ediv_lt_of_lt_mul (p10 _) ?_
      rcases Int.lt_or_le (t - 1 - x) 0 with w | w
      · have l := p10_le (show m.toNat ≤ (-(t - m - 1 - x)).toNat by omega)
        have p := p10 (-(t - m - 1 - x)).toNat
        omega
      · have l := p10_le (show (t - 1 - x).toNat ≤ 6 by omega)
        have e6 : (10 : Int) ^ 6 = 1000000 := by decide
        have s : (10 : Int) ^ m.toNat = 10 ^ (t - 1 - x).toNat * 10 ^ (-(t - m - 1 - x)).toNat := by rw [← Int.pow_add, show (t - 1 - x).toNat + (-(t - m - 1 - x)).toNat = m.toNat by omega]
        have u : (10 : Int) ^ (t - 1 - x).toNat * 10 ^ (-(t - m - 1 - x)).toNat ≤ 1000001 * 10 ^ (-(t - m - 1 - x)).toNat := Int.mul_le_mul_of_nonneg_right (by omega) (Int.le_of_lt (p10 _))
        omega
    omega
  · unfold spW
    rw [if_neg k]
    have l := p10_le (show m.toNat + (t - m - 1 - x).toNat ≤ 6 by omega)
    have e6 : (10 : Int) ^ 6 = 1000000 := by decide
    have u : dV g m.toNat * 10 ^ (t - m - 1 - x).toNat ≤ 10 ^ m.toNat * 10 ^ (t - m - 1 - x).toNat := Int.mul_le_mul_of_nonneg_right (by omega) (Int.le_of_lt (p10 _))
    rw [← Int.pow_add] at u
    omega
theorem dt_87 {r x : Int32} {P : Int} (h : r.toInt = 10 ^ x.toInt.toNat) (hx : x.toInt = P) (hP : P ≤ 3) : (86400 * r.toInt64).toInt = dtP P := by
  rw [hx] at h
  exact (dt_86 (s := r.toInt64) (by rw [zi64]; exact h) hP).1
theorem sW7 {g : Nat → Int32} {c p : Int} (hv : vO g c p) (h7 : p ≤ 7) : spW (dV g c.toNat) (p - c) ≤ 9999999 := by
  have b := dV_bd c.toNat hv.2.1
  have e2 := hv.1
  have e7 : (10 : Int) ^ 7 = 10000000 := by decide
  unfold spW
  by_cases k : p - c < 0
  · rw [if_pos k]
    have q : dV g c.toNat / 10 ^ (-(p - c)).toNat < 10000000 := by
      refine Int.ediv_lt_of_lt_mul (p10 _) ?_
      rcases Int.lt_or_le p 0 with w | w
      · have l := p10_le (show c.toNat ≤ (-(p - c)).toNat by omega)
        have q := p10 (-(p - c)).toNat
        omega
      · have l := p10_le (show p.toNat ≤ 7 by omega)
        have s : (10 : Int) ^ c.toNat = 10 ^ p.toNat * 10 ^ (-(p - c)).toNat := by rw [← Int.pow_add, show p.toNat + (-(p - c)).toNat = c.toNat by omega]
        have u : (10 : Int) ^ p.toNat * 10 ^ (-(p - c)).toNat ≤ 10000000 * 10 ^ (-(p - c)).toNat := Int.mul_le_mul_of_nonneg_right (by omega) (Int.le_of_lt (p10 _))
        omega
    omega
  · rw [if_neg k]
    have l := p10_le (show c.toNat + (p - c).toNat ≤ 7 by omega)
    have u : dV g c.toNat * 10 ^ (p - c).toNat < 10 ^ c.toNat * 10 ^ (p - c).toNat := Int.mul_lt_mul_of_pos_right b.2 (p10 _)
    rw [← Int.pow_add] at u
    omega
