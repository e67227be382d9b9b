/-! a number's digits in the reference -/
def nmD (g : Nat → Int32) (V n : Int) : Prop := (0 ≤ n ∧ n ≤ 17) ∧ V < 10 ^ n.toNat ∧ ((V = 0 ∧ n = 0) ∨ (1 ≤ n ∧ 10 ^ (n - 1).toNat ≤ V)) ∧ ∀ j : Nat, (j : Int) < n → (g j).toInt = V / 10 ^ (n - 1 - j).toNat % 10
theorem dV_zz {g : Nat → Int32} {c : Nat} : ∀ d : Nat, (∀ j : Nat, c ≤ j → j < c + d → (g j).toInt = 0) → dV g (c + d) = dV g c * 10 ^ d
  | 0, _ => (Int.mul_one _).symm
  | d + 1, h => by
    show 10 * dV g (c + d) + (g (c + d)).toInt = _
    rw [dV_zz d (fun j a b => h j a (by omega)), h (c + d) (by omega) (by omega), Int.pow_succ, Int.add_zero, Int.mul_comm 10, Int.mul_assoc]
theorem nm_vR {g : Nat → Int32} {V n c p s : Int} (h : nmD g V n) (hV : 0 ≤ V) (hc0 : 0 ≤ c) (hcn : c ≤ n) (hz : ∀ j : Nat, c ≤ (j : Int) → (j : Int) < n → (g j).toInt = 0) (hl : c = 0 ∨ ¬ (g (c - 1).toNat).toInt = 0) (hp : (c = 0 ∧ p = 0) ∨ (¬ c = 0 ∧ p = n + s)) (s0 : -350 ≤ s) (s1 : s ≤ 300) : vR V s g c p := by
  obtain ⟨hn, hlt, hq, hd⟩ := h
  have e1 : dV g n.toNat = V := by
    have q := dV_of (f := g) (v := V) n.toNat 0 (fun j hj => by rw [hd j (by omega), show (n - 1 - (j : Int)).toNat = 0 + (n.toNat - 1 - j) by omega])
    rw [q]
    show V / 1 % 10 ^ n.toNat = V
    rw [Int.ediv_one, Int.emod_eq_of_lt hV hlt]
  have e2 : dV g n.toNat = dV g c.toNat * 10 ^ (n - c).toNat := by
    have q := dV_zz (g := g) (c := c.toNat) (n - c).toNat (fun j a b => hz j (by omega) (by omega))
    rw [← q, show c.toNat + (n - c).toNat = n.toNat by omega]
  have dg : ∀ j : Nat, (j : Int) < n → 0 ≤ (g j).toInt ∧ (g j).toInt ≤ 9 := fun j hj => by rw [hd j hj]; omega
  refine ⟨⟨⟨hc0, by omega, by omega, by omega⟩, fun k hk => dg k (by omega), ?_⟩, hl, (n - c).toNat, by rw [← e1]; exact e2, by omega, by omega⟩
  rcases hq with ⟨_, q⟩ | ⟨q1, q2⟩
  · exact Or.inl (by omega)
  · refine Or.inr ?_
    rw [hd 0 (by omega), show (n - 1 - ((0 : Nat) : Int)).toNat = (n - 1).toNat by omega]
    have p1 := p10 (n - 1).toNat
    have a1 : 1 ≤ V / 10 ^ (n - 1).toNat := (Int.le_ediv_iff_mul_le p1).2 (by omega)
    have a2 : V / 10 ^ (n - 1).toNat < 10 := Int.ediv_lt_of_lt_mul p1 (by
      have e : (10 : Int) ^ n.toNat = 10 ^ (n - 1).toNat * 10 := by rw [show n.toNat = (n - 1).toNat + 1 by omega, Int.pow_succ]
      rw [Int.mul_comm]; omega)
    omega
/-- how many digits: x so far, y what is left -/
def nmC0 (V x y : Int) : Prop := (0 ≤ x ∧ x ≤ 17) ∧ y = V / 10 ^ x.toNat ∧ (x = 0 ∨ 10 ^ (x - 1).toNat ≤ V)
theorem nmC0_i {V x y : Int} (hx : x = 0) (hy : y = V) : nmC0 V x y := by
  subst hx; subst hy
  exact ⟨⟨by decide, by decide⟩, (Int.ediv_one _).symm, Or.inl rfl⟩
theorem nmC0_b {V x y : Int} (h : nmC0 V x y) (h0 : 0 ≤ V) : 0 ≤ y := by
  rw [h.2.1]; exact Int.ediv_nonneg h0 (Int.le_of_lt (p10 _))
theorem nmC0_s {V x y a b : Int} (h : nmC0 V x y) (hV : V < 100000000000000000) (hy : ¬ y ≤ 0) (ha : a = x + 1) (hb : b = y / 10) : nmC0 V a b := by
  obtain ⟨h1, h2, h3⟩ := h
  have p := p10 x.toNat
  have e17 : (10 : Int) ^ 17 = 100000000000000000 := by decide
  have q : (10 : Int) ^ x.toNat ≤ V := by
    have : 1 ≤ V / 10 ^ x.toNat := by omega
    have := (Int.le_ediv_iff_mul_le p).1 this
    omega
  have x17 : x < 17 := by
    rcases Int.lt_or_le x 17 with k | k
    · exact k
    · have := p10_le (show 17 ≤ x.toNat by omega); omega
  subst ha
  refine ⟨by omega, ?_, Or.inr ?_⟩
  · rw [hb, h2, show (x + 1).toNat = x.toNat + 1 by omega, Int.pow_succ, ← Int.ediv_ediv_of_nonneg (Int.le_of_lt p)]
  · rw [show (x + 1 - 1).toNat = x.toNat by omega]; exact q
theorem nmC0_x {V x y : Int} (h : nmC0 V x y) (h0 : 0 ≤ V) (hy : y ≤ 0) : V < 10 ^ x.toNat ∧ ((V = 0 ∧ x = 0) ∨ (1 ≤ x ∧ 10 ^ (x - 1).toNat ≤ V)) := by
  have yb := nmC0_b h h0
  obtain ⟨h1, h2, h3⟩ := h
  have p := p10 x.toNat
  have lt : V < 10 ^ x.toNat := by
    rcases Int.lt_or_le V (10 ^ x.toNat) with k | k
    · exact k
    · have : 1 ≤ V / 10 ^ x.toNat := (Int.le_ediv_iff_mul_le p).2 (by omega)
      omega
  refine ⟨lt, ?_⟩
  rcases h3 with h3 | h3
  · rw [h3] at lt
    have lt : V < 1 := lt
    exact Or.inl ⟨by omega, h3⟩
  · by_cases x0 : x = 0
    · rw [x0] at lt
      have lt : V < 1 := lt
      exact Or.inl ⟨by omega, x0⟩
    · exact Or.inr ⟨by omega, h3⟩
/-- digits behind k stand, y is what is left -/
def nmF (g : Nat → Int32) (V n k y : Int) : Prop := (0 ≤ n ∧ n ≤ 17 ∧ -1 ≤ k ∧ k < n) ∧ (V < 10 ^ n.toNat ∧ ((V = 0 ∧ n = 0) ∨ (1 ≤ n ∧ 10 ^ (n - 1).toNat ≤ V))) ∧ y = V / 10 ^ (n - 1 - k).toNat ∧ ∀ j : Nat, k < (j : Int) → (j : Int) < n → (g j).toInt = V / 10 ^ (n - 1 - j).toNat % 10
theorem nmF_i {g : Nat → Int32} {V n k y x : Int} (h : nmC0 V n x) (h0 : 0 ≤ V) (hx : x ≤ 0) (hk : k = n - 1) (hy : y = V) : nmF g V n k y := by
  subst hk; subst hy
  have b := h.1
  refine ⟨by omega, nmC0_x h h0 hx, ?_, fun j a b => by omega⟩
  rw [show (n - 1 - (n - 1)).toNat = 0 by omega]
  exact (Int.ediv_one _).symm
theorem nmF_s {g : Nat → Int32} {V n y q : Int} {x : Int32} {u : Int32} (h : nmF g V n x.toInt y) (hx : ¬ x.toInt < 0) (hu : u.toInt = y % 10) (hq : q = y / 10) {k : Int} (hk : k = x.toInt - 1) : nmF (upd g x.toNatClampNeg u) V n k q := by
  obtain ⟨h1, h2, h3, h4⟩ := h
  have p := p10 (n - 1 - x.toInt).toNat
  subst hk
  refine ⟨by omega, h2, ?_, fun j a b => ?_⟩
  · rw [hq, h3, show (n - 1 - (x.toInt - 1)).toNat = (n - 1 - x.toInt).toNat + 1 by omega, Int.pow_succ, ← Int.ediv_ediv_of_nonneg (Int.le_of_lt p)]
  · by_cases c : (j : Int) = x.toInt
    · have e : j = x.toNatClampNeg := by rw [zcl]; omega
      rw [← e, pk_us, hu, h3, c]
    · rw [pk_un (by rw [zcl]; omega)]; exact h4 j (by omega) b
theorem nmF_x {g : Nat → Int32} {V n k y : Int} (h : nmF g V n k y) (hk : k < 0) : nmD g V n := by
  obtain ⟨h1, h2, h3, h4⟩ := h
  exact ⟨by omega, h2.1, h2.2, fun j b => h4 j (by omega) b⟩
theorem nmF_b {g : Nat → Int32} {V n k y : Int} (h : nmF g V n k y) (h0 : 0 ≤ V) : 0 ≤ y := by
  rw [h.2.2.1]; exact Int.ediv_nonneg h0 (Int.le_of_lt (p10 _))
theorem zl_m10 {v : Int64} (h : 0 ≤ v.toInt) : ((v - v / 10 * 10).toInt32).toInt = v.toInt % 10 := by
  have l10 : (10 : Int64).toInt = 10 := by simp only [Int64.reduceToInt]
  have m := zl_mn (x := v) rfl l10 h (by decide) (by decide)
  rw [zl_i32 (by omega) (by omega), m]
theorem nmV {x2 x3 : Int32} (h0 : 0 ≤ x2.toInt) (h1 : x2.toInt ≤ 99999999) (h2 : 0 ≤ x3.toInt) (h3 : x3.toInt ≤ 999999999) : (1000000000 * x2.toInt64 + x3.toInt64).toInt = x2.toInt * 1000000000 + x3.toInt := by
  have l9 : (1000000000 : Int64).toInt = 1000000000 := by simp only [Int64.reduceToInt]
  have a : (1000000000 * x2.toInt64).toInt = 1000000000 * x2.toInt := by rw [zl_mul1 (by rw [l9, zi64]; omega) (by rw [l9, zi64]; omega), l9, zi64]
  rw [zl_add1 (by rw [a, zi64]; omega) (by rw [a, zi64]; omega), a, zi64]
  omega
