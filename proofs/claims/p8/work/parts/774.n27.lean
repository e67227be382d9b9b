/-! fractions: the nearest one -/
theorem frB {r d : Int} (h0 : 0 ≤ r) (h1 : r ≤ 1000000000000000) (h2 : 0 ≤ d) (h3 : d ≤ 999) : 0 ≤ r * d ∧ r * d ≤ 999000000000000000 := by
  refine ⟨Int.mul_nonneg h0 h2, ?_⟩
  calc r * d ≤ 1000000000000000 * d := Int.mul_le_mul_of_nonneg_right h1 h2
    _ ≤ 1000000000000000 * 999 := Int.mul_le_mul_of_nonneg_left h3 (by decide)
theorem frM {a b : Int64} (h0 : 0 ≤ a.toInt) (h1 : a.toInt ≤ 1000000000000000) (h2 : 0 ≤ b.toInt) (h3 : b.toInt ≤ 999) : (a * b).toInt = a.toInt * b.toInt := by
  have := frB h0 h1 h2 h3
  exact zl_mul1 (by omega) (by omega)
def frN (r d : Int) : Int := if 2 * (r * d % 1000000000000000) ≤ 1000000000000000 then r * d / 1000000000000000 else r * d / 1000000000000000 + 1
def frD (r d : Int) : Int := if 2 * (r * d % 1000000000000000) ≤ 1000000000000000 then r * d % 1000000000000000 else 1000000000000000 - r * d % 1000000000000000
def frf (r d : Int) (s : Int × Int × Int) : Int × Int × Int := if s.2.1 = 0 ∨ frD r d * s.2.1 < s.2.2 * d then (frN r d, d, frD r d) else s
def jst (J : Nat → Int64) : Int × Int × Int := ((J 2).toInt, (J 3).toInt, (J 4).toInt)
theorem frD_b {r d : Int} : 0 ≤ frD r d ∧ frD r d ≤ 1000000000000000 := by unfold frD; split <;> omega
theorem frf_y {J0 : Nat → Int64} {a b c : Int64} {r d : Int} (ha : a.toInt = frN r d) (hb : b.toInt = d) (hc : c.toInt = frD r d) (h : (J0 3).toInt = 0 ∨ frD r d * (J0 3).toInt < (J0 4).toInt * d) : jst (zul (zul (zul J0 2 a) 3 b) 4 c) = frf r d (jst J0) := by
  unfold frf
  rw [if_pos (show (jst J0).2.1 = 0 ∨ frD r d * (jst J0).2.1 < (jst J0).2.2 * d from h), ← ha, ← hc, ← hb]; rfl
theorem frf_n {J0 : Nat → Int64} {r d : Int} (h : ¬ (J0 3).toInt = 0) (h2 : ¬ frD r d * (J0 3).toInt < (J0 4).toInt * d) : jst J0 = frf r d (jst J0) := by
  unfold frf
  rw [if_neg (show ¬ ((jst J0).2.1 = 0 ∨ frD r d * (jst J0).2.1 < (jst J0).2.2 * d) from fun c => c.elim h h2)]
theorem frv {r : Int64} {x : Int64} (h0 : 0 ≤ r.toInt) (h1 : r.toInt ≤ 1000000000000000) (h2 : 0 ≤ x.toInt) (h3 : x.toInt ≤ 999) : ((r * x) / 1000000000000000).toInt = r.toInt * x.toInt / 1000000000000000 ∧ ((r * x) - (r * x) / 1000000000000000 * 1000000000000000).toInt = r.toInt * x.toInt % 1000000000000000 ∧ (0 ≤ r.toInt * x.toInt ∧ r.toInt * x.toInt ≤ 999000000000000000) := by
  have m := frM h0 h1 h2 h3
  have b := frB h0 h1 h2 h3
  refine ⟨?_, ?_, b⟩
  · rw [zl_divp (by omega) (by decide), m]; rfl
  · rw [zl_rem (by omega) (by decide) (by decide), m]; rfl
theorem frN_1 {r d : Int} (h : 2 * (r * d % 1000000000000000) ≤ 1000000000000000) : frN r d = r * d / 1000000000000000 ∧ frD r d = r * d % 1000000000000000 := by unfold frN frD; rw [if_pos h, if_pos h]; exact ⟨rfl, rfl⟩
theorem frN_2 {r d : Int} (h : ¬ 2 * (r * d % 1000000000000000) ≤ 1000000000000000) : frN r d = r * d / 1000000000000000 + 1 ∧ frD r d = 1000000000000000 - r * d % 1000000000000000 := by unfold frN frD; rw [if_neg h, if_neg h]; exact ⟨rfl, rfl⟩
/-- what holds of the state: a denominator up to 999, a gap up to a whole -/
def frO (s : Int × Int × Int) : Prop := 0 ≤ s.2.1 ∧ s.2.1 ≤ 999 ∧ 0 ≤ s.2.2 ∧ s.2.2 ≤ 1000000000000000
theorem frO_f {r d : Int} {s : Int × Int × Int} (h : frO s) (h1 : 1 ≤ d) (h2 : d ≤ 999) : frO (frf r d s) := by
  unfold frf
  split
  · have := frD_b (r := r) (d := d)
    exact ⟨by show 0 ≤ d; omega, h2, this.1, this.2⟩
  · exact h
theorem frO_j {J : Nat → Int64} (h : frO (jst J)) : 0 ≤ (J 3).toInt ∧ (J 3).toInt ≤ 999 ∧ 0 ≤ (J 4).toInt ∧ (J 4).toInt ≤ 1000000000000000 := h
/-- the best of the denominators 1 .. n -/
def frR (r : Int) : Nat → Int × Int × Int
  | 0 => (0, 0, 0)
  | k + 1 => frf r ((k : Int) + 1) (frR r k)
theorem frO_R {r : Int} : ∀ k : Nat, k ≤ 999 → frO (frR r k)
  | 0, _ => by show (0 : Int) ≤ 0 ∧ (0 : Int) ≤ 999 ∧ (0 : Int) ≤ 0 ∧ (0 : Int) ≤ 1000000000000000; decide
  | k + 1, h => frO_f (frO_R k (by omega)) (by omega) (by omega)
theorem jst_0 {J0 : Nat → Int64} : jst (zul (zul (zul J0 2 0) 3 0) 4 0) = (0, 0, 0) := rfl
def fFx (s : Int × Int × Int) : Int × Int × Int := if s.2.1 = 0 then (s.1, 1, s.2.2) else s
theorem fFx_1 {J : Nat → Int64} {s : Int × Int × Int} (h : jst J = s) (h3 : (J 3).toInt = 0) : jst (zul J 3 1) = fFx s := by
  subst h
  unfold fFx
  rw [if_pos (show (jst J).2.1 = 0 from h3)]; rfl
theorem fFx_0 {J : Nat → Int64} {s : Int × Int × Int} (h : jst J = s) (h3 : ¬ (J 3).toInt = 0) : jst J = fFx s := by
  subst h
  unfold fFx
  rw [if_neg (show ¬ (jst J).2.1 = 0 from h3)]
/-- the nearest fraction: a given denominator, or the best of all with so many places -/
def frE (r gv pl : Int) : Int × Int × Int := if 0 < gv then frf r gv (0, 0, 0) else fFx (frR r (10 ^ pl.toNat - 1 : Int).toNat)
theorem frR_s {J G : Nat → Int64} {r x y : Int} (h : jst J = frR r (x - 1).toNat) (hx : 1 ≤ x) (hg : jst G = frf r x (jst J)) (hy : y = x + 1) : jst G = frR r (y - 1).toNat := by
  rw [hg, h, show (y - 1).toNat = (x - 1).toNat + 1 by omega]
  show frf r x (frR r (x - 1).toNat) = frf r (((x - 1).toNat : Int) + 1) (frR r (x - 1).toNat)
  rw [show (((x - 1).toNat : Nat) : Int) + 1 = x by omega]
theorem frE_1 {J : Nat → Int64} {r gv pl : Int} (hg : 0 < gv) (h : jst J = frf r gv (0, 0, 0)) : jst J = frE r gv pl := by unfold frE; rw [if_pos hg]; exact h
theorem frE_2 {G : Nat → Int64} {r gv pl x m : Int} {s : Int × Int × Int} (hg : ¬ 0 < gv) (hs : s = frR r (x - 1).toNat) (hx : x = m + 1) (hm : m = 10 ^ pl.toNat - 1) (h : jst G = fFx s) : jst G = frE r gv pl := by
  unfold frE; rw [if_neg hg, h, hs, show x - 1 = m by omega, hm]
theorem fr_p0 {J0 : Nat → Int64} {r x : Int} (h : 0 ≤ r ∧ r ≤ 1000000000000000 ∧ 1 ≤ x ∧ x ≤ 999) : (0 ≤ r ∧ r ≤ 1000000000000000 ∧ 1 ≤ x ∧ x ≤ 999) ∧ 0 ≤ ((zul (zul (zul J0 2 0) 3 0) 4 0) 3).toInt ∧ ((zul (zul (zul J0 2 0) 3 0) 4 0) 3).toInt ≤ 999 ∧ 0 ≤ ((zul (zul (zul J0 2 0) 3 0) 4 0) 4).toInt ∧ ((zul (zul (zul J0 2 0) 3 0) 4 0) 4).toInt ≤ 1000000000000000 := by
  refine ⟨h, ?_⟩
  show (0 : Int) ≤ 0 ∧ (0 : Int) ≤ 999 ∧ (0 : Int) ≤ 0 ∧ (0 : Int) ≤ 1000000000000000
  decide
theorem fr_g {J0 G : Nat → Int64} {r gv pl : Int} (hg : 0 < gv) (h : jst G = frf r gv (jst (zul (zul (zul J0 2 0) 3 0) 4 0))) : jst G = frE r gv pl := frE_1 hg h
theorem fr_i {J0 : Nat → Int64} {r : Int} {z : Int} (hz : z = 1) : jst (zul (zul (zul J0 2 0) 3 0) 4 0) = frR r (z - 1).toNat := by subst hz; rfl
/-! a number's whole part and the rest in parts of 10^15 -/
def spW (v s : Int) : Int := if s < 0 then v / 10 ^ (-s).toNat else v * 10 ^ s.toNat
def spR (v s : Int) : Int := if s < 0 then rdM (v % 10 ^ (-s).toNat) s 15 else 0
theorem v17 {v : Int} {b : Nat} (h0 : 0 ≤ v) (h1 : v < 100000000000000000) (hb : 17 < b) : v / 10 ^ b = 0 ∧ v % 10 ^ b = v := by
  have e : (10 : Int) ^ 17 = 100000000000000000 := by decide
  have := p10_le (show 17 ≤ b by omega)
  exact ⟨Int.ediv_eq_zero_of_lt h0 (by omega), Int.emod_eq_of_lt h0 (by omega)⟩
theorem spR_1 {v s : Int} {b x : Int} {r : Int} (hs : s < 0) (hx : x = -s) (hb : b = v % 10 ^ (-s).toNat) (h : (x - 15 ≤ 0 ∧ r = b) ∨ (17 < x - 15 ∧ r = 0) ∨ ((1 ≤ x - 15 ∧ x - 15 ≤ 17) ∧ r = rnd b (x - 15 - 1).toNat)) (hc : 15 < x) : r = spR v s := by
  unfold spR rdM
  rw [if_pos hs, if_neg (by omega), ← hb]
  split
  · omega
  · rw [show (-s - 15 - 1).toNat = (x - 15 - 1).toNat by omega]; omega
theorem spR_2 {v s : Int} {b x q r : Int} (hs : s < 0) (hx : x = -s) (hb : b = v % 10 ^ (-s).toNat) (hq : q = 10 ^ (15 - x).toNat) (hr : r = b * q) (hc : ¬ 15 < x) : r = spR v s := by
  unfold spR rdM
  rw [if_pos hs, if_pos (by omega), ← hb, hr, hq, show (15 - x).toNat = (s + 15).toNat by omega]
theorem rd_15 {v : Int} {b : Nat} (h0 : 0 ≤ v) : 0 ≤ v % 10 ^ b ∧ v % 10 ^ b < 10 ^ b := ⟨Int.emod_nonneg _ (by have := p10 b; omega), Int.emod_lt_of_pos _ (p10 b)⟩
