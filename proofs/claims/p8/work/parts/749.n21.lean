/-! powers: the largest one that whole places can hold -/
def pW (z : Int) : Int := if z < 1 then 1 else z
def pE (c p w : Int) : Int := if c ≤ 0 then 0 else (p - 1) / w * w
def pF (c p w n d : Int) : Int := if w < n - d then pE c p w + w else pE c p w
theorem pE_b {c p w : Int} (hw : 1 ≤ w) : (c ≤ 0 ∧ pE c p w = 0) ∨ (0 < c ∧ p - 1 - w < pE c p w ∧ pE c p w ≤ p - 1) := by
  unfold pE
  have m := zmw (m := p - 1) hw
  split
  · exact Or.inl ⟨by omega, rfl⟩
  · exact Or.inr ⟨by omega, by omega, by omega⟩
theorem fl_n {t w : Int} (hw : 1 ≤ w) : -((w - 1 - t) / w) = t / w := by
  have m := zmw (m := t) hw
  have e : w - 1 - t = (w - 1 - t % w) + w * (-(t / w)) := by
    have : w * (-(t / w)) = -(t / w * w) := by rw [Int.mul_neg, Int.mul_comm]
    omega
  rw [e, Int.add_mul_ediv_left _ _ (by omega), Int.ediv_eq_zero_of_lt (by omega) (by omega)]
  omega
theorem pE_1 {c p w : Int} {P X : Int32} (hP : P.toInt = p) (hX : X.toInt = w) (hc : ¬ c ≤ 0) (hw : 1 ≤ w) (hw2 : w ≤ 64) (hp : -400 ≤ p ∧ p ≤ 400) (ht : ¬ p - 1 < 0) : ((P - 1) / X * X).toInt = pE c p w := by
  have e1 : (P - 1).toInt = p - 1 := by rw [zsub1] <;> simp only [Int32.reduceToInt] <;> omega
  have e2 : ((P - 1) / X).toInt = (p - 1) / w := by rw [zdivp (by omega) (by omega), e1, hX]
  have m := zmw (m := p - 1) hw
  unfold pE
  rw [if_neg hc, zmul1 (by rw [e2, hX]; omega) (by rw [e2, hX]; omega), e2, hX]
theorem pE_2 {c p w : Int} {P X : Int32} (hP : P.toInt = p) (hX : X.toInt = w) (hc : ¬ c ≤ 0) (hw : 1 ≤ w) (hw2 : w ≤ 64) (hp : -400 ≤ p ∧ p ≤ 400) (ht : p - 1 < 0) : ((-(((X - 1) - (P - 1)) / X)) * X).toInt = pE c p w := by
  have e1 : (P - 1).toInt = p - 1 := by rw [zsub1] <;> simp only [Int32.reduceToInt] <;> omega
  have e0 : (X - 1).toInt = w - 1 := by rw [zsub1] <;> simp only [Int32.reduceToInt] <;> omega
  have e3 : ((X - 1) - (P - 1)).toInt = w - 1 - (p - 1) := by rw [zsub1] <;> rw [e0, e1] <;> omega
  have e2 : (((X - 1) - (P - 1)) / X).toInt = (w - 1 - (p - 1)) / w := by rw [zdivp (by omega) (by omega), e3, hX]
  have f := fl_n (t := p - 1) hw
  have m := zmw (m := p - 1) hw
  have e4 : (-(((X - 1) - (P - 1)) / X)).toInt = (p - 1) / w := by
    have b1 : 0 ≤ (w - 1 - (p - 1)) / w := Int.ediv_nonneg (by omega) (by omega)
    have b2 : (w - 1 - (p - 1)) / w ≤ w - 1 - (p - 1) := Int.ediv_le_self _ (by omega)
    rw [zneg1 (by rw [e2]; omega), e2, f]
  unfold pE
  rw [if_neg hc, zmul1 (by rw [e4, hX]; omega) (by rw [e4, hX]; omega), e4, hX]
theorem pE_0 {c p w : Int} (hc : c ≤ 0) : (0 : Int32).toInt = pE c p w := by unfold pE; rw [if_pos hc]; rfl
theorem pF_t {g : Nat → Int32} {m t M d n w : Int} (h : rF g m t M d) (hn : dnc M n) (hw : 1 ≤ w) : (w < n - d ↔ w < t) := by
  have hd := h.1.2.2.2.2
  rcases rF_n h with ⟨a, b, c⟩ | ⟨a, b, c⟩
  · have : n = 0 := by rcases hn with ⟨_, q⟩ | ⟨q, _⟩ <;> omega
    omega
  · have e := dnc_det hn c
    omega
theorem pF_1 {g : Nat → Int32} {m t M d n w c p : Int} (h : rF g m t M d) (hn : dnc M n) (hw : 1 ≤ w) (ht : t ≤ w) : pF c p w n d = pE c p w := by
  unfold pF; rw [if_neg (fun q => by have := (pF_t h hn hw).1 q; omega)]
theorem pF_2 {g : Nat → Int32} {m t M d n w c p : Int} (h : rF g m t M d) (hn : dnc M n) (hw : 1 ≤ w) (ht : ¬ t ≤ w) : pF c p w n d = pE c p w + w := by
  unfold pF; rw [if_pos ((pF_t h hn hw).2 (by omega))]
theorem pw_1 {f g : Nat → Int32} {k k2 m t d n n0 w c p b V : Int} {h : Nat → Int32} {L : List (Int × Int)} (hF : rF g m t (rdM V (p + -(pE c p w) - c) d) d) (hn0 : dnc (rdM V (p + -(pE c p w) - c) d) n0) (hw : 1 ≤ w) (ht : t ≤ w) (hA : pR f k h k2 (sgn b m ++ nRT (rwD g t m) (rwW t) (pE c p w) L)) (hn : dnc (rdM V (p + -(pF c p w n0 d) - c) d) n) : pR f k h k2 (nLk (rdM V (p + -(pF c p w n0 d) - c) d) n d (pF c p w n0 d) b L) := by
  rw [pF_1 hF hn0 hw ht] at hn ⊢
  exact pR_e hA (nLk_i hF hn) rfl
theorem pw_2 {f g g0 : Nat → Int32} {k k2 m t m0 t0 d n n0 w c p b V : Int} {h : Nat → Int32} {L : List (Int × Int)} (hF0 : rF g0 m0 t0 (rdM V (p + -(pE c p w) - c) d) d) (hn0 : dnc (rdM V (p + -(pE c p w) - c) d) n0) (hw : 1 ≤ w) (ht : ¬ t0 ≤ w) (hF : rF g m t (rdM V (p + -(pE c p w + w) - c) d) d) (hA : pR f k h k2 (sgn b m ++ nRT (rwD g t m) (rwW t) (pE c p w + w) L)) (hn : dnc (rdM V (p + -(pF c p w n0 d) - c) d) n) : pR f k h k2 (nLk (rdM V (p + -(pF c p w n0 d) - c) d) n d (pF c p w n0 d) b L) := by
  rw [pF_2 hF0 hn0 hw ht] at hn ⊢
  exact pR_e hA (nLk_i hF hn) rfl
theorem pW_1 {r : Int32} {z : Int} (e : r.toInt = z) (h : 1 ≤ r.toInt) : r.toInt = pW z := by unfold pW; rw [if_neg (by omega), e]
theorem pW_0 {z r : Int} (e : r = z) (h : ¬ 1 ≤ r) : (1 : Int32).toInt = pW z := by unfold pW; rw [if_pos (by omega)]; rfl
theorem pW_b {r z : Int} (h : r = z ∧ 0 ≤ r ∧ r ≤ 64) : 1 ≤ pW z ∧ pW z ≤ 64 := by unfold pW; split <;> omega
