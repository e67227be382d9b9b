/-! the denominator, with what it lacks -/
def lacl (M : Nat → Int32) (c : Int) (i : Nat) : Nat → List Int
  | 0 => []
  | n + 1 => (if (M i).toInt = c then [if c = 63 then 32 else c] else []) ++ lacl M c (i + 1) n
def lac (M : Nat → Int32) (c x e : Int) : List Int := lacl M c x.toNat (e - x).toNat
theorem lac_s {M : Nat → Int32} {c x y e : Int} (h0 : 0 ≤ x) (h : ¬ e ≤ x) (hy : y = x + 1) : lac M c x e = (if (M x.toNat).toInt = c then [if c = 63 then 32 else c] else []) ++ lac M c y e := by
  subst hy
  unfold lac
  rw [show (e - x).toNat = (e - (x + 1)).toNat + 1 by omega, show (x + 1).toNat = x.toNat + 1 by omega]; rfl
theorem lac_x {M : Nat → Int32} {c x e : Int} (h : e ≤ x) : lac M c x e = [] := by unfold lac; rw [show (e - x).toNat = 0 by omega]; rfl
theorem lac_1 {M : Nat → Int32} {c x y e r : Int} (h0 : 0 ≤ x) (h : ¬ e ≤ x) (hr : r = (M x.toNat).toInt) (hc : r = c) (h6 : ¬ c = 63) (hy : y = x + 1) : lac M c x e = [c] ++ lac M c y e := by rw [lac_s h0 h hy, if_pos (by omega), if_neg h6]
theorem lac_2 {M : Nat → Int32} {c x y e r : Int} (h0 : 0 ≤ x) (h : ¬ e ≤ x) (hr : r = (M x.toNat).toInt) (hc : r = c) (h6 : c = 63) (hy : y = x + 1) : lac M c x e = [32] ++ lac M c y e := by rw [lac_s h0 h hy, if_pos (by omega), if_pos h6]
theorem lac_0 {M : Nat → Int32} {c x y e r : Int} (h0 : 0 ≤ x) (h : ¬ e ≤ x) (hr : r = (M x.toNat).toInt) (hc : ¬ r = c) (hy : y = x + 1) : lac M c x e = lac M c y e := by rw [lac_s h0 h hy, if_neg (by omega)]; rfl
def uO (M : Nat → Int32) (x dn u : Int) : List Int := lac M 48 x (x + (dn - nd3 u)) ++ fig u 1 ++ lac M 63 x (x + (dn - nd3 u))
theorem dgs_nd3 {u r : Int} (h : dgs u r) (h0 : 1 ≤ u) (h1 : u ≤ 999) : r = nd3 u ∧ 1 ≤ nd3 u ∧ nd3 u ≤ 3 := by
  have d := dnc_i (H := u) (z := 0) (n := r) (by omega) (by omega) (by decide) h
  rw [Int.add_zero, show u * 10 ^ (0 : Int).toNat = u from Int.mul_one u] at d
  refine ⟨nd3_v d (by omega) h1, ?_⟩
  unfold nd3
  (repeat' split) <;> omega
theorem uO_i {M : Nat → Int32} {x dn u e f : Int} (he : e = x + (dn - nd3 u)) (hf : f = x + (dn - nd3 u)) : lac M 48 x e ++ fig u 1 ++ lac M 63 x f = uO M x dn u := by subst he; subst hf; rfl
