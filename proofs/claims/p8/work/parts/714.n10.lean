/-! rounding in the reference's row -/
def rT (g : Nat → Int32) (m t M d : Int) : Prop := (0 ≤ m ∧ m ≤ 420 ∧ (m ≤ t + d ∨ m = 0)) ∧ dD g m.toNat ∧ dV g m.toNat * 10 ^ (t + d - m).toNat = M ∧ (m = 0 ∨ ¬ (g 0).toInt = 0)
def rP (g : Nat → Int32) (m t M d : Int) : Prop := (m = 0 ∧ t = 0 ∧ M = 0) ∨ ((1 ≤ m ∧ m ≤ 420 ∧ m ≤ t + d) ∧ dD g m.toNat ∧ ¬ (g (m - 1).toNat).toInt = 0 ∧ dV g m.toNat * 10 ^ (t + d - m).toNat = M ∧ ¬ (g 0).toInt = 0)
theorem rT_b {g : Nat → Int32} {m t M d : Int} (h : rT g m t M d) : 0 ≤ m ∧ m ≤ 420 := ⟨h.1.1, h.1.2.1⟩
theorem rT_0 {g : Nat → Int32} {m t M d m2 t2 : Int} (h : rT g m t M d) (hm : m ≤ 0) (h1 : m2 = m) (h2 : t2 = 0) : rP g m2 t2 M d := by
  obtain ⟨⟨a, _⟩, _, c, _⟩ := h
  have e : m = 0 := by omega
  subst e; subst h1; subst h2
  refine Or.inl ⟨rfl, rfl, ?_⟩
  rw [← c]; show (0 : Int) * _ = 0; exact Int.zero_mul _
theorem rT_x {g : Nat → Int32} {x : Int32} {m t M d m2 t2 : Int} (h : rT g m t M d) (hx : x.toInt = m - 1) (hm : ¬ m ≤ 0) (hz : ¬ (g x.toNatClampNeg).toInt = 0) (h1 : m2 = m) (h2 : t2 = t) : rP g m2 t2 M d := by
  obtain ⟨⟨a, b, b2⟩, dd, c, ld⟩ := h
  subst h1; subst h2
  rw [zcl, hx] at hz
  exact Or.inr ⟨⟨by omega, b, by omega⟩, dd, hz, c, ld.resolve_left (by omega)⟩
theorem rT_st {g : Nat → Int32} {x : Int32} {m t M d m2 t2 : Int} (h : rT g m t M d) (hx : x.toInt = m - 1) (hm : ¬ m ≤ 0) (hz : (g x.toNatClampNeg).toInt = 0) (h1 : m2 = m - 1) (h2 : t2 = t) : rT g m2 t2 M d := by
  obtain ⟨⟨a, b, b2⟩, dd, c, ld⟩ := h
  subst h1; subst h2
  rw [zcl, hx] at hz
  refine ⟨⟨by omega, by omega, by omega⟩, dD_le dd (by omega), ?_, Or.inr (ld.resolve_left (by omega))⟩
  rw [← c, show m.toNat = (m - 1).toNat + 1 by omega, show (t2 + d - (m - 1)).toNat = (t2 + d - m).toNat + 1 by omega]
  show dV g (m - 1).toNat * 10 ^ ((t2 + d - m).toNat + 1) = (10 * dV g (m - 1).toNat + (g (m - 1).toNat).toInt) * 10 ^ (t2 + d - m).toNat
  rw [hz, Int.add_zero, Int.pow_succ, Int.mul_comm 10, Int.mul_assoc, Int.mul_comm 10]
/-- the carry -/
def rK (g : Nat → Int32) (u k n M : Int) : Prop := (0 ≤ n ∧ n ≤ 419 ∧ -1 ≤ k ∧ k < n) ∧ dD g n.toNat ∧ ((u = 0 ∧ dV g n.toNat = M ∧ (n = 0 ∨ ¬ (g 0).toInt = 0)) ∨ (¬ u = 0 ∧ dz0 g (k + 1).toNat n.toNat ∧ (dV g (k + 1).toNat + 1) * 10 ^ (n - 1 - k).toNat = M ∧ (0 ≤ k → ¬ (g 0).toInt = 0)))
theorem rK_b {g : Nat → Int32} {u k n M : Int} (h : rK g u k n M) : 0 ≤ n ∧ n ≤ 419 ∧ -1 ≤ k ∧ k < n := h.1
theorem rK_st {g : Nat → Int32} {x : Int32} {u n M k2 : Int} (h : rK g u x.toInt n M) (hu : ¬ u = 0) (hx : 0 ≤ x.toInt) (h9 : (g x.toNatClampNeg).toInt = 9) (hk : k2 = x.toInt - 1) : rK (upd g x.toNatClampNeg 0) u k2 n M := by
  obtain ⟨⟨a, a2, b, b2⟩, dd, c⟩ := h
  rw [zcl] at h9 ⊢
  subst hk
  refine ⟨⟨a, a2, by omega, by omega⟩, fun j hj => ?_, Or.inr ⟨hu, fun j h0 h1 => ?_, ?_, fun hk0 => ?_⟩⟩
  · by_cases e : j = x.toInt.toNat
    · subst e; rw [pk_us]; decide
    · rw [pk_un e]; exact dd j hj
  · by_cases e : j = x.toInt.toNat
    · subst e; rw [pk_us]; rfl
    · rw [pk_un e]
      rcases c with ⟨c, _⟩ | ⟨_, c, _, _⟩
      · exact absurd c hu
      · exact c j (by omega) h1
  · rcases c with ⟨c, _⟩ | ⟨_, _, c, _⟩
    · exact absurd c hu
    · rw [← c, show (x.toInt - 1 + 1).toNat = x.toInt.toNat by omega, show (x.toInt + 1).toNat = x.toInt.toNat + 1 by omega, dV_nine h9, dV_upd _ _ (Nat.le_refl _), show (n - 1 - (x.toInt - 1)).toNat = (n - 1 - x.toInt).toNat + 1 by omega, Int.pow_succ, Int.mul_comm 10, Int.mul_assoc, Int.mul_comm 10]
  · rcases c with ⟨c, _⟩ | ⟨_, _, _, ld⟩
    · exact absurd c hu
    · rw [pk_un (show 0 ≠ x.toInt.toNat by omega)]; exact ld (by omega)
theorem rK_no {g : Nat → Int32} {u k n M m t d : Int} (h : rK g u k n M) (hu : u = 0) (hm : m = n) (ht : t + d = n ∨ (n = 0 ∧ M = 0)) : rT g m t M d := by
  obtain ⟨⟨a, a2, b, b2⟩, dd, c⟩ := h
  subst hm
  rcases c with ⟨_, c, ld⟩ | ⟨c, _⟩
  · refine ⟨⟨a, by omega, by omega⟩, dd, ?_, ld⟩
    rcases ht with ht | ⟨h0, hM⟩
    · rw [ht, show (m - m).toNat = 0 by omega, c]; show M * 1 = M; exact Int.mul_one M
    · subst h0; rw [hM]; show (0 : Int) * _ = 0; exact Int.zero_mul _
  · exact absurd hu c
theorem rK_up {g : Nat → Int32} {x : Int32} {u n M m t d : Int} (h : rK g u x.toInt n M) (hu : ¬ u = 0) (hx : 0 ≤ x.toInt) (h9 : ¬ (g x.toNatClampNeg).toInt = 9) (hm : m = n) (ht : t + d = n) : rT (upd g x.toNatClampNeg ((g x.toNatClampNeg) + 1)) m t M d := by
  obtain ⟨⟨a, a2, b, b2⟩, dd, c⟩ := h
  rw [zcl] at h9 ⊢
  subst hm
  have hd := dd x.toInt.toNat (by omega)
  have hv : ((g x.toInt.toNat) + 1).toInt = (g x.toInt.toNat).toInt + 1 := zadd1 (by simp only [Int32.reduceToInt]; omega) (by simp only [Int32.reduceToInt]; omega)
  refine ⟨⟨a, by omega, by omega⟩, fun j hj => ?_, ?_, Or.inr ?_⟩
  · by_cases e : j = x.toInt.toNat
    · subst e; rw [pk_us, hv]; omega
    · rw [pk_un e]; exact dd j hj
  · rcases c with ⟨c, _⟩ | ⟨_, c, cM, _⟩
    · exact absurd c hu
    · rw [ht, show (m - m).toNat = 0 by omega]
      show dV _ m.toNat * 1 = M
      rw [Int.mul_one, ← cM, show m.toNat = x.toInt.toNat + 1 + (m - 1 - x.toInt).toNat by omega]
      rw [show (x.toInt + 1).toNat = x.toInt.toNat + 1 by omega] at c ⊢
      exact dV_car (by rw [show x.toInt.toNat + 1 + (m - 1 - x.toInt).toNat = m.toNat by omega]; exact c) hv
  · rcases c with ⟨c, _⟩ | ⟨_, _, _, ld⟩
    · exact absurd c hu
    · by_cases e : 0 = x.toInt.toNat
      · rw [← e] at hv hd ⊢; rw [pk_us, hv]; omega
      · rw [pk_un e]; exact ld hx
/-- all nines: one and zeros -/
def rA (g : Nat → Int32) (x n M : Int) : Prop := (0 ≤ n ∧ n ≤ 418 ∧ 0 ≤ x ∧ x ≤ n) ∧ (∀ j : Nat, (j : Int) < n → (g j).toInt = 0) ∧ (x < n → (g n.toNat).toInt = 0) ∧ M = 10 ^ n.toNat
theorem rA_b {g : Nat → Int32} {x n M : Int} (h : rA g x n M) : 0 ≤ n ∧ n ≤ 418 ∧ 0 ≤ x ∧ x ≤ n := h.1
theorem rA_0 {g : Nat → Int32} {u k n M x : Int} (h : rK g u k n M) (hu : ¬ u = 0) (hk : k < 0) (hn : n ≤ 418) (hx : x = n) : rA g x n M := by
  obtain ⟨⟨a, a2, b, b2⟩, dd, c⟩ := h
  have e : k = -1 := by omega
  subst e
  rcases c with ⟨c, _⟩ | ⟨_, c, cM, _⟩
  · exact absurd c hu
  · refine ⟨by omega, fun j hj => c j (by omega) (by omega), fun q => by omega, ?_⟩
    rw [← cM, show (n - 1 - -1).toNat = n.toNat by omega]
    show (0 + 1) * (10 : Int) ^ n.toNat = _
    rw [Int.zero_add, Int.one_mul]
theorem rA_st {g : Nat → Int32} {x y : Int32} {n M x2 : Int} (h : rA g x.toInt n M) (hx : ¬ x.toInt ≤ 0) (hy : y.toInt = x.toInt - 1) (h2 : x2 = x.toInt - 1) : rA (upd g x.toNatClampNeg (g y.toNatClampNeg)) x2 n M := by
  obtain ⟨⟨a, a2, b, b2⟩, z, zn, c⟩ := h
  subst h2
  have hz : (g y.toNatClampNeg).toInt = 0 := z _ (by rw [zcl]; omega)
  refine ⟨by omega, fun j hj => ?_, fun q => ?_, c⟩
  · by_cases e : j = x.toNatClampNeg
    · subst e; rw [pk_us]; exact hz
    · rw [pk_un e]; exact z j hj
  · by_cases e : n.toNat = x.toNatClampNeg
    · rw [e, pk_us]; exact hz
    · rw [pk_un e]; exact zn (by rw [zcl] at e; omega)
theorem rA_T {g : Nat → Int32} {x n M m t d : Int} (h : rA g x n M) (hx : x ≤ 0) (hm : m = n + 1) (ht : t + d = n + 1) : rT (upd g (0 : Int32).toNatClampNeg 1) m t M d := by
  obtain ⟨⟨a, a2, b, b2⟩, z, zn, c⟩ := h
  subst hm
  have zz : ∀ j : Nat, 1 ≤ j → j < 1 + n.toNat → (upd g (0 : Int32).toNatClampNeg 1 j).toInt = 0 := fun j h1 h2 => by
    rw [pk_un (show j ≠ (0 : Int32).toNatClampNeg by show j ≠ 0; omega)]
    by_cases e : j = n.toNat
    · rw [e]; exact zn (by omega)
    · exact z j (by omega)
  refine ⟨by omega, fun j hj => ?_, ?_, Or.inr (by rw [show (0 : Int32).toNatClampNeg = 0 from rfl, pk_us]; decide)⟩
  · by_cases e : j = 0
    · subst e; show 0 ≤ (upd g 0 1 0).toInt ∧ _; rw [show (0 : Int32).toNatClampNeg = 0 from rfl, pk_us]; decide
    · rw [zz j (by omega) (by omega)]; decide
  · rw [ht, show (n + 1 - (n + 1)).toNat = 0 by omega, show (n + 1).toNat = 1 + n.toNat by omega, dV_z0 (k := 1) n.toNat zz, c]
    show (10 * 0 + (upd g 0 1 0).toInt) * 10 ^ n.toNat * 1 = _
    rw [pk_us]
    show (10 * 0 + 1) * (10 : Int) ^ n.toNat * 1 = _
    rw [Int.mul_one]
    show (1 : Int) * _ = _
    exact Int.one_mul _
