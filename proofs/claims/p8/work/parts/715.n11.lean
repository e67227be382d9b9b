/-- what rounding leaves of a row's first k digits -/
def rdR (g : Nat → Int32) (k : Int) : Int := if k < 0 then 0 else dV g k.toNat + (if 5 ≤ (g k.toNat).toInt then 1 else 0)
theorem rK_i0 {g : Nat → Int32} {k n u kk : Int} (hk : k < 0) (hn : n = 0) (hu : u = 0) (hkk : kk = -1) : rK g u kk n (rdR g k) := by
  subst hn; subst hkk
  refine ⟨by omega, fun j hj => absurd hj (Nat.not_lt_zero _), Or.inl ⟨hu, ?_, Or.inl rfl⟩⟩
  unfold rdR; rw [if_pos hk]; rfl
theorem rK_i1 {g : Nat → Int32} {x : Int32} {m n u kk : Int} (hd : dD g m.toNat) (hl : m = 0 ∨ ¬ (g 0).toInt = 0) (h0 : 0 ≤ x.toInt) (hm : x.toInt < m) (h4 : m ≤ 400) (hn : n = x.toInt) (hkk : kk = n - 1) (hu : (u = 0 ∧ (g x.toNatClampNeg).toInt < 5) ∨ (¬ u = 0 ∧ ¬ (g x.toNatClampNeg).toInt < 5)) : rK g u kk n (rdR g x.toInt) := by
  subst hn; subst hkk
  rw [zcl] at hu
  refine ⟨by omega, dD_le hd (by omega), ?_⟩
  unfold rdR
  rw [if_neg (by omega)]
  rcases hu with ⟨a, b⟩ | ⟨a, b⟩
  · exact Or.inl ⟨a, by rw [if_neg (by omega)]; omega, Or.inr (hl.resolve_left (by omega))⟩
  · refine Or.inr ⟨a, fun j h1 h2 => by omega, ?_, fun _ => hl.resolve_left (by omega)⟩
    rw [if_pos (by omega), show (x.toInt - 1 + 1).toNat = x.toInt.toNat by omega, show (x.toInt - 1 - (x.toInt - 1)).toNat = 0 by omega]
    show _ * 1 = _
    exact Int.mul_one _
theorem rdR_n {g : Nat → Int32} {k : Int} (h : k < 0) : rdR g k = 0 := by unfold rdR; rw [if_pos h]
theorem rK_no2 {g g0 : Nat → Int32} {u k n m t d q : Int} (h : rK g u k n (rdR g0 q)) (hu : u = 0) (hm : m = n) (hq : q = t + d) (ht : t + d = n ∨ (n = 0 ∧ t + d < 0)) : rT g m t (rdR g0 q) d :=
  rK_no h hu hm (ht.imp id (fun c => ⟨c.1, rdR_n (by omega)⟩))
