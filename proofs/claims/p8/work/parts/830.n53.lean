/-! the reference's time of a day -/
def pmA (a : Int) : List (Int × Int) → Int
  | [] => a
  | p :: r => pmA (if p.1 = 29 ∧ a < p.2 then p.2 else a) r
def sp29 (l : List (Int × Int)) : Prop := ∀ p ∈ l, ¬ p.1 = 29
theorem pmA_n {a : Int} {r : List (Int × Int)} : ∀ l : List (Int × Int), sp29 l → pmA a (l ++ r) = pmA a r
  | [], _ => rfl
  | p :: l, h => by
    show pmA (if p.1 = 29 ∧ a < p.2 then p.2 else a) (l ++ r) = _
    rw [if_neg (fun c => h p (List.mem_cons_self ..) c.1)]
    exact pmA_n l (fun q hq => h q (List.mem_cons_of_mem _ hq))
theorem s29_1 {k c : Int} (h : ¬ k = 29) : sp29 [(k, c)] := fun p hp => by
  rw [List.mem_singleton] at hp; subst hp; exact h
theorem s29_p {k : Int} {q : Int32} (h : ¬ k = 29) : ∀ n : Nat, sp29 (pkc k q n)
  | 0 => fun p hp => by cases hp
  | n + 1 => fun p hp => by
    rcases List.mem_cons.1 hp with e | e
    · subst e; exact h
    · exact s29_p h n p e
theorem s29_c {k c : Int} {l : List (Int × Int)} (h : ¬ k = 29) (hl : sp29 l) : sp29 ((k, c) :: l) := fun p hp => by
  rcases List.mem_cons.1 hp with e | e
  · subst e; exact h
  · exact hl p e
theorem rkR_29 {a : Int} : ¬ rkR a = 29 := by unfold rkR; (repeat' split) <;> omega
theorem rkA_29 {a : Int} : ¬ rkA a = 29 := by unfold rkA; (repeat' split) <;> omega
theorem rx_29 {k a b : Int} {q : Int32} (h : ¬ k = 15) : sp29 (rx k a b q) := by
  unfold rx
  by_cases h1 : k = 1
  · rw [if_pos h1]; exact s29_1 (by decide)
  rw [if_neg h1]
  by_cases h2 : k = 2
  · rw [if_pos h2]; exact s29_1 (by decide)
  rw [if_neg h2]
  by_cases h3 : k = 3
  · rw [if_pos h3]; exact s29_1 (by decide)
  rw [if_neg h3]
  by_cases h4 : k = 4
  · rw [if_pos h4]; exact s29_1 (by decide)
  rw [if_neg h4]
  by_cases h5 : k = 5
  · rw [if_pos h5]; exact s29_1 (by decide)
  rw [if_neg h5]
  by_cases h6 : k = 6
  · rw [if_pos h6]; exact s29_1 (by decide)
  rw [if_neg h6]
  by_cases h7 : k = 7
  · rw [if_pos h7]; exact s29_1 (by decide)
  rw [if_neg h7]
  by_cases h8 : k = 8
  · rw [if_pos h8]; exact s29_c (by decide) (s29_p (by decide) _)
  rw [if_neg h8]
  by_cases h9 : k = 9
  · rw [if_pos h9]; exact s29_1 (by decide)
  rw [if_neg h9]
  by_cases h10 : k = 10
  · rw [if_pos h10]; exact s29_c (by decide) (s29_p (by split <;> decide) _)
  rw [if_neg h10]
  by_cases h11 : k = 11
  · rw [if_pos h11]; exact s29_1 rkR_29
  rw [if_neg h11]
  by_cases h12 : k = 12
  · rw [if_pos h12]; exact s29_1 rkA_29
  rw [if_neg h12]
  by_cases h13 : k = 13
  · rw [if_pos h13]; exact s29_1 (by decide)
  rw [if_neg h13]
  by_cases h14 : k = 14
  · rw [if_pos h14]; exact s29_1 (by decide)
  rw [if_neg h14]
  rw [if_neg h]
  by_cases h16 : k = 16
  · rw [if_pos h16]; exact s29_1 (by decide)
  rw [if_neg h16]
  exact fun p hp => by cases hp
section
variable {K A B Q : Nat → Int32} {x : Int32} {a a2 e y T : Int}
theorem pm_n (h : pmA a (rs K A B Q x.toInt e) = T) (h0 : 0 ≤ x.toInt) (hx : ¬ e ≤ x.toInt) (hk : ¬ (K x.toNatClampNeg).toInt = 15) (hy : y = x.toInt + 1) : pmA a (rs K A B Q y e) = T := by
  rw [rs_s h0 (by omega) hy, pmA_n _ (rx_29 (show ¬ (K x.toInt.toNat).toInt = 15 from hk))] at h; exact h
theorem pm_15 (h : pmA a (rs K A B Q x.toInt e) = T) (h0 : 0 ≤ x.toInt) (hx : ¬ e ≤ x.toInt) (hk : (K x.toNatClampNeg).toInt = 15) (ha : ((A x.toNatClampNeg).toInt ≤ a ∧ a2 = a) ∨ (¬ (A x.toNatClampNeg).toInt ≤ a ∧ a2 = (A x.toNatClampNeg).toInt)) (hy : y = x.toInt + 1) : pmA a2 (rs K A B Q y e) = T := by
  rw [rs_s h0 (by omega) hy, show (K x.toInt.toNat).toInt = 15 from hk] at h
  have h : pmA (if (29 : Int) = 29 ∧ a < (A x.toInt.toNat).toInt then (A x.toInt.toNat).toInt else a) (rs K A B Q y e) = T := h
  rw [zcl] at ha
  rcases ha with ⟨p, q⟩ | ⟨p, q⟩
  · rw [if_neg (fun c => by omega)] at h; rw [q]; exact h
  · rw [if_pos ⟨rfl, by omega⟩] at h; rw [q]; exact h
theorem pm_x {z : Int} (h : pmA a (rs K A B Q z e) = T) (hx : e ≤ z) : a = T := by rw [rs_x hx] at h; exact h
end
/-- digits before the point taken in: x down to 0 are still to come -/
def fdI (g : Nat → Int32) (m t x v : Int) : Prop := v = spW (dV g m.toNat) (t - m - 1 - x)
theorem fdI_i {g h : Nat → Int32} {m t c p x v : Int} (hT : tkO g h m c t p) (hv : vO h c p) (hx : x = t - 1) (hv0 : v = 0) : fdI g m t x v := by
  have td := tk_d hv hT.2.2 hT.1
  have e1 := hT.1
  have e2 := hv.1
  unfold fdI spW
  rw [hv0, hx]
  by_cases c : t - m - 1 - (t - 1) < 0
  · rw [if_pos c]; exact (dV_big td.1 (by omega)).symm
  · have m0 : m = 0 := by omega
    rw [if_neg c, m0]; exact (Int.zero_mul _).symm
theorem fdI_s {g h : Nat → Int32} {m t c p x y v w r : Int} (hT : tkO g h m c t p) (hv : vO h c p) (H : fdI g m t x v) (hr : r = rwD g t m x) (hw : w = 10 * v + r) (hy : y = x - 1) : fdI g m t y w := by
  have td := tk_d hv hT.2.2 hT.1
  have e1 := hT.1
  have e2 := hv.1
  unfold fdI at H ⊢
  rw [hy, show t - m - 1 - (x - 1) = (t - m - 1 - x) + 1 by omega, spW_s, ← H, hw, hr, rw_dg td.1 (by omega), show -(t - m - 1 - x) - 1 = x - (t - m) by omega]
theorem tk_sW {g h : Nat → Int32} {m t c p : Int} (hT : tkO g h m c t p) (hv : vO h c p) : spW (dV g m.toNat) (t - m) = spW (dV h c.toNat) (p - c) := by
  have ev : dV g m.toNat = dV h c.toNat := by rw [hT.1]; exact dV_c _ (fun j hj => hT.2.2 j (by have := hv.1; omega))
  rw [ev]
  rcases hT.2.1 with ⟨a, b⟩ | ⟨a, b⟩
  · rw [a]; show spW 0 _ = spW 0 _; rw [spW_00, spW_00]
  · rw [hT.1, b]
theorem fdI_x {g h : Nat → Int32} {m t c p x v : Int} (hT : tkO g h m c t p) (hv : vO h c p) (H : fdI g m t x v) (hx : x < 0) (hx2 : -1 ≤ x ∨ (t ≤ 0 ∧ x = t - 1)) : v = spW (dV h c.toNat) (p - c) := by
  rw [← tk_sW hT hv]
  have td := tk_d hv hT.2.2 hT.1
  have e1 := hT.1
  have e2 := hv.1
  unfold fdI at H
  by_cases q : x = -1
  · rw [H, q, show t - m - 1 - -1 = t - m by omega]
  · have w := hx2.resolve_left (by omega)
    have z : ∀ k : Int, k ≤ -m → spW (dV g m.toNat) k = 0 := fun k hk => by
      by_cases m0 : m = 0
      · rw [m0]; exact spW_00
      · unfold spW
        rw [if_pos (by omega)]
        exact dV_big td.1 (by omega)
    rw [H, z _ (by omega), z _ (by omega)]
