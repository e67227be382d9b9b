/-! one value on both sides -/
theorem z_uq1 {V U : Int} {k j : Nat} (h : V * 10 ^ k = U * 10 ^ j) (hV : ¬ V % 10 = 0) (hkj : k ≤ j) : V = U ∧ k = j := by
  obtain ⟨e, rfl⟩ : ∃ e, j = k + e := ⟨j - k, by omega⟩
  have p := p10 k
  rw [Int.pow_add, Int.mul_comm (10 ^ k), ← Int.mul_assoc] at h
  have h2 := Int.eq_of_mul_eq_mul_right (by omega : (10 : Int) ^ k ≠ 0) h
  cases e with
  | zero => exact ⟨by rw [h2]; exact Int.mul_one U, rfl⟩
  | succ e =>
    rw [Int.pow_succ, ← Int.mul_assoc] at h2
    exact absurd (by rw [h2]; omega) hV
theorem z_uq {V U : Int} {k j : Nat} (h : V * 10 ^ k = U * 10 ^ j) (hV : ¬ V % 10 = 0) (hU : ¬ U % 10 = 0) : V = U ∧ k = j := by
  rcases Nat.le_total k j with q | q
  · exact z_uq1 h hV q
  · have := z_uq1 h.symm hU q
    exact ⟨this.1.symm, this.2.symm⟩
/-- the value: v * 10 ^ s here, c digits with the point behind p of them there -/
def vR (v s : Int) (g : Nat → Int32) (c p : Int) : Prop := vO g c p ∧ (c = 0 ∨ ¬ (g (c - 1).toNat).toInt = 0) ∧ ∃ e : Nat, v = dV g c.toNat * 10 ^ e ∧ (c = 0 ∨ p = c + (s + e)) ∧ c + e ≤ 17
theorem dV_last {g : Nat → Int32} {c : Int} (hd : dD g c.toNat) (h0 : 0 < c) (hl : ¬ (g (c - 1).toNat).toInt = 0) : ¬ dV g c.toNat % 10 = 0 := by
  rw [show c.toNat = (c - 1).toNat + 1 by omega] at hd ⊢
  have := hd (c - 1).toNat (by omega)
  show ¬ (10 * dV g (c - 1).toNat + (g (c - 1).toNat).toInt) % 10 = 0
  omega
theorem vR_0 {v s : Int} {g : Nat → Int32} {c p : Int} (h : vR v s g c p) : v = 0 ↔ c = 0 := by
  obtain ⟨⟨a, b, d⟩, l, e, ev, _⟩ := h
  constructor
  · intro hv
    rcases d with d | d
    · exact d
    · rcases Int.lt_or_le 0 c with q | q
      · have lo := dV_lo (g := g) (c.toNat - 1) (by rw [show c.toNat - 1 + 1 = c.toNat by omega]; exact b) d
        rw [show c.toNat - 1 + 1 = c.toNat by omega] at lo
        have p1 := p10 (c.toNat - 1)
        have := Int.mul_pos (show 0 < dV g c.toNat by omega) (p10 e)
        omega
      · omega
  · intro hc
    rw [ev, hc]
    exact Int.zero_mul _
theorem g_all {v s : Int} {g r : Nat → Int32} {c p b : Int} {T : List Int} (h : vR v s g c p) (hT : gnP b v s T) (hr : ∀ j : Nat, (j : Int) < c → (r j).toInt = (g j).toInt) {m t : Int} (hm : m = c) (ht : c = 0 ∧ t = 0 ∨ ¬ c = 0 ∧ t = p) : T = gnr r m t b := by
  have h00 := vR_0 h
  obtain ⟨hv, l, e, ev, ep, e17⟩ := h
  have td := tk_d hv hr hm
  obtain ⟨a, d, z⟩ := hv
  subst hm
  rcases hT with ⟨v0, hT⟩ | ⟨V, n, k, e1, e2, e3, e4, hT⟩
  · rw [hT]; exact gnr_0 (h00.1 v0)
  · have c0 : ¬ m = 0 := fun q => by
      have := h00.2 q
      rw [this] at e1
      have := Int.mul_pos e2 (p10 k)
      omega
    have hl := dV_last d (by omega) (l.resolve_left c0)
    have u := z_uq (V := V) (U := dV g m.toNat) (k := k) (j := e) (by rw [← e1, ← ev]) e3 hl
    have eg : dV r m.toNat = dV g m.toNat := dV_c _ (fun j hj => hr j (by omega))
    have tq := (ht.resolve_left (fun q => c0 q.1)).2
    have pq := ep.resolve_left c0
    have hn : n = m := by
      have lo := dV_lo (g := g) (m.toNat - 1) (by rw [show m.toNat - 1 + 1 = m.toNat by omega]; exact d) (z.resolve_left c0)
      rw [show m.toNat - 1 + 1 = m.toNat by omega] at lo
      have hi := (dV_bd m.toNat d).2
      have dn : dnc V m := Or.inr ⟨e2, by omega, by rw [u.1, show (m - 1).toNat = m.toNat - 1 by omega]; exact lo, by rw [u.1]; exact hi⟩
      have e18 : V < 1000000000000000000 := by
        have := p10_le (show m.toNat ≤ 17 by omega)
        have q : (10 : Int) ^ 17 = 100000000000000000 := by decide
        omega
      have dn2 := dnc_i (H := V) (z := 0) (n := n) e2 e18 (by decide) e4
      rw [Int.add_zero, show V * 10 ^ (0 : Int).toNat = V from Int.mul_one V] at dn2
      exact dnc_det dn2 dn
    rw [hT, hn, u.1, ← eg, u.2, show m + (s + (e : Int)) = t by omega]
    have gq := g_eq (g := r) (m := m.toNat) (t := t) (b := b) td.1 (td.2.resolve_left c0) (by omega) (by omega)
    rw [show ((m.toNat : Nat) : Int) = m by omega] at gq
    exact gq
