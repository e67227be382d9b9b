/-! DATE: both looks are one, where the items and the number are -/
theorem sW8 {g : Nat → Int32} {c p : Int} (hv : vO g c p) (h0 : ¬ c = 0) (h7 : 7 < p) : 9999999 < spW (dV g c.toNat) (p - c) := by
  have e2 := hv.1
  have lo := dV_lo (g := g) (c.toNat - 1) (by rw [show c.toNat - 1 + 1 = c.toNat by omega]; exact hv.2.1) (hv.2.2.resolve_left h0)
  rw [show c.toNat - 1 + 1 = c.toNat by omega] at lo
  have l7 := p10_le (show 7 ≤ (p - 1).toNat by omega)
  have e7 : (10 : Int) ^ 7 = 10000000 := by decide
  unfold spW
  by_cases k : p - c < 0
  · rw [if_pos k]
    have s : (10 : Int) ^ (c.toNat - 1) = 10 ^ (p - 1).toNat * 10 ^ (-(p - c)).toNat := by rw [← Int.pow_add, show (p - 1).toNat + (-(p - c)).toNat = c.toNat - 1 by omega]
    have q : (10 : Int) ^ (p - 1).toNat ≤ dV g c.toNat / 10 ^ (-(p - c)).toNat := (Int.le_ediv_iff_mul_le (p10 _)).2 (by omega)
    omega
  · rw [if_neg k]
    have s : (10 : Int) ^ (p - 1).toNat = 10 ^ (c.toNat - 1) * 10 ^ (p - c).toNat := by rw [← Int.pow_add, show c.toNat - 1 + (p - c).toNat = (p - 1).toNat by omega]
    have u : (10 : Int) ^ (c.toNat - 1) * 10 ^ (p - c).toNat ≤ dV g c.toNat * 10 ^ (p - c).toNat := Int.mul_le_mul_of_nonneg_right lo (Int.le_of_lt (p10 _))
    omega
theorem rx_q {k a b : Int} {q q2 : Int32} (h8 : ¬ k = 8) (h10 : ¬ k = 10) : rx k a b q = rx k a b q2 := by
  unfold rx
  simp only [if_neg h8, if_neg h10]
theorem rs_q {K A B Q Q2 : Nat → Int32} {e : Int} : ∀ (n : Nat) (x : Int), 0 ≤ x → (e - x).toNat = n → (∀ j : Nat, x ≤ (j : Int) → (j : Int) < e → ¬ (K j).toInt = 8 ∧ ¬ (K j).toInt = 10) → rs K A B Q x e = rs K A B Q2 x e
  | 0, x, _, hn, _ => by rw [rs_x (by omega), rs_x (by omega)]
  | n + 1, x, h0, hn, h => by
    have k := h x.toNat (by omega) (by omega)
    rw [rs_s (Q := Q) h0 (by omega) rfl, rs_s (Q := Q2) h0 (by omega) rfl, rx_q (q2 := Q2 x.toNat) k.1 k.2, rs_q (Q2 := Q2) n (x + 1) (by omega) (by omega) (fun j a b => h j (by omega) b)]
theorem dvE_0 {y m d N s t hd c : Int} : dvE y m d N s t hd 0 c = [] := (dvE_n (by decide) (by decide)).symm
theorem dt_all {v s c p P hd b ng sx : Int} {g : Nat → Int32} {Lc Lr : List (Int × Int)} {T1 T2 : List Int} (h : vR v s g c p) (hc : c = 0 → p ≤ 7) (h1 : ddP v s P hd b Lc T1) (h2 : rdP ng sx p (dV g c.toNat) (p - c) P hd Lr T2) (hL : fl Lc = Lr) (hb : b = 0 ↔ (ng = 0 ∨ sx = 1)) : T1 = T2 := by
  have q := vR_sp h
  have hv := h.1
  rcases h1 with ⟨a1, a2⟩ | ⟨⟨a1, a3⟩, a2⟩
  · rcases h2 with ⟨b1, b2⟩ | ⟨⟨b1, b3⟩, b2⟩
    · rw [a2, b2]
    · have w := sW7 hv b3
      rw [← q.1] at w
      rcases a1 with a1 | a1
      · exact absurd (hb.2 b1) a1
      · omega
  · rcases h2 with ⟨b1, b2⟩ | ⟨⟨b1, b3⟩, b2⟩
    · rcases b1 with b1 | b1
      · exact absurd (hb.1 a1) (fun k => k.elim b1.1 b1.2)
      · have w := sW8 hv (fun k => by have := hc k; omega) b1
        rw [← q.1] at w
        omega
    · rw [a2, b2, ← hL]
      unfold ddL ddN
      rw [← q.1, ← q.2, drun_fl (fun c => dvE_0)]
