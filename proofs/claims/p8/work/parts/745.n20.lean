/-! the reference's number after rounding -/
def vO (g : Nat → Int32) (c p : Int) : Prop := (0 ≤ c ∧ c ≤ 17 ∧ -400 ≤ p ∧ p ≤ 317) ∧ dD g c.toNat ∧ (c = 0 ∨ ¬ (g 0).toInt = 0)
theorem vO_b {g : Nat → Int32} {c p : Int} (h : vO g c p) : 0 ≤ c ∧ c ≤ 17 ∧ -400 ≤ p ∧ p ≤ 317 := h.1
theorem dV_c {g h : Nat → Int32} : ∀ n : Nat, (∀ j : Nat, j < n → (g j).toInt = (h j).toInt) → dV g n = dV h n
  | 0, _ => rfl
  | n + 1, e => by
    show 10 * dV g n + (g n).toInt = 10 * dV h n + (h n).toInt
    rw [dV_c n (fun j hj => e j (by omega)), e n (by omega)]
theorem tk_d {g r : Nat → Int32} {c m p : Int} (h : vO g c p) (hj : ∀ j : Nat, (j : Int) < c → (r j).toInt = (g j).toInt) (hm : m = c) : dD r m.toNat ∧ (m = 0 ∨ ¬ (r 0).toInt = 0) := by
  subst hm
  obtain ⟨a, b, d⟩ := h
  refine ⟨fun k hk => by rw [hj k (by omega)]; exact b k hk, ?_⟩
  rcases d with d | d
  · exact Or.inl d
  · rcases Int.lt_or_le 0 m with q | q
    · exact Or.inr (by rw [hj 0 (by omega)]; exact d)
    · exact Or.inl (by omega)
/-- rounded: m digits, the point behind t of them, M in units of the last decimal -/
def rF (g : Nat → Int32) (m t M d : Int) : Prop := (0 ≤ m ∧ m ≤ 420 ∧ -3000 ≤ t ∧ t ≤ 446 ∧ 0 ≤ d) ∧ dD g m.toNat ∧ ((m = 0 ∧ t = 0 ∧ M = 0) ∨ ((1 ≤ m ∧ m ≤ t + d) ∧ ¬ (g 0).toInt = 0 ∧ dV g m.toNat * 10 ^ (t + d - m).toNat = M))
theorem dV_lo {g : Nat → Int32} : ∀ n : Nat, dD g (n + 1) → ¬ (g 0).toInt = 0 → 10 ^ n ≤ dV g (n + 1)
  | 0, h, h0 => by
    have := h 0 (by omega)
    show (10 : Int) ^ 0 ≤ 10 * 0 + (g 0).toInt
    have e : (10 : Int) ^ 0 = 1 := rfl
    omega
  | n + 1, h, h0 => by
    have ih := dV_lo n (dD_le h (by omega)) h0
    have := h (n + 1) (by omega)
    show (10 : Int) ^ (n + 1) ≤ 10 * dV g (n + 1) + (g (n + 1)).toInt
    rw [Int.pow_succ]; omega
theorem rF_n {g : Nat → Int32} {m t M d : Int} (h : rF g m t M d) : (m = 0 ∧ t = 0 ∧ M = 0) ∨ (1 ≤ m ∧ 0 < M ∧ dnc M (t + d)) := by
  obtain ⟨a, b, c⟩ := h
  rcases c with c | ⟨c, c0, cM⟩
  · exact Or.inl c
  · have lo := dV_lo (g := g) (m.toNat - 1) (by rw [show m.toNat - 1 + 1 = m.toNat by omega]; exact b) c0
    rw [show m.toNat - 1 + 1 = m.toNat by omega] at lo
    have hi := (dV_bd m.toNat b).2
    have p1 := p10 (t + d - m).toNat
    have p2 := p10 (m.toNat - 1)
    have M0 : 0 < M := by rw [← cM]; exact Int.mul_pos (by omega) p1
    refine Or.inr ⟨c.1, M0, Or.inr ⟨M0, by omega, ?_, ?_⟩⟩
    · rw [← cM, show (t + d - 1).toNat = (m.toNat - 1) + (t + d - m).toNat by omega, Int.pow_add]
      exact Int.mul_le_mul_of_nonneg_right lo (by omega)
    · rw [← cM, show (t + d).toNat = m.toNat + (t + d - m).toNat by omega, Int.pow_add]
      exact Int.mul_lt_mul_of_pos_right hi p1
theorem rF_D {g : Nat → Int32} {m t M d : Int} (h : rF g m t M d) : rwD g t m = fun p => dgt M (p + d) := by
  obtain ⟨a, b, c⟩ := h
  funext p
  rcases c with c | ⟨c, c0, cM⟩
  · obtain ⟨rfl, rfl, rfl⟩ := c
    unfold rwD dgt
    rw [if_neg (by omega), Int.zero_ediv]
    split <;> rfl
  · rcases Int.lt_or_le (p + d) 0 with q | q
    · unfold rwD dgt
      rw [if_neg (by omega), if_pos q]
    · have := r_dig (g := g) (n := m.toNat) (t := t + d - m) (q := p + d) (i := t - 1 - p) b (by omega) (by omega) q
      rw [cM] at this
      rw [this]
      unfold rwD
      rw [show ((m.toNat : Nat) : Int) = m by omega]
theorem rF_w {g : Nat → Int32} {m t M d n : Int} (h : rF g m t M d) (hn : dnc M n) : rwW t = if n ≤ d then 0 else n - d := by
  have hd := h.1.2.2.2.2
  rcases rF_n h with ⟨a, b, c⟩ | ⟨a, b, c⟩
  · have : n = 0 := by rcases hn with ⟨_, q⟩ | ⟨q, _⟩ <;> omega
    unfold rwW; rw [if_pos (by omega), if_pos (by omega)]
  · have e := dnc_det hn c
    unfold rwW
    by_cases q : t ≤ 0
    · rw [if_pos q, if_pos (by omega)]
    · rw [if_neg q, if_neg (by omega)]; omega
theorem rdR_bd {g : Nat → Int32} {k : Int} (hd : dD g 17) (hk : k < 17) : rdR g k ≤ 100000000000000000 := by
  unfold rdR
  split
  · decide
  · have b := (dV_bd k.toNat (dD_le hd (by omega))).2
    have l := p10_le (show k.toNat ≤ 16 by omega)
    have e : (10 : Int) ^ 16 = 10000000000000000 := by decide
    split <;> omega
theorem rF_i {g r : Nat → Int32} {c p : Int} {s : Nat → Int32} {m0 t0 m t x d : Int} (hv : vO g c p) (hj : ∀ j : Nat, (j : Int) < c → (r j).toInt = (g j).toInt) (hm : m0 = c) (ht : c = 0 ∧ t0 = 0 ∨ ¬ c = 0 ∧ t0 = p + x) (hx : -1500 ≤ x ∧ x ≤ 1500) (hx2 : p + x ≤ 446) (hd : 0 ≤ d ∧ d ≤ 64)
    (h : (m0 ≤ t0 + d ∧ m = m0 ∧ t = t0 ∧ s = r) ∨ (t0 + d < m0 ∧ rP s m t (rdR r (t0 + d)) d)) : rF s m t (rdM (dV g c.toNat) (p + x - c) d) d := by
  have hb := tk_d hv hj rfl
  have ev : dV r c.toNat = dV g c.toNat := dV_c _ (fun j hj2 => hj j (by omega))
  obtain ⟨a, b, l⟩ := hv
  subst hm
  rcases h with ⟨h1, h2, h3, h4⟩ | ⟨h1, h2⟩
  · subst h2; subst h3; subst h4
    refine ⟨⟨by omega, by omega, by omega, by omega, hd.1⟩, hb.1, ?_⟩
    rcases ht with ⟨c0, t1⟩ | ⟨c0, t1⟩
    · subst c0
      refine Or.inl ⟨rfl, t1, ?_⟩
      show rdM 0 _ d = 0
      unfold rdM
      split
      · exact Int.zero_mul _
      split
      · rfl
      · unfold rnd; rw [Int.zero_ediv, Int.zero_ediv]; rfl
    · refine Or.inr ⟨⟨by omega, h1⟩, hb.2.resolve_left c0, ?_⟩
      have := rdM_big (g := s) (n := m.toNat) (s := 0) (v := dV s m.toNat) (p := t - m) (d := d) (t := t) (by show _ = _ * 1; rw [Int.mul_one]) (by omega) (by omega) (by intro q; omega)
      rw [show ((m.toNat : Nat) : Int) = m by omega] at this
      rw [this, ev, t1]
  · have c0 : ¬ m0 = 0 := by omega
    have t1 := (ht.resolve_left (fun q => c0 q.1)).2
    have e := rdR_rdM (g := r) (n := m0.toNat) (s := 0) (v := dV r m0.toNat) (p := t0 - m0) (d := d) (t := t0) hb.1 (by show _ = _ * 1; rw [Int.mul_one]) (by omega) (by omega) (by omega)
    rw [ev] at e
    rw [show p + x - m0 = t0 - m0 by omega, ← e]
    have ub : rdR r (t0 + d) ≤ 100000000000000000 := by
      have b17 := (dV_bd m0.toNat hb.1).2
      unfold rdR
      split
      · decide
      · have q1 := (dV_bd (t0 + d).toNat (dD_le hb.1 (by omega))).2
        have q2 := p10_le (show (t0 + d).toNat ≤ 16 by omega)
        have q3 : (10 : Int) ^ 16 = 10000000000000000 := by decide
        split <;> omega
    rcases h2 with ⟨q1, q2, q3⟩ | ⟨q1, q2, _, q4, q5⟩
    · exact ⟨⟨by omega, by omega, by omega, by omega, hd.1⟩, fun k hk => by rw [q1] at hk; exact absurd hk (Nat.not_lt_zero _), Or.inl ⟨q1, q2, q3⟩⟩
    · have lo := dV_lo (g := s) (m.toNat - 1) (by rw [show m.toNat - 1 + 1 = m.toNat by omega]; exact q2) q5
      rw [show m.toNat - 1 + 1 = m.toNat by omega] at lo
      have low : (10 : Int) ^ (t + d - 1).toNat ≤ rdR r (t0 + d) := by
        rw [← q4, show (t + d - 1).toNat = (m.toNat - 1) + (t + d - m).toNat by omega, Int.pow_add]
        exact Int.mul_le_mul_of_nonneg_right lo (by have := p10 (t + d - m).toNat; omega)
      have tb : t + d ≤ 19 := by
        rcases Int.lt_or_le 19 (t + d) with k | k
        · have k1 := p10_le (show 18 ≤ (t + d - 1).toNat by omega)
          have k2 : (10 : Int) ^ 18 = 1000000000000000000 := by decide
          omega
        · exact k
      exact ⟨⟨by omega, by omega, by omega, by omega, hd.1⟩, q2, Or.inr ⟨⟨by omega, q1.2.2⟩, q5, q4⟩⟩
theorem rF_b {g : Nat → Int32} {m t M d : Int} (h : rF g m t M d) : (0 ≤ m ∧ m ≤ 420 ∧ -3000 ≤ t ∧ t ≤ 446) ∧ dD g m.toNat := ⟨by have := h.1; omega, h.2.1⟩
def sgn (b m : Int) : List Int := if ¬ b = 0 ∧ 0 < m then [45] else []
theorem sgn_1 {b m : Int} (h : ¬ b = 0) (hm : 0 < m) : [45] = sgn b m := by unfold sgn; rw [if_pos ⟨h, hm⟩]
theorem sgn_0 {b m : Int} (h : b = 0 ∨ m ≤ 0) : [] = sgn b m := by unfold sgn; rw [if_neg (by omega)]
/-- a number's look: M in units of the last of d decimals, n digits in all, power E, items L -/
def nLk (M n d E b : Int) (L : List (Int × Int)) : List Int := sgn b M ++ nRT (fun p => dgt M (p + d)) (if n ≤ d then 0 else n - d) E L
theorem nLk_i {g : Nat → Int32} {m t M d n b E : Int} {L : List (Int × Int)} (h : rF g m t M d) (hn : dnc M n) : sgn b m ++ nRT (rwD g t m) (rwW t) E L = nLk M n d E b L := by
  unfold nLk
  rw [rF_D h, rF_w h hn]
  congr 1
  unfold sgn
  rcases rF_n h with ⟨a1, a2, a3⟩ | ⟨a1, a2, a3⟩
  · rw [if_neg (by omega), if_neg (by omega)]
  · by_cases q : b = 0
    · rw [if_neg (by omega), if_neg (by omega)]
    · rw [if_pos ⟨q, by omega⟩, if_pos ⟨q, a2⟩]
