/-! GENERAL: both looks are one -/
theorem figs_r {g : Nat → Int32} {m : Nat} (hd : dD g m) : ∀ k : Nat, k ≤ m → figs (dV g m) k = rdl g (m - k) k
  | 0, _ => rfl
  | k + 1, h => by
    show (48 + dV g m / 10 ^ k % 10) :: figs (dV g m) k = (48 + (g (m - (k + 1))).toInt) :: rdl g (m - (k + 1) + 1) k
    rw [figs_r hd k (by omega), show m - (k + 1) + 1 = m - k by omega]
    have := dV_dig (g := g) (n := m) (k := m - (k + 1)) hd (by omega)
    rw [show m - 1 - (m - (k + 1)) = k by omega] at this
    rw [this]
theorem figs_m {V : Int} {b : Nat} : ∀ k : Nat, k ≤ b → figs (V % 10 ^ b) k = figs V k
  | 0, _ => rfl
  | k + 1, h => by
    show (48 + V % 10 ^ b / 10 ^ k % 10) :: figs (V % 10 ^ b) k = (48 + V / 10 ^ k % 10) :: figs V k
    rw [figs_m k (by omega)]
    congr 2
    obtain ⟨t, ht⟩ : ∃ t, b = k + (t + 1) := ⟨b - k - 1, by omega⟩
    have hb : (10 : Int) ^ b = 10 ^ k * (10 * 10 ^ t) := by rw [ht, Int.pow_add, Int.pow_succ, Int.mul_comm (10 ^ t) 10]
    have e : V % 10 ^ b = V + 10 ^ k * (10 * (-(10 ^ t * (V / 10 ^ b)))) := by
      rw [Int.emod_def]
      generalize V / 10 ^ b = X
      rw [hb, Int.mul_neg, Int.mul_neg, Int.mul_assoc, Int.mul_assoc, Int.sub_eq_add_neg]
    rw [e, Int.add_mul_ediv_left _ _ (by have := p10 k; omega), Int.add_mul_emod_self_left]
theorem dnc_dV {g : Nat → Int32} {m : Nat} (hd : dD g (m + 1)) (h0 : ¬ (g 0).toInt = 0) : fig (dV g (m + 1)) 1 = rdl g 0 (m + 1) ∨ 19 < m + 1 := by
  rcases Nat.lt_or_ge 19 (m + 1) with q | q
  · exact Or.inr q
  · have lo := dV_lo m hd h0
    have hi := (dV_bd (m + 1) hd).2
    rw [fig_figs (n := m + 1) q (by omega) hi (Or.inr (by rw [show m + 1 - 1 = m by omega]; exact lo)), figs_r hd (m + 1) (Nat.le_refl _), Nat.sub_self]
    exact Or.inl rfl
theorem fig_d {g : Nat → Int32} {m : Nat} (hd : dD g m) (h0 : ¬ (g 0).toInt = 0) (h1 : 1 ≤ m) (h19 : m ≤ 19) : fig (dV g m) 1 = rdl g 0 m := by
  obtain ⟨k, rfl⟩ : ∃ k, m = k + 1 := ⟨m - 1, by omega⟩
  exact (dnc_dV hd h0).resolve_right (by omega)
/-- a number's last b digits -/
theorem fig_m {g : Nat → Int32} {m b : Nat} (hd : dD g m) (hb : b ≤ m) (h1 : 1 ≤ b) (h19 : b ≤ 19) : fig (dV g m % 10 ^ b) b = rdl g (m - b) b := by
  have p := p10 b
  rw [fig_figs (n := b) h19 (Int.le_refl _) (Int.emod_lt_of_pos _ p) (Or.inl (Int.le_refl _)), figs_m b (Nat.le_refl _), figs_r hd b hb]
theorem fig_h {g : Nat → Int32} {m b : Nat} (hd : dD g m) (h0 : ¬ (g 0).toInt = 0) (hb : b < m) (h19 : m ≤ 19) : fig (dV g m / 10 ^ b) 1 = rdl g 0 (m - b) := by
  have e := dV_cut (g := g) (m - b) b (by rw [show m - b + b = m by omega]; exact hd)
  rw [show m - b + b = m by omega] at e
  rw [e, fig_d (dD_le hd (by omega)) h0 (by omega) (by omega)]
theorem ld_a {D : Int → Int} : ∀ (x : Nat) (a : Int) (y : Nat), ld D a (x + y) = ld D a x ++ ld D (a - x) y
  | 0, a, y => by rw [Nat.zero_add]; show _ = [] ++ ld D (a - (0 : Nat)) y; rw [show a - ((0 : Nat) : Int) = a by omega]; rfl
  | x + 1, a, y => by
    rw [show x + 1 + y = (x + y) + 1 by omega]
    show (48 + D a) :: ld D (a - 1) (x + y) = (48 + D a) :: (ld D (a - 1) x ++ ld D (a - ((x + 1 : Nat) : Int)) y)
    rw [ld_a x (a - 1) y, show a - 1 - (x : Int) = a - ((x + 1 : Nat) : Int) by omega]
theorem ld_z {g : Nat → Int32} {t m : Int} : ∀ (n : Nat) (a : Int), (t - 1 < a - n + 1 ∨ a < t - m) → ld (rwD g t m) a n = List.replicate n 48
  | 0, _, _ => rfl
  | n + 1, a, h => by
    show (48 + rwD g t m a) :: ld (rwD g t m) (a - 1) n = 48 :: List.replicate n 48
    rw [ld_z n (a - 1) (by omega)]
    have e : rwD g t m a = 0 := by unfold rwD; rw [if_neg (by omega)]
    rw [e]; rfl
theorem ld_d {g : Nat → Int32} {t m : Int} : ∀ (n i : Nat), (i : Int) + n ≤ m → ld (rwD g t m) (t - 1 - i) n = rdl g i n
  | 0, _, _ => rfl
  | n + 1, i, h => by
    show (48 + rwD g t m (t - 1 - i)) :: ld (rwD g t m) (t - 1 - i - 1) n = (48 + (g i).toInt) :: rdl g (i + 1) n
    rw [show t - 1 - (i : Int) - 1 = t - 1 - ((i + 1 : Nat) : Int) by omega, ld_d n (i + 1) (by omega)]
    have e : rwD g t m (t - 1 - i) = (g i).toInt := by
      unfold rwD
      rw [if_pos (by omega), show (t - 1 - (t - 1 - (i : Int))).toNat = i by omega]
    rw [e]
theorem wpt_r {g : Nat → Int32} {m b : Nat} (hd : dD g m) (h0 : ¬ (g 0).toInt = 0) (h1 : 1 ≤ m) (h19 : m ≤ 19) (hb : 1 ≤ b) : wpt (dV g m) m b = if m ≤ b then rdl g 0 m ++ List.replicate (b - m) 48 else rdl g 0 b ++ [46] ++ rdl g b (m - b) := by
  unfold wpt
  by_cases c : m ≤ b
  · rw [if_pos (by omega), if_pos c, fig_d hd h0 h1 h19, show ((b : Int) - m).toNat = b - m by omega]
  · rw [if_neg (by omega), if_neg c, show ((m : Int) - b).toNat = m - b by omega, fig_h hd h0 (by omega) h19, show m - (m - b) = b by omega]
    have := fig_m (b := m - b) hd (by omega) (by omega) (by omega)
    rw [show ((m - b : Nat) : Int) = (m : Int) - b by omega, show m - (m - b) = b by omega] at this
    rw [this]
