theorem rds_n {g : Nat → Int32} {i e : Nat} : rds g (i : Int) (e : Int) = rdl g i (e - i) := by
  unfold rds; rw [show ((e : Int) - i).toNat = e - i by omega, Int.toNat_natCast]
theorem g_eq {g : Nat → Int32} {m : Nat} {t b : Int} (hd : dD g m) (h0 : ¬ (g 0).toInt = 0) (h1 : 1 ≤ m) (h19 : m ≤ 19) : (if b = 0 then [] else [45]) ++ cgn (dV g m) m t = gnr g m t b := by
  unfold gnr
  rw [if_neg (show ¬ (m : Int) = 0 by omega)]
  congr 1
  unfold cgn
  by_cases c : t < -5 ∨ 21 < t
  · rw [if_pos c, if_pos c]
    unfold wpw
    have w := wpt_r (b := 1) hd h0 h1 h19 (Nat.le_refl _)
    have w2 : wpt (dV g m) m 1 = [48 + (g 0).toInt] ++ (if (m : Int) ≤ 1 then [] else [46]) ++ rds g 1 m := by
      rw [show wpt (dV g m) m 1 = wpt (dV g m) m ((1 : Nat) : Int) from rfl, w, show rds g 1 (m : Int) = rdl g 1 (m - 1) from rds_n (i := 1)]
      by_cases q : m ≤ 1
      · rw [if_pos q, if_pos (by omega), show m = 1 by omega]; rfl
      · rw [if_neg q, if_neg (by omega)]; rfl
    rw [w2]
    unfold gyE
    have e : (if t - 1 < 0 then [45] else ([] : List Int)) = (if t < 1 then [45] else []) := by
      by_cases q : t < 1
      · rw [if_pos q, if_pos (by omega)]
      · rw [if_neg q, if_neg (by omega)]
    rw [e]
    simp only [List.append_assoc]
  · rw [if_neg c, if_neg c]
    unfold gyP
    rw [show t - 1 - 0 + 1 = t by omega, show (-1 - (t - (m : Int)) + 1 : Int) = (m : Int) - t by omega]
    by_cases q : t ≤ 0
    · rw [if_pos q, if_pos q, if_pos (by omega), show t.toNat = 0 by omega, fig_d hd h0 h1 h19]
      have s := ld_a (D := rwD g t m) (-t).toNat (-1) m
      rw [show (-t).toNat + m = ((m : Int) - t).toNat by omega] at s
      rw [s, ld_z (-t).toNat (-1) (Or.inl (by omega))]
      have d := ld_d (g := g) (t := t) (m := m) m 0 (by omega)
      rw [show t - 1 - ((0 : Nat) : Int) = -1 - (((-t).toNat : Nat) : Int) by omega] at d
      rw [d]
      show [48, 46] ++ List.replicate (-t).toNat 48 ++ rdl g 0 m = [48] ++ ([] ++ ([46] ++ (List.replicate (-t).toNat 48 ++ rdl g 0 m)))
      simp only [List.append_assoc, List.nil_append]
      rfl
    · rw [if_neg q, if_neg q]
      obtain ⟨n, rfl⟩ : ∃ n : Nat, t = n := ⟨t.toNat, by omega⟩
      rw [wpt_r hd h0 h1 h19 (by omega), Int.toNat_natCast]
      by_cases k : m ≤ n
      · rw [if_pos k, if_neg (by omega), show ((m : Int) - n).toNat = 0 by omega]
        have s := ld_a (D := rwD g n m) m ((n : Int) - 1) (n - m)
        rw [show m + (n - m) = n by omega] at s
        rw [s, ld_z (n - m) _ (Or.inr (by omega))]
        have d := ld_d (g := g) (t := n) (m := m) m 0 (by omega)
        rw [show (n : Int) - 1 - ((0 : Nat) : Int) = (n : Int) - 1 by omega] at d
        rw [d]
        show rdl g 0 m ++ List.replicate (n - m) 48 = [] ++ ((rdl g 0 m ++ List.replicate (n - m) 48) ++ ([] ++ []))
        simp only [List.append_nil, List.nil_append]
      · rw [if_neg k, if_pos (by omega), show ((m : Int) - n).toNat = m - n by omega]
        have d := ld_d (g := g) (t := n) (m := m) n 0 (by omega)
        rw [show (n : Int) - 1 - ((0 : Nat) : Int) = (n : Int) - 1 by omega] at d
        have d2 := ld_d (g := g) (t := n) (m := m) (m - n) n (by omega)
        rw [show (n : Int) - 1 - (n : Int) = -1 by omega] at d2
        rw [d, d2]
        simp only [List.append_assoc, List.nil_append]
