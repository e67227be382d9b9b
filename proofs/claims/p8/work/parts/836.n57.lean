/-! a year's figures -/
theorem figP_4 {n : Int} (h : 1000 ≤ n) : ∀ p : Nat, figP n 4 p = figP n 1 p
  | 0 => rfl
  | p + 1 => by
    show (if (p : Int) < 4 ∨ 10 ^ p ≤ n then [48 + n / 10 ^ p % 10] else []) ++ figP n 4 p = (if (p : Int) < 1 ∨ 10 ^ p ≤ n then [48 + n / 10 ^ p % 10] else []) ++ figP n 1 p
    rw [figP_4 h p]
    congr 1
    by_cases c : 10 ^ p ≤ n
    · rw [if_pos (Or.inr c), if_pos (Or.inr c)]
    · have p4 : ¬ (p : Int) < 4 := fun k => by
        have l := p10_le (show p ≤ 3 by omega)
        have e : (10 : Int) ^ 3 = 1000 := by decide
        omega
      rw [if_neg (fun k => k.elim p4 c), if_neg (fun k => k.elim (fun q => by omega) c)]
theorem fig_4 {n : Int} (h : 1000 ≤ n) : fig n 4 = fig n 1 := figP_4 h 19
