theorem pure_short {xs : Nat → Int32} {L : Nat} (hL : L < 5) : lw_pure L xs 1 := by
  unfold lw_pure
  rcases (show L = 0 ∨ L = 1 ∨ L = 2 ∨ L = 3 ∨ L = 4 by omega) with rfl | rfl | rfl | rfl | rfl <;> exact And.intro (fun _ => True.intro) (fun c => absurd (by decide +kernel) c)
theorem pure_all {xs : Nat → Int32} {L : Nat} (hL : L ≤ 5) : ∃ N, N ≤ 600 ∧ lw_pure L xs N := by
  rcases Nat.lt_or_ge L 5 with h5 | h5
  · exact ⟨1, by omega, pure_short h5⟩
  have e5 : L = 5 := by omega
  subst e5
  refine ⟨2, by omega, ?_⟩
  by_cases h0 : ((xs (0 : Int32).toNatClampNeg) &&& (7 : Int32)) = (0 : Int32)
  · exact pc_type h0
  by_cases h1 : ((xs (0 : Int32).toNatClampNeg) &&& (7 : Int32)) = (1 : Int32)
  · exact pc_erase h1
  by_cases h2 : ((xs (0 : Int32).toNatClampNeg) &&& (7 : Int32)) = (2 : Int32)
  · exact pc_code h2
  by_cases h3 : ((xs (0 : Int32).toNatClampNeg) &&& (7 : Int32)) = (3 : Int32)
  · by_cases g : ¬ (xs ((0 : Int32) + (2 : Int32)).toNatClampNeg) < 0 ∧ ¬ (99999999 : Int32) < (xs ((0 : Int32) + (2 : Int32)).toNatClampNeg) ∧ ¬ (xs ((0 : Int32) + (3 : Int32)).toNatClampNeg) < 0 ∧ ¬ (999999999 : Int32) < (xs ((0 : Int32) + (3 : Int32)).toNatClampNeg) ∧ ¬ (xs ((0 : Int32) + (4 : Int32)).toNatClampNeg) < (-350 : Int32) ∧ (xs ((0 : Int32) + (4 : Int32)).toNatClampNeg) ≤ (300 : Int32)
    · exact pc_num h3 g
    · exact pc_nbad h3 g
  by_cases h4 : ((xs (0 : Int32).toNatClampNeg) &&& (7 : Int32)) = (4 : Int32)
  · exact pc_text h4
  by_cases h5 : ((xs (0 : Int32).toNatClampNeg) &&& (7 : Int32)) = (5 : Int32)
  · exact pc_look h5
  by_cases h6 : ((xs (0 : Int32).toNatClampNeg) &&& (7 : Int32)) = (6 : Int32)
  · by_cases e : (xs ((0 : Int32) + (1 : Int32)).toNatClampNeg) < 0
    · exact pc_atn h6 e
    by_cases e0 : (xs ((0 : Int32) + (1 : Int32)).toNatClampNeg) = 0
    · exact pc_at0 h6 e0
    obtain ⟨j, hj, ej⟩ := nI_of e
    have hj1 : 1 ≤ j := Nat.pos_of_ne_zero (fun q => e0 (by rw [ej, q]; decide))
    exact pc_atp h6 e (fun n hn => by rw [hn, ej]; exact nI_le (a := 1) hj1 hj) (fun n hn => by rw [hn, ej]; exact nI_nlt (b := 1) hj1 hj)
  by_cases h7 : ((xs (0 : Int32).toNatClampNeg) &&& (7 : Int32)) = (7 : Int32)
  · by_cases e : (xs ((0 : Int32) + (1 : Int32)).toNatClampNeg) < 0
    · exact pc_abn h7 e
    by_cases e5 : (xs ((0 : Int32) + (1 : Int32)).toNatClampNeg) ≤ (5 : Int32)
    · obtain ⟨j, hj, ej⟩ := nI_of2 (n := 5) (M := 5) (by decide) e e5
      rcases (show j = 0 ∨ j = 1 ∨ j = 2 ∨ j = 3 ∨ j = 4 ∨ j = 5 by omega) with rfl | rfl | rfl | rfl | rfl | rfl
      · exact pc_ab0 h7 (ej.trans (by decide))
      · exact pc_ab1 h7 (ej.trans (by decide))
      · exact pc_ab2 h7 (ej.trans (by decide))
      · exact pc_ab3 h7 (ej.trans (by decide))
      · exact pc_ab4 h7 (ej.trans (by decide))
      · exact pc_ab5 h7 (ej.trans (by decide))
    · exact pc_abp h7 e e5
  exact pc_none h0 h1 h2 h3 h4 h5 h6 h7

