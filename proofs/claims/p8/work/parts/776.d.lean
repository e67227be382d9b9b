set_option maxRecDepth 10000 in
theorem d_FractionDresser_tryUnder {J0 : Nat → Int64} {J1 : Nat → Int64} {x1 : Int64} (hp : (0 ≤ (J1 1).toInt ∧ (J1 1).toInt ≤ 1000000000000000 ∧ 1 ≤ x1.toInt ∧ x1.toInt ≤ 999) ∧ 0 ≤ (J0 3).toInt ∧ (J0 3).toInt ≤ 999 ∧ 0 ≤ (J0 4).toInt ∧ (J0 4).toInt ≤ 1000000000000000) : qG (qA1 (fun  u => jst u = frf (J1 1).toInt x1.toInt (jst J0))) (fun Z => v_FractionDresser_tryUnder_0 J0 J1 x1 Z) := by
  (try simp only [zu_s, zu_n, zin_iff, zb_iff, zc_iff, zle_lt, zle_le, zle_eq, zm1, zm8, qnI64, qnI4, qnz, Int32.reduceToInt, ↓reduceIte, ne_eq, Nat.reduceEqDiff, not_false_eq_true, not_true_eq_false, reduceCtorEq, or_true, true_or, or_false, false_or, and_true, true_and, and_false, false_and, true_implies, false_implies, implies_true, zl_lt, zl_le, zl_eq, zi64, Int64.reduceToInt] at hp); (try simp (disch := first | omega | ((simp (disch := (first | omega | ((simp only [Int32.reduceToInt, Int64.reduceToInt, zm1, zm8, zi64, qnI64]); first | done | omega))) only [Int32.reduceToInt, Int64.reduceToInt, zm1, zm8, zadd1, zsub1, zmul1, zneg1, zl_add1, zl_sub1, zi64, qnI64]); first | done | omega)) only [Int32.reduceToInt, Int64.reduceToInt, zm1, zm8, zadd1, zsub1, zmul1, zneg1, zl_add1, zl_sub1, zi64, qnI64] at hp)
  have hv := frv (r := J1 1) (x := x1) (by omega) (by omega) (by omega) (by omega)
  obtain ⟨hv1, hv2, hv3⟩ := hv
  obtain ⟨Y, hY⟩ : ∃ Y, Y = (J1 1 * x1) / 1000000000000000 := ⟨_, rfl⟩
  obtain ⟨Lw, hL⟩ : ∃ Lw, Lw = J1 1 * x1 - (J1 1 * x1) / 1000000000000000 * 1000000000000000 := ⟨_, rfl⟩
  rw [← hY] at hv1 hL
  rw [← hY, ← hL] at hv2
  have hh : (1000000000000000 - Lw).toInt = 1000000000000000 - Lw.toInt := by rw [zl_sub1] <;> simp only [Int64.reduceToInt] <;> omega
  have hY1 : (Y + 1).toInt = Y.toInt + 1 := by rw [zl_add1] <;> simp only [Int64.reduceToInt] <;> omega
  have hg := frM (a := J0 4) (b := x1) (by omega) (by omega) (by omega) (by omega)
  have hl := frM (a := Lw) (b := J0 3) (by omega) (by omega) (by omega) (by omega)
  have hl2 := frM (a := 1000000000000000 - Lw) (b := J0 3) (by omega) (by omega) (by omega) (by omega)
  refine w_FractionDresser_tryUnder_0 (qG_all ?_)
  rw [← hY]
  refine qG_all ?_
  rw [← hL]
  have fin : ∀ a c : Int64, a.toInt = frN (J1 1).toInt x1.toInt → c.toInt = frD (J1 1).toInt x1.toInt → (c * J0 3).toInt = c.toInt * (J0 3).toInt → qG (qA1 fun u => jst u = frf (J1 1).toInt x1.toInt (jst J0)) (fun Z => v_FractionDresser_tryUnder_69 J0 J1 x1 a c Z) := by
    intro a c ha hc hm
    refine w_FractionDresser_tryUnder_69 (qG_ite (fun h => ?_) (fun h => qG_ite (fun h2 => ?_) (fun h2 => ?_)))
    · rw [zl_eq] at h; exact w_FractionDresser_tryUnder_97 (qG_ret1 (frf_y ha rfl hc (Or.inl h)))
    · rw [zl_eq] at h; rw [zl_le, hg, hm, hc] at h2; exact qG_ret1 (frf_n h (by omega))
    · rw [zl_le, hg, hm, hc] at h2; exact w_FractionDresser_tryUnder_97 (qG_ret1 (frf_y ha rfl hc (Or.inr (by omega))))
  refine qG_ite (fun h => ?_) (fun h => ?_)
  · rw [zl_lt, hh] at h
    have q := frN_2 (r := (J1 1).toInt) (d := x1.toInt) (by omega)
    refine w_FractionDresser_tryUnder_52 (qG_ite (fun h2 => ?_) (fun h2 => ?_))
    · exact fin _ _ (by rw [hY1, q.1, hv1]) (by rw [hh, q.2, hv2]) hl2
    · rw [zl_lt, hh] at h2; omega
  · rw [zl_lt, hh] at h
    have q := frN_1 (r := (J1 1).toInt) (d := x1.toInt) (by omega)
    refine w_FractionDresser_tryUnder_52 (qG_ite (fun h2 => ?_) (fun h2 => ?_))
    · rw [zl_lt, hh] at h2; omega
    · exact fin _ _ (by rw [q.1, hv1]) (by rw [q.2, hv2]) hl
theorem cg_FractionDresser_tryUnder {κ : Type} {A : (κ → Prop) → Prop} {J0 : Nat → Int64} {J1 : Nat → Int64} {x1 : Int64} {R : ((Nat → Int64)) → κ → Prop} (hp : (0 ≤ (J1 1).toInt ∧ (J1 1).toInt ≤ 1000000000000000 ∧ 1 ≤ x1.toInt ∧ x1.toInt ≤ 999) ∧ 0 ≤ (J0 3).toInt ∧ (J0 3).toInt ≤ 999 ∧ 0 ≤ (J0 4).toInt ∧ (J0 4).toInt ≤ 1000000000000000) (h : ∀ (gJ0 : Nat → Int64), (jst gJ0 = frf (J1 1).toInt x1.toInt (jst J0)) → qG A (fun Z => R  gJ0 Z)) : qG A (fun Z => v_FractionDresser_tryUnder_0 J0 J1 x1 (fun  u => R  u Z)) := qG_c1 (d_FractionDresser_tryUnder hp) (fun  u hq => h u hq)
theorem cn_FractionDresser_tryUnder {κ : Type} {n : Nat} {B : Nat → (κ → Prop) → Prop} {J0 : Nat → Int64} {J1 : Nat → Int64} {x1 : Int64} {R : ((Nat → Int64)) → Nat → κ → Prop} (hp : (0 ≤ (J1 1).toInt ∧ (J1 1).toInt ≤ 1000000000000000 ∧ 1 ≤ x1.toInt ∧ x1.toInt ≤ 999) ∧ 0 ≤ (J0 3).toInt ∧ (J0 3).toInt ≤ 999 ∧ 0 ≤ (J0 4).toInt ∧ (J0 4).toInt ≤ 1000000000000000) (h : ∀ (gJ0 : Nat → Int64), (jst gJ0 = frf (J1 1).toInt x1.toInt (jst J0)) → qN n B (fun NF Z => R  gJ0 NF Z)) : qN n B (fun NF Z => v_FractionDresser_tryUnder_0 J0 J1 x1 (fun  u => R  u NF Z)) := qN_g1 (d_FractionDresser_tryUnder hp) (fun  u hq => h u hq)