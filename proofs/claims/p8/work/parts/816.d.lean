set_option maxRecDepth 10000 in
theorem d_DateDresser_takeCalendarDay {I0 : Nat → Int32} {J0 : Nat → Int64} {x1 : Int32} (hp : 0 ≤ x1.toInt ∧ x1.toInt ≤ 3100000) : qG (qA1 (fun  u => ccO u x1.toInt)) (fun Z => v_DateDresser_takeCalendarDay_0 I0 J0 x1 Z) := by
  (try simp only [zu_s, zu_n, zin_iff, zb_iff, zc_iff, zle_lt, zle_le, zle_eq, zm1, zm8, qnI64, qnI4, qnz, Int32.reduceToInt, ↓reduceIte, ne_eq, Nat.reduceEqDiff, not_false_eq_true, not_true_eq_false, reduceCtorEq, or_true, true_or, or_false, false_or, and_true, true_and, and_false, false_and, true_implies, false_implies, implies_true, zl_lt, zl_le, zl_eq, zi64, Int64.reduceToInt] at hp); (try simp (disch := first | omega | ((simp (disch := (first | omega | ((simp only [Int32.reduceToInt, Int64.reduceToInt, zm1, zm8, zi64, qnI64]); first | done | omega))) only [Int32.reduceToInt, Int64.reduceToInt, zm1, zm8, zadd1, zsub1, zmul1, zneg1, zl_add1, zl_sub1, zi64, qnI64]); first | done | omega)) only [Int32.reduceToInt, Int64.reduceToInt, zm1, zm8, zadd1, zsub1, zmul1, zneg1, zl_add1, zl_sub1, zi64, qnI64] at hp)
  have bl0 := zlo x1; have bh0 := zhi x1
  have hb := cc_b (s := x1.toInt) (by omega)
  refine w_DateDresser_takeCalendarDay_0 (qG_all ?_)
  have hA := zmodn (x := x1) (y := 146097) (b := 146097) rfl (by decide) (by omega) (by decide)
  generalize x1 - x1 / 146097 * 146097 = y1 at *
  refine qG_all ?_
  have hN := cc_v1 hA (by omega) (by omega)
  generalize ((y1 - y1 / 1460) + y1 / 36524 - y1 / 146096) / 365 = y2 at *
  refine qG_all ?_
  have hR : _ = ccR (x1.toInt % 146097) := cc_v2 hA hN (by omega) (by omega) hb.1 hb.2.1
  generalize y1 - ((365 * y2 + y2 / 4) - y2 / 100) = y3 at *
  refine qG_all ?_
  have hF := cc_v3 hR hb.2.2.1 hb.2.2.2
  generalize (5 * y3 + 2) / 153 = y4 at *
  refine qG_all ?_
  have hD := cc_v4 hR hF.1 hb.2.2.1 hb.2.2.2
  generalize (y3 - (153 * y4 + 2) / 5) + 1 = y5 at *
  have ha := zdvk (x := x1) (y := 146097) (b := 146097) rfl (by decide) (by omega) (by decide)
  generalize x1 / 146097 = x2 at *
  refine qG_ite (fun h => ?_) (fun h => ?_)
  · rw [zle_le] at h
    have hM := ccM_v hF.1 hF.2.1 hF.2.2 (Or.inl ⟨h, rfl⟩)
    generalize y4 - 9 = m at *
    refine w_DateDresser_takeCalendarDay_105 (qG_ite (fun h2 => ?_) (fun h2 => ?_))
    · rw [zle_lt] at h2
      exact w_DateDresser_takeCalendarDay_134 (qG_ret1 (ccO_i (ccY_v ha hN (Or.inl ⟨by rw [← hM.1]; exact h2, rfl⟩) (by omega) (by omega)) hM.1 hD))
    · rw [zle_lt] at h2
      exact w_DateDresser_takeCalendarDay_134 (qG_ret1 (ccO_i (ccY_v ha hN (Or.inr ⟨by rw [← hM.1]; exact h2, rfl⟩) (by omega) (by omega)) hM.1 hD))
  · rw [zle_le] at h
    have hM := ccM_v hF.1 hF.2.1 hF.2.2 (Or.inr ⟨h, rfl⟩)
    generalize y4 + 3 = m at *
    refine w_DateDresser_takeCalendarDay_105 (qG_ite (fun h2 => ?_) (fun h2 => ?_))
    · rw [zle_lt] at h2
      exact w_DateDresser_takeCalendarDay_134 (qG_ret1 (ccO_i (ccY_v ha hN (Or.inl ⟨by rw [← hM.1]; exact h2, rfl⟩) (by omega) (by omega)) hM.1 hD))
    · rw [zle_lt] at h2
      exact w_DateDresser_takeCalendarDay_134 (qG_ret1 (ccO_i (ccY_v ha hN (Or.inr ⟨by rw [← hM.1]; exact h2, rfl⟩) (by omega) (by omega)) hM.1 hD))
theorem cg_DateDresser_takeCalendarDay {κ : Type} {A : (κ → Prop) → Prop} {I0 : Nat → Int32} {J0 : Nat → Int64} {x1 : Int32} {R : ((Nat → Int32)) → κ → Prop} (hp : 0 ≤ x1.toInt ∧ x1.toInt ≤ 3100000) (h : ∀ (gI0 : Nat → Int32), (ccO gI0 x1.toInt) → qG A (fun Z => R  gI0 Z)) : qG A (fun Z => v_DateDresser_takeCalendarDay_0 I0 J0 x1 (fun  u => R  u Z)) := qG_c1 (d_DateDresser_takeCalendarDay hp) (fun  u hq => h u hq)
theorem cn_DateDresser_takeCalendarDay {κ : Type} {n : Nat} {B : Nat → (κ → Prop) → Prop} {I0 : Nat → Int32} {J0 : Nat → Int64} {x1 : Int32} {R : ((Nat → Int32)) → Nat → κ → Prop} (hp : 0 ≤ x1.toInt ∧ x1.toInt ≤ 3100000) (h : ∀ (gI0 : Nat → Int32), (ccO gI0 x1.toInt) → qN n B (fun NF Z => R  gI0 NF Z)) : qN n B (fun NF Z => v_DateDresser_takeCalendarDay_0 I0 J0 x1 (fun  u => R  u NF Z)) := qN_g1 (d_DateDresser_takeCalendarDay hp) (fun  u hq => h u hq)