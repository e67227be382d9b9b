set_option maxHeartbeats 4000000 in
set_option maxRecDepth 10000 in
theorem s_M_colour {I0 : Nat → Int32} {J0 : Nat → Int64} {f1 : Nat → Int32} {x1 : Int32} {Z : Int32 → Unit → Prop} (hp : 0 ≤ x1.toInt ∧ x1.toInt ≤ 64 ∧ (I0 3).toInt ≤ 64) (hZ : ∀ (r : Int32), ((r.toInt = 0 ∨ (3 ≤ r.toInt ∧ r.toInt ≤ 9 ∧ x1.toInt + r.toInt ≤ (I0 3).toInt) ∧ yP f1 x1.toInt (x1.toInt + r.toInt)) ∧ r.toInt = ycol f1 (I0 3).toInt x1.toInt) → Z r ()) : v_M_colour_0 I0 J0 64 f1 x1 Z := by
  obtain ⟨NN, hNN⟩ : ∃ NN : Nat, NN = 20000000000000000000 := ⟨_, rfl⟩
  (try simp only [ych, ztn, zu_s, zu_n, zin_iff, zb_iff, zc_iff, zle_lt, zle_le, zle_eq, zm1, zm8, Int32.reduceToInt, ↓reduceIte, ne_eq, Nat.reduceEqDiff, not_false_eq_true, not_true_eq_false, reduceCtorEq, or_true, true_or, or_false, false_or, and_true, true_and, and_false, false_and, true_implies, false_implies, implies_true, zl_lt, zl_le, zl_eq, zi64, Int64.reduceToInt] at hp); (try simp (disch := first | omega | ((simp (disch := (first | omega | ((simp only [Int32.reduceToInt, Int64.reduceToInt, zm1, zm8, zi64]); first | done | omega))) only [Int32.reduceToInt, Int64.reduceToInt, zm1, zm8, zadd1, zsub1, zmul1, zneg1, zdiv10p, zl_div10p, zl_mul1, zl_add1, zl_sub1, zi64]); first | done | omega)) only [Int32.reduceToInt, Int64.reduceToInt, zm1, zm8, zadd1, zsub1, zmul1, zneg1, zdiv10p, zl_div10p, zl_mul1, zl_add1, zl_sub1, zi64] at hp)
  have lp139 : ∀ (K0 : Nat → Int32) (s0 : Int32), zfr [] I0 K0 → ((0 ≤ x1.toInt ∧ x1.toInt < (K0 3).toInt ∧ (K0 3).toInt ≤ 64 ∧ (f1 x1.toNatClampNeg).toInt = 91) ∧ (s0.toInt = 0 ∨ (3 ≤ s0.toInt ∧ s0.toInt ≤ 7 ∧ x1.toInt + 1 + s0.toInt ≤ (K0 3).toInt) ∧ yP f1 (x1.toInt + 1) (x1.toInt + 1 + s0.toInt)) ∧ ycn f1 (K0 3).toInt x1.toInt = s0.toInt) → v_M_colour_139 K0 J0 64 f1 x1 s0 Z := by
    intro K0 s0 hf hi
    have hf := (zcn0 hf).symm; subst hf
    (try simp only [ych, ztn, zu_s, zu_n, zin_iff, zb_iff, zc_iff, zle_lt, zle_le, zle_eq, zm1, zm8, Int32.reduceToInt, ↓reduceIte, ne_eq, Nat.reduceEqDiff, not_false_eq_true, not_true_eq_false, reduceCtorEq, or_true, true_or, or_false, false_or, and_true, true_and, and_false, false_and, true_implies, false_implies, implies_true, zl_lt, zl_le, zl_eq, zi64, Int64.reduceToInt] at hi); (try simp (disch := first | omega | ((simp (disch := (first | omega | ((simp only [Int32.reduceToInt, Int64.reduceToInt, zm1, zm8, zi64]); first | done | omega))) only [Int32.reduceToInt, Int64.reduceToInt, zm1, zm8, zadd1, zsub1, zmul1, zneg1, zdiv10p, zl_div10p, zl_mul1, zl_add1, zl_sub1, zi64]); first | done | omega)) only [Int32.reduceToInt, Int64.reduceToInt, zm1, zm8, zadd1, zsub1, zmul1, zneg1, zdiv10p, zl_div10p, zl_mul1, zl_add1, zl_sub1, zi64] at hi)
    obtain ⟨hi, hC, hn⟩ := hi
    have hD : s0.toInt = 0 ∨ 3 ≤ s0.toInt ∧ s0.toInt ≤ 7 ∧ x1.toInt + 1 + s0.toInt ≤ (I0 3).toInt := hC.imp id (fun c => c.1)
    have ha : (x1 + 1 + s0).toInt = x1.toInt + 1 + s0.toInt := by (first | omega | ((simp only [ych, ysm, ztn, zu_s, zu_n, zin_iff, zb_iff, zc_iff, zle_lt, zle_le, zle_eq, zm1, zm8, Int32.reduceToInt, ↓reduceIte, ne_eq, Nat.reduceEqDiff, not_false_eq_true, not_true_eq_false, reduceCtorEq, or_true, true_or, or_false, false_or, and_true, true_and, and_false, false_and, true_implies, false_implies, implies_true, zl_lt, zl_le, zl_eq, zi64, Int64.reduceToInt]); first | done | omega) | ((try simp only [ych, ysm, ztn, zu_s, zu_n, zin_iff, zb_iff, zc_iff, zle_lt, zle_le, zle_eq, zm1, zm8, Int32.reduceToInt, ↓reduceIte, ne_eq, Nat.reduceEqDiff, not_false_eq_true, not_true_eq_false, reduceCtorEq, or_true, true_or, or_false, false_or, and_true, true_and, and_false, false_and, true_implies, false_implies, implies_true, zl_lt, zl_le, zl_eq, zi64, Int64.reduceToInt]); (simp (disch := first | omega | ((simp (disch := (first | omega | ((simp only [Int32.reduceToInt, Int64.reduceToInt, zm1, zm8, zi64]); first | done | omega))) only [Int32.reduceToInt, Int64.reduceToInt, zm1, zm8, zadd1, zsub1, zmul1, zneg1, zdiv10p, zl_div10p, zl_mul1, zl_add1, zl_sub1, zi64]); first | done | omega)) only [Int32.reduceToInt, Int64.reduceToInt, zm1, zm8, zadd1, zsub1, zmul1, zneg1, zdiv10p, zl_div10p, zl_mul1, zl_add1, zl_sub1, zi64]); first | done | omega))
    have h20 : s0.toInt ≤ 7 := by omega
    have hb2 : (s0 + 2).toInt = s0.toInt + 2 := by rw [zadd1 (by simp only [Int32.reduceToInt]; omega) (by simp only [Int32.reduceToInt]; omega)]; rfl
    refine u_M_colour_139 ⟨fun c => hZ _ ⟨Or.inl rfl, ?_⟩, fun c => s_M_ch (by rw [ha]; rw [zle_le] at c; simp only [Int32.reduceToInt] at c; omega) (fun r h => u_M_colour_153 ⟨fun d => hZ _ ⟨Or.inl rfl, ?_⟩, fun d => hZ _ ⟨Or.inr ⟨?_, ?_⟩, ?_⟩⟩)⟩
    · rw [zle_le] at c; simp only [Int32.reduceToInt] at c; unfold ycol; rw [if_neg (by rw [hn]; omega)]; rfl
    · rw [zle_eq] at d; simp only [Int32.reduceToInt] at d; unfold ycol; rw [hn, ← ha, ← h, if_neg (fun q => d q.2)]; rfl
    · rw [zle_le] at c; simp only [Int32.reduceToInt] at c; rw [zle_eq, h, ha] at d; simp only [Int32.reduceToInt] at d; unfold ych at d; rw [hb2]; split at d <;> omega
    · rw [zle_le] at c; simp only [Int32.reduceToInt] at c; rw [zle_eq, h, ha] at d; simp only [Int32.reduceToInt] at d
      have h5 : (f1 (x1 + 1 + s0).toNatClampNeg).toInt = 93 := by unfold ych at d; split at d; rw [← ztn, ha]; exact d; omega
      exact yP_sn (x := x1 + 1 + s0) (b := x1.toInt + 1 + s0.toInt) (yP_cn (x := x1) (b := x1.toInt + 1) (hC.resolve_left (by omega)).2 rfl rfl (by unfold ypl; omega)) (by omega) (by omega) (by unfold ypl; omega)
    · rw [zle_le] at c; simp only [Int32.reduceToInt] at c; rw [zle_eq, h, ha] at d; simp only [Int32.reduceToInt] at d; unfold ycol; rw [hn, if_pos ⟨by omega, d⟩, hb2]
  have hq1 : (x1 + 1).toInt = x1.toInt + 1 := by rw [zadd1 (by simp only [Int32.reduceToInt]; omega) (by simp only [Int32.reduceToInt]; omega)]; rfl
  refine u_M_colour_0 (s_M_ch (by omega) (fun r h => u_M_colour_5 ⟨fun h1 => ?_, fun h1 => hZ _ ⟨Or.inl rfl, ?_⟩⟩))
  rotate_left
  · have hn : ycn f1 (I0 3).toInt x1.toInt = 0 := by unfold ycn; rw [if_pos (show ¬ ych f1 (I0 3).toInt x1.toInt = 91 from fun e => h1 (zle_eq.mpr (h.trans e)))]
    unfold ycol; rw [if_neg (by rw [hn]; omega)]; rfl
  rw [zle_eq, h] at h1
  have h2 : x1.toInt < (I0 3).toInt ∧ (f1 x1.toNatClampNeg).toInt = 91 := by unfold ych at h1; split at h1; exact ⟨by assumption, h1⟩; exact absurd h1 (by decide)
  have h3 : ¬ ¬ ych f1 (I0 3).toInt x1.toInt = 91 := fun q => q h1
  clear h1 h
  refine s_M_stands (by rw [hq1]; omega) (fun r h => u_M_colour_22 ?_)
  rw [hq1] at h
  refine ⟨fun c => have hT := (h.resolve_left (fun e => c (zle_eq.mpr e.1))).2; have hW := (yW1 (r := 1) (x1.toInt + 1) (Or.inr hT) rfl).resolve_left (by omega); u_M_colour_51 (lp139 I0 5 zfr_refl ⟨⟨by omega, h2.1, by omega, h2.2⟩, Or.inr ⟨⟨by decide, by decide, hW.1⟩, hW.2⟩, by unfold ycn; rw [if_neg h3, if_pos hT]; rfl⟩), fun c => ?_⟩
  have hN1 := (h.resolve_right (fun e => by have c := zle_eq.mp c; have e := e.1; rw [c] at e; exact absurd e (by decide))).2
  clear h c
  refine s_M_stands (by rw [hq1]; omega) (fun r h => u_M_colour_35 ?_)
  rw [hq1] at h
  refine ⟨fun c => have hT := (h.resolve_left (fun e => c (zle_eq.mpr e.1))).2; have hW := (yW2 (r := 1) (x1.toInt + 1) (Or.inr hT) rfl).resolve_left (by omega); u_M_colour_51 (lp139 I0 5 zfr_refl ⟨⟨by omega, h2.1, by omega, h2.2⟩, Or.inr ⟨⟨by decide, by decide, hW.1⟩, hW.2⟩, by unfold ycn; rw [if_neg h3, if_neg hN1, if_pos hT]; rfl⟩), fun c => ?_⟩
  have hN2 := (h.resolve_right (fun e => by have c := zle_eq.mp c; have e := e.1; rw [c] at e; exact absurd e (by decide))).2
  clear h c
  refine s_M_stands (by rw [hq1]; omega) (fun r h => u_M_colour_48 ?_)
  rw [hq1] at h
  refine ⟨fun c => ?_, fun c => have hT := (h.resolve_left (fun e => c (zle_eq.mpr e.1))).2; have hW := (yW3 (r := 1) (x1.toInt + 1) (Or.inr hT) rfl).resolve_left (by omega); u_M_colour_51 (lp139 I0 5 zfr_refl ⟨⟨by omega, h2.1, by omega, h2.2⟩, Or.inr ⟨⟨by decide, by decide, hW.1⟩, hW.2⟩, by unfold ycn; rw [if_neg h3, if_neg hN1, if_neg hN2, if_pos hT]; rfl⟩)⟩
  have hN3 := (h.resolve_right (fun e => by have c := zle_eq.mp c; have e := e.1; rw [c] at e; exact absurd e (by decide))).2
  clear h c
  refine s_M_stands (by rw [hq1]; omega) (fun r h => u_M_colour_65 ?_)
  rw [hq1] at h
  refine ⟨fun c => have hT := (h.resolve_left (fun e => c (zle_eq.mpr e.1))).2; have hW := (yW4 (r := 1) (x1.toInt + 1) (Or.inr hT) rfl).resolve_left (by omega); u_M_colour_81 (lp139 I0 4 zfr_refl ⟨⟨by omega, h2.1, by omega, h2.2⟩, Or.inr ⟨⟨by decide, by decide, hW.1⟩, hW.2⟩, by unfold ycn; rw [if_neg h3, if_neg hN1, if_neg hN2, if_neg hN3, if_pos hT]; rfl⟩), fun c => ?_⟩
  have hN4 := (h.resolve_right (fun e => by have c := zle_eq.mp c; have e := e.1; rw [c] at e; exact absurd e (by decide))).2
  clear h c
  refine s_M_stands (by rw [hq1]; omega) (fun r h => u_M_colour_78 ?_)
  rw [hq1] at h
  refine ⟨fun c => ?_, fun c => have hT := (h.resolve_left (fun e => c (zle_eq.mpr e.1))).2; have hW := (yW5 (r := 1) (x1.toInt + 1) (Or.inr hT) rfl).resolve_left (by omega); u_M_colour_81 (lp139 I0 4 zfr_refl ⟨⟨by omega, h2.1, by omega, h2.2⟩, Or.inr ⟨⟨by decide, by decide, hW.1⟩, hW.2⟩, by unfold ycn; rw [if_neg h3, if_neg hN1, if_neg hN2, if_neg hN3, if_neg hN4, if_pos hT]; rfl⟩)⟩
  have hN5 := (h.resolve_right (fun e => by have c := zle_eq.mp c; have e := e.1; rw [c] at e; exact absurd e (by decide))).2
  clear h c
  refine s_M_stands (by rw [hq1]; omega) (fun r h => u_M_colour_95 ?_)
  rw [hq1] at h
  refine ⟨fun c => ?_, fun c => have hT := (h.resolve_left (fun e => c (zle_eq.mpr e.1))).2; have hW := (yW6 (r := 1) (x1.toInt + 1) (Or.inr hT) rfl).resolve_left (by omega); lp139 I0 3 zfr_refl ⟨⟨by omega, h2.1, by omega, h2.2⟩, Or.inr ⟨⟨by decide, by decide, hW.1⟩, hW.2⟩, by unfold ycn; rw [if_neg h3, if_neg hN1, if_neg hN2, if_neg hN3, if_neg hN4, if_neg hN5, if_pos hT]; rfl⟩⟩
  have hN6 := (h.resolve_right (fun e => by have c := zle_eq.mp c; have e := e.1; rw [c] at e; exact absurd e (by decide))).2
  clear h c
  refine s_M_stands (by rw [hq1]; omega) (fun r h => u_M_colour_112 ?_)
  rw [hq1] at h
  refine ⟨fun c => ?_, fun c => have hT := (h.resolve_left (fun e => c (zle_eq.mpr e.1))).2; have hW := (yW7 (r := 1) (x1.toInt + 1) (Or.inr hT) rfl).resolve_left (by omega); lp139 I0 6 zfr_refl ⟨⟨by omega, h2.1, by omega, h2.2⟩, Or.inr ⟨⟨by decide, by decide, hW.1⟩, hW.2⟩, by unfold ycn; rw [if_neg h3, if_neg hN1, if_neg hN2, if_neg hN3, if_neg hN4, if_neg hN5, if_neg hN6, if_pos hT]; rfl⟩⟩
  have hN7 := (h.resolve_right (fun e => by have c := zle_eq.mp c; have e := e.1; rw [c] at e; exact absurd e (by decide))).2
  clear h c
  refine s_M_stands (by rw [hq1]; omega) (fun r h => u_M_colour_130 ?_)
  rw [hq1] at h
  exact ⟨fun c => have hN8 := (h.resolve_right (fun e => by have c := zle_eq.mp c; have e := e.1; rw [c] at e; exact absurd e (by decide))).2; lp139 I0 0 zfr_refl ⟨⟨by omega, h2.1, by omega, h2.2⟩, Or.inl rfl, by unfold ycn; rw [if_neg h3, if_neg hN1, if_neg hN2, if_neg hN3, if_neg hN4, if_neg hN5, if_neg hN6, if_neg hN7, if_neg hN8]; rfl⟩, fun c => have hT := (h.resolve_left (fun e => c (zle_eq.mpr e.1))).2; have hW := (yW8 (r := 1) (x1.toInt + 1) (Or.inr hT) rfl).resolve_left (by omega); lp139 I0 7 zfr_refl ⟨⟨by omega, h2.1, by omega, h2.2⟩, Or.inr ⟨⟨by decide, by decide, hW.1⟩, hW.2⟩, by unfold ycn; rw [if_neg h3, if_neg hN1, if_neg hN2, if_neg hN3, if_neg hN4, if_neg hN5, if_neg hN6, if_neg hN7, if_pos hT]; rfl⟩⟩
