/-! date items of the reference -/
section
variable {I0 f1 f2 f3 f4 f5 : Nat → Int32} {J0 : Nat → Int64} {x1 : Int32}
theorem gm_dateItem {Z1 Z2 : (Nat → Int32) × (Nat → Int32) × (Nat → Int32) × (Nat → Int32) × (Nat → Int32) → Prop} (hx : 0 ≤ (I0 14).toInt) (hx6 : (I0 14).toInt < (I0 3).toInt) (he : (I0 3).toInt ≤ 64) (h0 : 0 ≤ (I0 12).toInt) (h1 : (I0 12).toInt ≤ 100) (hf : 0 ≤ x1.toInt ∧ x1.toInt ≤ (I0 12).toInt)
    (hZ : ∀ (I g2 g3 g4 g5 : Nat → Int32), (0 ≤ (I 13).toInt ∨ rstp f2 f3 f4 f5 (I0 12).toInt g2 g3 g4 g5 (I 12).toInt x1.toInt 5 5 (I0 19).toInt (I 19).toInt (daL f1 (I0 3).toInt (I0 14).toInt ((I 14).toInt - (I0 14).toInt)) 0) → Z1 (I, g2, g3, g4, g5) → Z2 (I, g2, g3, g4, g5)) :
    v_M_dateItem_0 I0 J0 64 f1 320 f2 320 f3 320 f4 320 f5 x1 Z1 → v_M_dateItem_0 I0 J0 64 f1 320 f2 320 f3 320 f4 320 f5 x1 Z2 := by
  have a1 : (I0 14 + 1).toInt = (I0 14).toInt + 1 := zadd1 (by simp only [Int32.reduceToInt]; omega) (by simp only [Int32.reduceToInt]; omega)
  have k5 : (5 : Int) = 1 ∨ (5 : Int) = 2 ∨ (5 : Int) = 5 ∨ (5 : Int) = 6 := Or.inr (Or.inr (Or.inl rfl))
  refine x_M_dateItem_0 (f_M_low ⟨hx, he⟩ (fun x2 hs => x_M_dateItem_8 (fI_ex ?_)))
  -- a row
  have g173 : ∀ x3 s0 : Int32, (0 < x3.toInt ∧ x3.toInt ≤ 64) → kRw x2.toInt → (¬ s0 = 0 → okR x2.toInt x3.toInt) → v_M_dateItem_173 I0 J0 64 f1 320 f2 320 f3 320 f4 320 f5 x2 x3 s0 Z1 → v_M_dateItem_173 I0 J0 64 f1 320 f2 320 f3 320 f4 320 f5 x2 x3 s0 Z2 := fun x3 s0 h3 hR hok => by
    have e3 : (I0 14 + x3).toInt = (I0 14).toInt + x3.toInt := zadd1 (by omega) (by omega)
    refine x_M_dateItem_173 (fI_ite' (fun c => x_M_dateItem_188 (gm_item h0 (by omega) (fun g1 g2 g3 g4 b => x_M_dateItem_196 (x_M_dateItem_428 (hZ _ g1 g2 g3 g4 (Or.inr ?_)))))) (fun c => x_M_dateItem_188 (gm_item (I0 := zu I0 13 (I0 14)) h0 (by show (I0 12).toInt ≤ 1000; omega) (fun g1 g2 g3 g4 b => x_M_dateItem_196 (x_M_dateItem_428 (hZ _ g1 g2 g3 g4 (Or.inl hx)))))))
    refine rs_k b hf ?_ k5 rfl (fun w => ⟨w, rfl⟩) (Or.inr (Or.inr (Or.inr (Or.inl ⟨rfl, Or.inl ⟨show (11 : Int32).toInt = 11 by decide, hok c, Or.inl hR⟩⟩))))
    show [(rkR x2.toInt, x3.toInt)] = exR (daL f1 (I0 3).toInt (I0 14).toInt ((I0 14 + x3).toInt - (I0 14).toInt))
    unfold daL
    rw [hs] at hR
    unfold kRw at hR
    rw [if_pos hR, e3, show (I0 14).toInt + x3.toInt - (I0 14).toInt = x3.toInt by omega, ← hs]
    show _ = [if rkR x2.toInt = 15 then (1, x3.toInt) else (rkR x2.toInt, x3.toInt)]
    rw [if_neg (by have := rkR_b (a := x2.toInt); omega)]
  -- what is not a row
  have g424 : ¬ kRw x2.toInt → v_M_dateItem_424 I0 J0 64 f1 320 f2 320 f3 320 f4 320 f5 Z1 → v_M_dateItem_424 I0 J0 64 f1 320 f2 320 f3 320 f4 320 f5 Z2 := fun hR => by
    refine x_M_dateItem_424 (gm_plainItem hx (by omega) he h0 (by omega) (fun I g2 g3 g4 g5 h => x_M_dateItem_428 (hZ I g2 g3 g4 g5 ?_)))
    rcases h with h | ⟨h, hl, hat, e19⟩
    · exact Or.inl h
    refine Or.inr (rs_k h hf ?_ k5 rfl (fun w => ⟨by omega, rfl⟩) (Or.inr (Or.inl rfl)))
    unfold daL
    rw [hs] at hR
    unfold kRw at hR
    unfold kLit at hl
    have y97 : ¬ ysm (ych f1 (I0 3).toInt (I0 14).toInt) = 97 := by unfold ysm; split <;> omega
    rw [if_neg hR, if_neg (by omega), if_neg y97, if_neg (by omega)]; rfl
  have g361 : ¬ kRw x2.toInt → x2.toInt = 46 → ∀ (N : Nat) (x7 : Int32), 0 ≤ x7.toInt → (I0 14).toInt + 1 + x7.toInt ≤ (I0 3).toInt → (x7.toInt = 0 → ych f1 (I0 3).toInt ((I0 14).toInt + 1) = 48) → v_M_dateItem_361 J0 64 f1 320 f2 320 f3 320 f4 320 f5 Z1 N I0 x7 → v_M_dateItem_361 J0 64 f1 320 f2 320 f3 320 f4 320 f5 Z2 N I0 x7 := fun hR h46 N => by
    induction N with
    | zero => intro x7 _ _ _ h; exact h.elim
    | succ N ih =>
      intro x7 h7 h7e h70
      have e7 : (I0 14 + 1 + x7).toInt = (I0 14).toInt + 1 + x7.toInt := by rw [← a1]; exact zadd1 (by omega) (by omega)
      have e71 : (x7 + 1).toInt = x7.toInt + 1 := zadd1 (by simp only [Int32.reduceToInt]; omega) (by simp only [Int32.reduceToInt]; omega)
      refine x_M_dateItem_361 (f_M_ch ⟨by omega, he⟩ (fun r hr => x_M_dateItem_374 (fI_ite' (fun c => fI_ite (fun d => x_M_dateItem_399 (gm_item h0 (by omega) (fun g1 g2 g3 g4 b => x_M_dateItem_408 (x_M_dateItem_428 (hZ _ g1 g2 g3 g4 (Or.inr ?_)))))) (fun d => x_M_dateItem_399 (gm_item (I0 := zu I0 13 (I0 14)) h0 (by show (I0 12).toInt ≤ 1000; omega) (fun g1 g2 g3 g4 b => x_M_dateItem_408 (x_M_dateItem_428 (hZ _ g1 g2 g3 g4 (Or.inl hx))))))) (fun c => ?_))))
      · have d : x7.toInt ≤ 3 := by simp only [zle_le, Int32.reduceToInt] at d; exact d
        rw [e7] at hr
        have n0 : ¬ x7.toInt = 0 := fun q => c (zle_eq.2 (by rw [hr, q, Int.add_zero, h70 q]; decide))
        refine rs_k b hf ?_ k5 rfl (fun w => ⟨w, rfl⟩) (Or.inr (Or.inr (Or.inr (Or.inl ⟨rfl, Or.inr (Or.inr (Or.inr (Or.inr ⟨show (15 : Int32).toInt = 15 by decide, show 1 ≤ x7.toInt by omega, d⟩)))⟩))))
        show [(29, x7.toInt)] = exR (daL f1 (I0 3).toInt (I0 14).toInt ((I0 14 + 1 + x7).toInt - (I0 14).toInt))
        have c46 : ych f1 (I0 3).toInt (I0 14).toInt = 46 := ysm_i (hs.symm.trans h46) (by decide)
        have d46 : ysm (ych f1 (I0 3).toInt (I0 14).toInt) = 46 := hs.symm.trans h46
        unfold daL
        rw [hs] at hR
        unfold kRw at hR
        rw [if_neg hR, if_neg (by omega), if_neg (by omega), e7, if_pos ⟨c46, by omega⟩, show (I0 14).toInt + 1 + x7.toInt - (I0 14).toInt - 1 = x7.toInt by omega]; rfl
      · rw [e7] at hr
        have c48 : ych f1 (I0 3).toInt ((I0 14).toInt + 1 + x7.toInt) = 48 := by rw [← hr, c]; decide
        have lt := ych_z (f := f1) (e := (I0 3).toInt) (p := (I0 14).toInt + 1 + x7.toInt) (by omega)
        exact ih (x7 + 1) (by omega) (by omega) (fun q => by omega)
  have g94 : ∀ x3 x4 s0 : Int32, ((x3.toInt = 0 ∧ ¬ kRw x2.toInt) ∨ ((0 < x3.toInt ∧ x3.toInt ≤ 64) ∧ kRw x2.toInt)) → kBr f1 (I0 3).toInt (I0 14).toInt x4.toInt → v_M_dateItem_94 I0 J0 64 f1 320 f2 320 f3 320 f4 320 f5 x2 x3 x4 s0 Z1 → v_M_dateItem_94 I0 J0 64 f1 320 f2 320 f3 320 f4 320 f5 x2 x3 x4 s0 Z2 := fun x3 x4 s0 h3 hB => by
    refine x_M_dateItem_94 (fI_ite (fun c => ?_) (fun c => ?_))
    · have c : x3.toInt ≤ 0 := by simp only [zle_le, Int32.reduceToInt] at c; exact c
      have hR : ¬ kRw x2.toInt := by
        rcases h3 with w | w
        · exact w.2
        · omega
      have nR := hR
      rw [hs] at nR
      unfold kRw at nR
      refine fI_ite (fun d => ?_) (fun d => ?_)
      · refine f_M_stands ⟨hx, by omega, he⟩ (fun r hr => x_M_dateItem_273 (fI_ite (fun w => ?_) (fun w => ?_)))
        · refine f_M_stands ⟨hx, by omega, he⟩ (fun r2 hr2 => x_M_dateItem_308 (fI_ite (fun w2 => ?_) (fun w2 => ?_)))
          · refine fI_ite' (fun _ => g424 hR) (fun d46 => fI_ite (fun _ => g424 hR) (fun _ => f_M_ch ⟨by omega, he⟩ (fun r3 hr3 => x_M_dateItem_353 (fI_ite' (fun _ => g424 hR) (fun z => fI_ex (fun N => g361 hR (by rw [d46]; decide) N 0 (by decide) ?_ (fun _ => ?_)))))))
            · rw [a1] at hr3
              have c48 : ych f1 (I0 3).toInt ((I0 14).toInt + 1) = 48 := by rw [← hr3, z]; decide
              have lt := ych_z (f := f1) (e := (I0 3).toInt) (p := (I0 14).toInt + 1) (by omega)
              rw [z32_0]; omega
            · rw [a1] at hr3
              rw [← hr3, z]; decide
          · have w2 : ySt f1 (I0 3).toInt (I0 14).toInt 6369136 := by
              rcases hr2 with ⟨y, _⟩ | ⟨_, y⟩
              · exact absurd (zle_eq.2 (y.trans (by decide))) w2
              · exact y
            have h97 := k_ap0 (kw_ap.1 w2)
            refine gm_item h0 (by omega) (fun g1 g2 g3 g4 b => x_M_dateItem_319 (x_M_dateItem_428 (hZ _ g1 g2 g3 g4 (Or.inr ?_))))
            refine rs_k b hf ?_ k5 rfl (fun w => ⟨w, rfl⟩) (Or.inr (Or.inr (Or.inr (Or.inl ⟨rfl, Or.inr (Or.inr (Or.inr (Or.inl (by decide))))⟩))))
            have e5 : (I0 14 + 3).toInt = (I0 14).toInt + 3 := zadd1 (by simp only [Int32.reduceToInt]; omega) (by simp only [Int32.reduceToInt]; omega)
            show [(30, 1)] = exR (daL f1 (I0 3).toInt (I0 14).toInt ((I0 14 + 3).toInt - (I0 14).toInt))
            have n91 : ¬ ych f1 (I0 3).toInt (I0 14).toInt = 91 := fun q => by rw [q] at h97; exact absurd h97 (by decide)
            unfold daL
            rw [if_neg nR, if_neg n91, if_pos h97, e5, if_neg (by omega)]; rfl
        · have w : ySt f1 (I0 3).toInt (I0 14).toInt 418443653229 := by
            rcases hr with ⟨y, _⟩ | ⟨_, y⟩
            · exact absurd (zle_eq.2 (y.trans (by decide))) w
            · exact y
          have h97 := k_am0 (kw_am.1 w)
          refine gm_item h0 (by omega) (fun g1 g2 g3 g4 b => x_M_dateItem_284 (x_M_dateItem_428 (hZ _ g1 g2 g3 g4 (Or.inr ?_))))
          refine rs_k b hf ?_ k5 rfl (fun w => ⟨w, rfl⟩) (Or.inr (Or.inr (Or.inr (Or.inl ⟨rfl, Or.inr (Or.inr (Or.inl (by decide)))⟩))))
          have e5 : (I0 14 + 5).toInt = (I0 14).toInt + 5 := zadd1 (by simp only [Int32.reduceToInt]; omega) (by simp only [Int32.reduceToInt]; omega)
          show [(30, 2)] = exR (daL f1 (I0 3).toInt (I0 14).toInt ((I0 14 + 5).toInt - (I0 14).toInt))
          have n91 : ¬ ych f1 (I0 3).toInt (I0 14).toInt = 91 := fun q => by rw [q] at h97; exact absurd h97 (by decide)
          unfold daL
          rw [if_neg nR, if_neg n91, if_pos h97, e5, if_pos (by omega)]; rfl
      · have d : 0 < x4.toInt := by simp only [zle_le, Int32.reduceToInt] at d; omega
        have c91 := (kBr_co hB d).1
        refine fI_ite (fun d2 => x_M_dateItem_228 (f_M_low ⟨by omega, he⟩ (fun r hr => x_M_dateItem_241 (gm_item h0 (by omega) (fun g1 g2 g3 g4 b => x_M_dateItem_246 (x_M_dateItem_428 (hZ _ g1 g2 g3 g4 (Or.inr ?_)))))))) (fun d2 => x_M_dateItem_228 (f_M_low (I0 := zu I0 13 (I0 14)) ⟨by show 0 ≤ (I0 14 + 1).toInt; omega, he⟩ (fun r hr => x_M_dateItem_241 (gm_item (I0 := zu I0 13 (I0 14)) h0 (by show (I0 12).toInt ≤ 1000; omega) (fun g1 g2 g3 g4 b => x_M_dateItem_246 (x_M_dateItem_428 (hZ _ g1 g2 g3 g4 (Or.inl hx))))))))
        have d2 : x4.toInt ≤ 2 := by simp only [zle_le, Int32.reduceToInt] at d2; exact d2
        rw [a1] at hr
        have hH := (kBr_hms hB).resolve_left (by omega)
        have e4 : (I0 14 + x4).toInt = (I0 14).toInt + x4.toInt := zadd1 (by omega) (by omega)
        have e5 : (I0 14 + x4 + 2).toInt = (I0 14).toInt + x4.toInt + 2 := by rw [← e4]; exact zadd1 (by simp only [Int32.reduceToInt]; omega) (by simp only [Int32.reduceToInt]; omega)
        refine rs_k b hf ?_ k5 rfl (fun w => ⟨w, rfl⟩) (Or.inr (Or.inr (Or.inr (Or.inl ⟨rfl, Or.inr (Or.inl ⟨show (12 : Int32).toInt = 12 by decide, show 1 ≤ x4.toInt by omega, d2, by rw [← hr] at hH; exact hH⟩)⟩))))
        show [(rkA r.toInt, x4.toInt)] = exR (daL f1 (I0 3).toInt (I0 14).toInt ((I0 14 + x4 + 2).toInt - (I0 14).toInt))
        unfold daL
        rw [if_neg nR, if_pos c91, e5, show (I0 14).toInt + x4.toInt + 2 - (I0 14).toInt - 2 = x4.toInt by omega, ← hr]
        show _ = [if rkA r.toInt = 15 then (1, x4.toInt) else (rkA r.toInt, x4.toInt)]
        rw [if_neg (by have := rkA_b (a := r.toInt); omega)]
    · have c : 0 < x3.toInt := by simp only [zle_le, Int32.reduceToInt] at c; omega
      have h3 : (0 < x3.toInt ∧ x3.toInt ≤ 64) ∧ kRw x2.toInt := by
        rcases h3 with w | w
        · omega
        · exact w
      have xn : ∀ y : Int32, ¬ x2 = y → ¬ x2.toInt = y.toInt := fun y q w => q (zle_eq.2 w)
      refine fI_ite' (fun d1 => fI_ite' (fun d2 => fI_ite' (fun d3 => fI_ite (fun w => g173 x3 0 h3.1 h3.2 (fun q => absurd rfl q)) (fun w => g173 x3 1 h3.1 h3.2 (fun _ => ?_))) (fun d3 => fI_ite (fun w => g173 x3 0 h3.1 h3.2 (fun q => absurd rfl q)) (fun w => g173 x3 1 h3.1 h3.2 (fun _ => ?_)))) (fun d2 => fI_ite (fun w => g173 x3 0 h3.1 h3.2 (fun q => absurd rfl q)) (fun w => g173 x3 1 h3.1 h3.2 (fun _ => ?_)))) (fun d1 => fI_ite (fun w => x_M_dateItem_116 (g173 x3 1 h3.1 h3.2 (fun _ => ?_))) (fun w => fI_ite' (fun w2 => g173 x3 0 h3.1 h3.2 (fun q => absurd rfl q)) (fun w2 => x_M_dateItem_116 (g173 x3 1 h3.1 h3.2 (fun _ => ?_)))))
      · have n1 := xn _ d1
        have n2 := xn _ d2
        have n3 := xn _ d3
        simp only [zle_le, Int32.reduceToInt] at n1 n2 n3 w
        exact Or.inr (Or.inr (Or.inr ⟨n1, n2, n3, by omega, by omega⟩))
      · simp only [zle_le, Int32.reduceToInt] at w
        exact Or.inr (Or.inr (Or.inl ⟨by rw [d3]; decide, by omega, by omega⟩))
      · simp only [zle_le, Int32.reduceToInt] at w
        exact Or.inr (Or.inl ⟨by rw [d2]; decide, by omega, by omega⟩)
      · exact Or.inl ⟨by rw [d1]; decide, Or.inl (by rw [w]; decide)⟩
      · exact Or.inl ⟨by rw [d1]; decide, Or.inr (by rw [w2]; decide)⟩
  have g38 : ∀ x3 : Int32, ((x3.toInt = 0 ∧ ¬ kRw x2.toInt) ∨ ((0 < x3.toInt ∧ x3.toInt ≤ 64) ∧ kRw x2.toInt)) → v_M_dateItem_38 I0 J0 64 f1 320 f2 320 f3 320 f4 320 f5 x1 x2 x3 Z1 → v_M_dateItem_38 I0 J0 64 f1 320 f2 320 f3 320 f4 320 f5 x1 x2 x3 Z2 := fun x3 h3 => by
    refine x_M_dateItem_38 (f_M_inBrackets ⟨hx, by omega, he⟩ (fun x4 hB => x_M_dateItem_46 (f_M_before ⟨h0, h1, hf.1⟩ (fun r _ => ?_))))
    have g93 : v_M_dateItem_93 I0 J0 64 f1 320 f2 320 f3 320 f4 320 f5 x2 x3 x4 Z1 → v_M_dateItem_93 I0 J0 64 f1 320 f2 320 f3 320 f4 320 f5 x2 x3 x4 Z2 := x_M_dateItem_93 (g94 x3 x4 0 h3 hB)
    have g69 : v_M_dateItem_69 I0 J0 64 f1 320 f2 320 f3 320 f4 320 f5 x2 x3 x4 Z1 → v_M_dateItem_69 I0 J0 64 f1 320 f2 320 f3 320 f4 320 f5 x2 x3 x4 Z2 := x_M_dateItem_69 (fI_and (fun _ => fI_ite' (fun _ => g93) (fun _ => g94 x3 x4 1 h3 hB)))
    exact x_M_dateItem_53 (fI_ite (fun _ => g69) (fun _ => fI_ite' (fun _ => g93) (fun _ => g69)))
  have lp : ∀ (N : Nat) (x3 : Int32), 0 ≤ x3.toInt → (I0 14).toInt + x3.toInt ≤ (I0 3).toInt → (x3.toInt = 0 ∨ kRw x2.toInt) → v_M_dateItem_11 I0 J0 64 f1 320 f2 320 f3 320 f4 320 f5 x1 x2 Z1 N x3 → v_M_dateItem_11 I0 J0 64 f1 320 f2 320 f3 320 f4 320 f5 x1 x2 Z2 N x3 := by
    intro N
    induction N with
    | zero => intro x3 _ _ _ h; exact h.elim
    | succ N ih =>
      intro x3 h3 h3e hk
      have e3 : (I0 14 + x3).toInt = (I0 14).toInt + x3.toInt := zadd1 (by omega) (by omega)
      have e31 : (x3 + 1).toInt = x3.toInt + 1 := zadd1 (by simp only [Int32.reduceToInt]; omega) (by simp only [Int32.reduceToInt]; omega)
      refine x_M_dateItem_11 (f_M_isRow trivial (fun t ht => x_M_dateItem_15 (fI_ite (fun c => g38 x3 (Or.inl ?_)) (fun c => f_M_low ⟨by omega, he⟩ (fun r hr => x_M_dateItem_28 (fI_ite' (fun d => g38 x3 (Or.inr ?_)) (fun d => ?_)))))))
      · have nR : ¬ kRw x2.toInt := by
          rcases ht with ⟨w, _⟩ | ⟨_, w⟩
          · rw [c] at w; exact absurd w (by decide)
          · exact w
        exact ⟨hk.resolve_right nR, nR⟩
      · have yR : kRw x2.toInt := by
          rcases ht with ⟨_, w⟩ | ⟨w, _⟩
          · exact w
          · exact absurd (zle_eq.2 (w.trans (by decide))) c
        rw [e3] at hr
        refine ⟨⟨?_, by omega⟩, yR⟩
        rcases Int.lt_or_le 0 x3.toInt with z | z
        · exact z
        · rw [show (I0 14).toInt + x3.toInt = (I0 14).toInt by omega, ← hs] at hr
          exact absurd (zle_eq.2 hr) d
      · have yR : kRw x2.toInt := by
          rcases ht with ⟨_, w⟩ | ⟨w, _⟩
          · exact w
          · exact absurd (zle_eq.2 (w.trans (by decide))) c
        rw [e3, d] at hr
        have nz : ¬ ych f1 (I0 3).toInt ((I0 14).toInt + x3.toInt) = 0 := fun q => by
          rw [q] at hr
          have : ysm 0 = 0 := by decide
          unfold kRw at yR
          omega
        have lt := ych_z nz
        exact ih (x3 + 1) (by omega) (by omega) (Or.inr yR)
  exact fun N => lp N 0 (by decide) (by rw [z32_0]; omega) (Or.inl (by decide))
end
