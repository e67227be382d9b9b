set_option maxHeartbeats 2000000 in
set_option maxRecDepth 10000 in
theorem d_DateDresser_putDay {I0 : Nat → Int32} {J0 : Nat → Int64} {I1 : Nat → Int32} {n2 : Nat} {f2 : Nat → Int32} {x1 : Int32} {x2 : Int32} (hp : qR n2 f2 ∧ 0 ≤ (J0 1).toInt ∧ (J0 1).toInt ≤ 3000000 ∧ 0 ≤ (I0 4).toInt ∧ 0 ≤ (I0 5).toInt ∧ 0 ≤ (I0 6).toInt) : qN n2 (qB1 (fun NF  u => u.2.1 = NF ∧ qR NF (u.2.2) ∧ pC n2 f2 (I1 1).toInt u.2.1 u.2.2 (u.1 1).toInt (dvD (I0 4).toInt (I0 5).toInt (I0 6).toInt (J0 1).toInt x1.toInt x2.toInt))) (fun NF Z => v_DateDresser_putDay_0 I0 J0 I1 n2 f2 x1 x2 NF Z) := by
  obtain ⟨hR, hp⟩ := hp
  (try simp only [zu_s, zu_n, zin_iff, zb_iff, zc_iff, zle_lt, zle_le, zle_eq, zm1, zm8, qnI64, qnI4, qnz, Int32.reduceToInt, ↓reduceIte, ne_eq, Nat.reduceEqDiff, not_false_eq_true, not_true_eq_false, reduceCtorEq, or_true, true_or, or_false, false_or, and_true, true_and, and_false, false_and, true_implies, false_implies, implies_true, zl_lt, zl_le, zl_eq, zi64, Int64.reduceToInt] at hp); (try simp (disch := first | omega | ((simp (disch := (first | omega | ((simp only [Int32.reduceToInt, Int64.reduceToInt, zm1, zm8, zi64, qnI64]); first | done | omega))) only [Int32.reduceToInt, Int64.reduceToInt, zm1, zm8, zadd1, zsub1, zmul1, zneg1, zl_add1, zl_sub1, zi64, qnI64]); first | done | omega)) only [Int32.reduceToInt, Int64.reduceToInt, zm1, zm8, zadd1, zsub1, zmul1, zneg1, zl_add1, zl_sub1, zi64, qnI64] at hp)
  have bl0 := zlo x1; have bh0 := zhi x1
  have bl1 := zlo x2; have bh1 := zhi x2
  have bl2 := zlo (I0 4); have bh2 := zhi (I0 4)
  have bl3 := zlo (I0 5); have bh3 := zhi (I0 5)
  have bl4 := zlo (I0 6); have bh4 := zhi (I0 6)
  have e4 : ((I0 4).toInt64).toInt = (I0 4).toInt := by rw [zi64]
  have e5 : ((I0 5).toInt64).toInt = (I0 5).toInt := by rw [zi64]
  have e6 : ((I0 6).toInt64).toInt = (I0 6).toInt := by rw [zi64]
  have e7 := tm_7 (x := J0 1) rfl hp.1 hp.2.1
  have g4 : 0 ≤ ((I0 4).toInt64).toInt := by rw [e4]; exact hp.2.2.1
  have g5 : 0 ≤ ((I0 5).toInt64).toInt := by rw [e5]; exact hp.2.2.2.1
  have g6 : 0 ≤ ((I0 6).toInt64).toInt := by rw [e6]; exact hp.2.2.2.2
  refine w_DateDresser_putDay_0 (qN_ite' (fun h0 => ?_) (fun h0 => ?_))
  · simp only [zle_eq, Int32.reduceToInt] at h0
    refine qN_ite (fun h1 => ?_) (fun h1 => ?_)
    · simp only [zle_lt, Int32.reduceToInt] at h1
      refine qN_ite' (fun h2 => ?_) (fun h2 => ?_)
      · simp only [zle_eq, Int32.reduceToInt] at h2
        refine cn_DateDresser_weekdayName True.intro (fun r h => ?_)
        rw [e7] at h
        refine w_DateDresser_putDay_99 (cn_DateDresser_putName ⟨hR, nm_ok (by rw [h]; exact (wdI_k _).1) (by rw [h]; exact (wdI_k _).2)⟩ (fun gI gn gf hn h5 => w_DateDresser_putDay_109 (qN_ret1 ⟨rfl, h5.1, pC_e h5.2 (dvD_6 h0 h2 h1 h rfl)⟩)))
      · simp only [zle_eq, Int32.reduceToInt] at h2
        refine cn_DateDresser_monthName True.intro (fun r h => ?_)
        refine w_DateDresser_putDay_80 (w_DateDresser_putDay_99 (cn_DateDresser_putName ⟨hR, nm_ok (by rw [h]; exact (mnI_k _).1) (by rw [h]; exact (mnI_k _).2)⟩ (fun gI gn gf hn h5 => w_DateDresser_putDay_109 (qN_ret1 ⟨rfl, h5.1, pC_e h5.2 (dvD_5 h0 h2 h1 h)⟩))))
    · simp only [zle_lt, Int32.reduceToInt] at h1
      refine qN_ite' (fun h2 => ?_) (fun h2 => ?_)
      · simp only [zle_eq, Int32.reduceToInt] at h2
        refine w_DateDresser_putDay_60 (cn_Look_putNumber ⟨hR, g6⟩ (fun gI gn gf hn h5 => w_DateDresser_putDay_64 (w_DateDresser_putDay_109 (qN_ret1 ⟨rfl, h5.1, pC_e h5.2 (by rw [e6]; exact dvD_4 h0 h2 h1)⟩))))
      · simp only [zle_eq, Int32.reduceToInt] at h2
        refine w_DateDresser_putDay_60 (cn_Look_putNumber ⟨hR, g5⟩ (fun gI gn gf hn h5 => w_DateDresser_putDay_64 (w_DateDresser_putDay_109 (qN_ret1 ⟨rfl, h5.1, pC_e h5.2 (by rw [e5]; exact dvD_3 h0 h2 h1)⟩))))
  · simp only [zle_eq, Int32.reduceToInt] at h0
    refine qN_ite' (fun h2 => ?_) (fun h2 => ?_)
    · simp only [zle_eq, Int32.reduceToInt] at h2
      refine w_DateDresser_putDay_28 (cn_Look_putNumber ⟨hR, g4⟩ (fun gI gn gf hn h5 => w_DateDresser_putDay_32 (w_DateDresser_putDay_109 (qN_ret1 ⟨rfl, h5.1, pC_e h5.2 (by rw [e4]; exact dvD_2 h0 h2)⟩))))
    · simp only [zle_eq, Int32.reduceToInt] at h2
      have e : ((I0 4) - (I0 4) / 100 * 100).toInt64.toInt = (I0 4).toInt % 100 := by rw [zi64]; exact zmodn (y := 100) (b := 100) rfl (by decide) hp.2.2.1 (by decide)
      refine w_DateDresser_putDay_28 (cn_Look_putNumber ⟨hR, by rw [e]; omega⟩ (fun gI gn gf hn h5 => w_DateDresser_putDay_32 (w_DateDresser_putDay_109 (qN_ret1 ⟨rfl, h5.1, pC_e h5.2 (by rw [e]; exact dvD_1 h0 h2)⟩))))
theorem cn_DateDresser_putDay {κ : Type} {B : Nat → (κ → Prop) → Prop} {I0 : Nat → Int32} {J0 : Nat → Int64} {I1 : Nat → Int32} {n2 : Nat} {f2 : Nat → Int32} {x1 : Int32} {x2 : Int32} {R : ((Nat → Int32) × (Nat) × (Nat → Int32)) → Nat → κ → Prop} (hp : qR n2 f2 ∧ 0 ≤ (J0 1).toInt ∧ (J0 1).toInt ≤ 3000000 ∧ 0 ≤ (I0 4).toInt ∧ 0 ≤ (I0 5).toInt ∧ 0 ≤ (I0 6).toInt) (h : ∀ (gI1 : Nat → Int32) (gn2 : Nat) (gf2 : Nat → Int32), n2 ≤ gn2 → qR gn2 gf2 ∧ pC n2 f2 (I1 1).toInt gn2 gf2 (gI1 1).toInt (dvD (I0 4).toInt (I0 5).toInt (I0 6).toInt (J0 1).toInt x1.toInt x2.toInt) → qN gn2 B (fun NF Z => R (gI1, gn2, gf2) NF Z)) : qN n2 B (fun NF Z => ∃ Nc, n2 ≤ Nc ∧ Nc ≤ NF ∧ v_DateDresser_putDay_0 I0 J0 I1 n2 f2 x1 x2 Nc (fun u => R u NF Z)) := by
  refine qN_c1 (d_DateDresser_putDay hp) (fun Nc u hl hq => ?_)
  obtain ⟨gI1, gn2, gf2⟩ := u
  obtain ⟨he, hq⟩ := hq; dsimp only at he hq; subst he; exact h _ _ _ hl hq