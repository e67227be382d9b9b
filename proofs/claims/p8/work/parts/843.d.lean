set_option maxHeartbeats 2000000 in
set_option maxRecDepth 10000 in
theorem d_DateDresser_dress {I0 : Nat → Int32} {J0 : Nat → Int64} {J1 : Nat → Int64} {I2 : Nat → Int32} {J2 : Nat → Int64} {I3 : Nat → Int32} {J3 : Nat → Int64} {I4 : Nat → Int32} {n5 : Nat} {f5 : Nat → Int32} {I6 : Nat → Int32} {I7 : Nat → Int32} {f8 : Nat → Int32} {f9 : Nat → Int32} {x4 : Int32} (hp : qR n5 f5 ∧ (0 ≤ (J2 2).toInt ∧ (J2 2).toInt < 100000000000000000 ∧ -350 ≤ (I2 3).toInt ∧ (I2 3).toInt ≤ 300 ∧ 0 ≤ (I6 13).toInt ∧ (I6 13).toInt ≤ 3) ∧ wsO I6 f8 f9 (I7 4).toInt) : qN n5 (qB1 (fun NF  u => u.2.2.2.2.2.2.1 = NF ∧ qR NF (u.2.2.2.2.2.2.2) ∧ (∃ T, ddP (J2 2).toInt (I2 3).toInt (I6 13).toInt (I6 14).toInt x4.toInt (cs f8 f9 (I6 1).toInt (I6 2).toInt) T ∧ pC n5 f5 (I4 1).toInt u.2.2.2.2.2.2.1 u.2.2.2.2.2.2.2 (u.2.2.2.2.2.1 1).toInt (T)))) (fun NF Z => v_DateDresser_dress_0 I0 J0 J1 I2 J2 I3 J3 I4 n5 f5 I6 I7 64 f8 64 f9 x4 NF Z) := by
  obtain ⟨hR, hp⟩ := hp
  (try simp only [zu_s, zu_n, zin_iff, zb_iff, zc_iff, zle_lt, zle_le, zle_eq, zm1, zm8, qnI64, qnI4, qnz, Int32.reduceToInt, ↓reduceIte, ne_eq, Nat.reduceEqDiff, not_false_eq_true, not_true_eq_false, reduceCtorEq, or_true, true_or, or_false, false_or, and_true, true_and, and_false, false_and, true_implies, false_implies, implies_true, zl_lt, zl_le, zl_eq, zi64, Int64.reduceToInt] at hp); (try simp (disch := first | omega | ((simp (disch := (first | omega | ((simp only [Int32.reduceToInt, Int64.reduceToInt, zm1, zm8, zi64, qnI64]); first | done | omega))) only [Int32.reduceToInt, Int64.reduceToInt, zm1, zm8, zadd1, zsub1, zmul1, zneg1, zl_add1, zl_sub1, zi64, qnI64]); first | done | omega)) only [Int32.reduceToInt, Int64.reduceToInt, zm1, zm8, zadd1, zsub1, zmul1, zneg1, zl_add1, zl_sub1, zi64, qnI64] at hp)
  have bl0 := zlo x4; have bh0 := zhi x4
  have bl1 := zlo (I2 3); have bh1 := zhi (I2 3)
  have bl2 := zlo (I6 13); have bh2 := zhi (I6 13)
  have bl3 := zlo (I7 4); have bh3 := zhi (I7 4)
  obtain ⟨hp, hws⟩ := hp
  have hwb := wsO_b hws
  have hrb := spR_bd (v := (J2 2).toInt) (s := (I2 3).toInt) (by omega) (by omega)
  have hW0 := spW_0 (v := (J2 2).toInt) (s := (I2 3).toInt) (by omega)
  refine w_DateDresser_dress_0 (cn_Split_take ⟨by omega, by omega, by omega, by omega⟩ (fun gJ1 gI3 gJ3 h => ?_))
  obtain ⟨hdm, hrs⟩ := h
  dsimp only
  have hdo := dgO_i hdm (by decide) (by decide)
  have hdb := dgO_b hdo.1
  refine w_DateDresser_dress_8 (qN_ite' (fun h0 => ?_) (fun h0 => ?_))
  · simp only [zle_eq, Int32.reduceToInt] at h0
    exact w_DateDresser_dress_28 (cn_Look_put hR (fun gI gn gf hn h1 => w_DateDresser_dress_35 (qN_ret1 ⟨rfl, h1.1, dd_0 (pC_35 h1.2) (Or.inl h0)⟩)))
  simp only [zle_eq, Int32.reduceToInt] at h0
  refine cn_Digits_wholes ⟨by omega, by omega, by omega, by omega⟩ (fun r h1 => ?_)
  have hw := dg7 hdm (dgW_v h1)
  refine w_DateDresser_dress_23 (qN_ite (fun h2 => ?_) (fun h2 => ?_))
  · simp only [zle_le, Int32.reduceToInt] at h2
    have h7 := hw.1 h2
    refine cn_DateDresser_takeTime ⟨⟨by rw [hrs]; exact hrb.1, by rw [hrs]; exact hrb.2, by omega, by omega⟩, hdo.1, by rw [hdo.2]; exact hW0, by rw [hdo.2]; omega⟩ (fun gJ h3 => ?_)
    rw [hdo.2, hrs] at h3
    have hJb := dtO_b h3 hW0 h7 hrb.1 hrb.2 (by omega) (by omega)
    refine w_DateDresser_dress_44 (qN_ite (fun h4 => ?_) (fun h4 => ?_))
    · simp only [zl_lt, Int64.reduceToInt] at h4
      have e32 : ((gJ 1).toInt32).toInt = (gJ 1).toInt := zl_i32 (by omega) (by omega)
      refine cn_DateDresser_takeDay ⟨by rw [e32]; omega, by rw [e32]; omega⟩ (fun gI0 h5 => ?_)
      rw [e32] at h5
      refine w_DateDresser_dress_72 (qN_ex (((I6 2).toInt - (I6 1).toInt).toNat + 1) ?_)
      exact dd_lp hws ⟨hJb.1.1, by omega, hJb.2.1.1, hJb.2.1.2, hJb.2.2.1, hJb.2.2.2⟩ (cdO_bb h5 (by omega)) (fun K m g hR2 hA => qN_ret1 ⟨rfl, hR2, dd_1 hA h0 h7 h3 h5 h4⟩) _ I4 n5 f5 (I6 1) hR (Int.le_refl _) (by omega) (dG_i hws) (Nat.lt_succ_self _)
    · simp only [zl_lt, Int64.reduceToInt] at h4
      exact cn_Look_put hR (fun gI gn gf hn h5 => w_DateDresser_dress_62 (qN_ret1 ⟨rfl, h5.1, dd_9 (pC_35 h5.2) h0 h7 h3 h4⟩))
  · simp only [zle_le, Int32.reduceToInt] at h2
    exact w_DateDresser_dress_28 (cn_Look_put hR (fun gI gn gf hn h1 => w_DateDresser_dress_35 (qN_ret1 ⟨rfl, h1.1, dd_0 (pC_35 h1.2) (Or.inr (hw.2 h2))⟩)))
theorem cn_DateDresser_dress {κ : Type} {B : Nat → (κ → Prop) → Prop} {I0 : Nat → Int32} {J0 : Nat → Int64} {J1 : Nat → Int64} {I2 : Nat → Int32} {J2 : Nat → Int64} {I3 : Nat → Int32} {J3 : Nat → Int64} {I4 : Nat → Int32} {n5 : Nat} {f5 : Nat → Int32} {I6 : Nat → Int32} {I7 : Nat → Int32} {f8 : Nat → Int32} {f9 : Nat → Int32} {x4 : Int32} {R : ((Nat → Int32) × (Nat → Int64) × (Nat → Int64) × (Nat → Int32) × (Nat → Int64) × (Nat → Int32) × (Nat) × (Nat → Int32)) → Nat → κ → Prop} (hp : qR n5 f5 ∧ (0 ≤ (J2 2).toInt ∧ (J2 2).toInt < 100000000000000000 ∧ -350 ≤ (I2 3).toInt ∧ (I2 3).toInt ≤ 300 ∧ 0 ≤ (I6 13).toInt ∧ (I6 13).toInt ≤ 3) ∧ wsO I6 f8 f9 (I7 4).toInt) (h : ∀ (gI0 : Nat → Int32) (gJ0 : Nat → Int64) (gJ1 : Nat → Int64) (gI3 : Nat → Int32) (gJ3 : Nat → Int64) (gI4 : Nat → Int32) (gn5 : Nat) (gf5 : Nat → Int32), n5 ≤ gn5 → qR gn5 gf5 ∧ (∃ T, ddP (J2 2).toInt (I2 3).toInt (I6 13).toInt (I6 14).toInt x4.toInt (cs f8 f9 (I6 1).toInt (I6 2).toInt) T ∧ pC n5 f5 (I4 1).toInt gn5 gf5 (gI4 1).toInt (T)) → qN gn5 B (fun NF Z => R (gI0, gJ0, gJ1, gI3, gJ3, gI4, gn5, gf5) NF Z)) : qN n5 B (fun NF Z => ∃ Nc, n5 ≤ Nc ∧ Nc ≤ NF ∧ v_DateDresser_dress_0 I0 J0 J1 I2 J2 I3 J3 I4 n5 f5 I6 I7 64 f8 64 f9 x4 Nc (fun u => R u NF Z)) := by
  refine qN_c1 (d_DateDresser_dress hp) (fun Nc u hl hq => ?_)
  obtain ⟨gI0, gJ0, gJ1, gI3, gJ3, gI4, gn5, gf5⟩ := u
  obtain ⟨he, hq⟩ := hq; dsimp only at he hq; subst he; exact h _ _ _ _ _ _ _ _ hl hq