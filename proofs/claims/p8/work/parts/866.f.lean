set_option maxHeartbeats 2000000 in
set_option maxRecDepth 10000 in
theorem f_M_number0 {I0 : Nat → Int32} {J0 : Nat → Int64} {f1 : Nat → Int32} {x1 : Int32} {x2 : Int32} {x3 : Int32} {x4 : Int32} {Z1 Z2 : (Nat → Int32) × (Nat → Int32) → Prop} (hp : True) (hZ : ∀ (a0 : Int32) (a20 : Int32) (a23 : Int32) (a24 : Int32) (a25 : Int32) (gf1 : Nat → Int32), (((x2.toInt < 0 ∨ 99999999 < x2.toInt ∨ x3.toInt < 0 ∨ 999999999 < x3.toInt ∨ x4.toInt < -350 ∨ 300 < x4.toInt) ∧ ((zu (zu (zu (zu (zu I0 0 a0) 20 a20) 23 a23) 24 a24) 25 a25) 20).toInt = (I0 20).toInt ∧ ((zu (zu (zu (zu (zu I0 0 a0) 20 a20) 23 a23) 24 a24) 25 a25) 23).toInt = (I0 23).toInt ∧ ((zu (zu (zu (zu (zu I0 0 a0) 20 a20) 23 a23) 24 a24) 25 a25) 24).toInt = (I0 24).toInt ∧ ((zu (zu (zu (zu (zu I0 0 a0) 20 a20) 23 a23) 24 a24) 25 a25) 25).toInt = (I0 25).toInt ∧ gf1 = f1) ∨ (¬ (x2.toInt < 0 ∨ 99999999 < x2.toInt ∨ x3.toInt < 0 ∨ 999999999 < x3.toInt ∨ x4.toInt < -350 ∨ 300 < x4.toInt) ∧ ((zu (zu (zu (zu (zu I0 0 a0) 20 a20) 23 a23) 24 a24) 25 a25) 20).toInt = 0 ∧ ((((zu (zu (zu (zu (zu I0 0 a0) 20 a20) 23 a23) 24 a24) 25 a25) 23).toInt = 1 ∧ ¬ x1.toInt = 0 ∧ ¬ (x2.toInt * 1000000000 + x3.toInt) = 0) ∨ (((zu (zu (zu (zu (zu I0 0 a0) 20 a20) 23 a23) 24 a24) 25 a25) 23).toInt = 0 ∧ (x1.toInt = 0 ∨ (x2.toInt * 1000000000 + x3.toInt) = 0))) ∧ vR (x2.toInt * 1000000000 + x3.toInt) x4.toInt gf1 ((zu (zu (zu (zu (zu I0 0 a0) 20 a20) 23 a23) 24 a24) 25 a25) 24).toInt ((zu (zu (zu (zu (zu I0 0 a0) 20 a20) 23 a23) 24 a24) 25 a25) 25).toInt ∧ (((zu (zu (zu (zu (zu I0 0 a0) 20 a20) 23 a23) 24 a24) 25 a25) 24).toInt = 0 → ((zu (zu (zu (zu (zu I0 0 a0) 20 a20) 23 a23) 24 a24) 25 a25) 25).toInt = 0))) → Z1 ((zu (zu (zu (zu (zu I0 0 a0) 20 a20) 23 a23) 24 a24) 25 a25), gf1) → Z2 ((zu (zu (zu (zu (zu I0 0 a0) 20 a20) 23 a23) 24 a24) 25 a25), gf1)) : v_M_number0_0 I0 J0 20 f1 x1 x2 x3 x4 Z1 → v_M_number0_0 I0 J0 20 f1 x1 x2 x3 x4 Z2 := by
  have hZ2 : ∀ (I' : Nat → Int32) (gf1 : Nat → Int32), zfr [0, 20, 23, 24, 25] I0 I' → (((x2.toInt < 0 ∨ 99999999 < x2.toInt ∨ x3.toInt < 0 ∨ 999999999 < x3.toInt ∨ x4.toInt < -350 ∨ 300 < x4.toInt) ∧ (I' 20).toInt = (I0 20).toInt ∧ (I' 23).toInt = (I0 23).toInt ∧ (I' 24).toInt = (I0 24).toInt ∧ (I' 25).toInt = (I0 25).toInt ∧ gf1 = f1) ∨ (¬ (x2.toInt < 0 ∨ 99999999 < x2.toInt ∨ x3.toInt < 0 ∨ 999999999 < x3.toInt ∨ x4.toInt < -350 ∨ 300 < x4.toInt) ∧ (I' 20).toInt = 0 ∧ (((I' 23).toInt = 1 ∧ ¬ x1.toInt = 0 ∧ ¬ (x2.toInt * 1000000000 + x3.toInt) = 0) ∨ ((I' 23).toInt = 0 ∧ (x1.toInt = 0 ∨ (x2.toInt * 1000000000 + x3.toInt) = 0))) ∧ vR (x2.toInt * 1000000000 + x3.toInt) x4.toInt gf1 (I' 24).toInt (I' 25).toInt ∧ ((I' 24).toInt = 0 → (I' 25).toInt = 0))) → Z1 (I', gf1) → Z2 (I', gf1) := by
    intro I' gf1 hf hc
    obtain ⟨a0, a20, a23, a24, a25, rfl⟩ := zcn5 hf
    exact hZ _ _ _ _ _ _ hc
  clear hZ
  (try simp only [zu_s, zu_n, zin_iff, zb_iff, zc_iff, zle_lt, zle_le, zle_eq, zm1, zm8, Int32.reduceToInt, ↓reduceIte, ne_eq, Nat.reduceEqDiff, not_false_eq_true, not_true_eq_false, reduceCtorEq, or_true, true_or, or_false, false_or, and_true, true_and, and_false, false_and, true_implies, false_implies, implies_true, zl_lt, zl_le, zl_eq, zi64, Int64.reduceToInt] at hp); (try simp (disch := first | omega | ((simp (disch := (first | omega | ((simp only [Int32.reduceToInt, Int64.reduceToInt, zm1, zm8, zi64]); first | done | omega))) only [Int32.reduceToInt, Int64.reduceToInt, zm1, zm8, zadd1, zsub1, zmul1, zneg1, zdiv10p, zl_div10p, zl_mul1, zl_add1, zl_sub1, zi64]); first | done | omega)) only [Int32.reduceToInt, Int64.reduceToInt, zm1, zm8, zadd1, zsub1, zmul1, zneg1, zdiv10p, zl_div10p, zl_mul1, zl_add1, zl_sub1, zi64] at hp)
  have bad : (x2.toInt < 0 ∨ 99999999 < x2.toInt ∨ x3.toInt < 0 ∨ 999999999 < x3.toInt ∨ x4.toInt < -350 ∨ 300 < x4.toInt) → v_M_number0_37 I0 J0 20 f1 x1 x2 x3 x4 Z1 → v_M_number0_37 I0 J0 20 f1 x1 x2 x3 x4 Z2 := by
    intro hb
    refine x_M_number0_37 (x_M_number0_42 (fI_ite (fun h0 => ?_) (fun h0 => ?_)))
    · exact absurd h0 (by decide)
    · exact hZ2 _ _ (zfr_zu (by decide) zfr_refl) (Or.inl ⟨hb, rfl, rfl, rfl, rfl, rfl⟩)
  have good : ¬ (x2.toInt < 0 ∨ 99999999 < x2.toInt ∨ x3.toInt < 0 ∨ 999999999 < x3.toInt ∨ x4.toInt < -350 ∨ 300 < x4.toInt) → v_M_number0_42 I0 J0 20 f1 x1 x2 x3 x4 0 Z1 → v_M_number0_42 I0 J0 20 f1 x1 x2 x3 x4 0 Z2 := by
    intro hb
    obtain ⟨V, hVe⟩ : ∃ V, V = (x2.toInt * 1000000000 + x3.toInt) := ⟨_, rfl⟩
    have hV0 : 0 ≤ V := by omega
    have hV1 : V < 100000000000000000 := by omega
    rw [← hVe] at hZ2
    have fin : ∀ (K g : Nat → Int32), zfr [0, 20, 23, 24, 25] I0 K → (K 20).toInt = 0 → (((K 23).toInt = 1 ∧ ¬ x1.toInt = 0 ∧ ¬ V = 0) ∨ ((K 23).toInt = 0 ∧ (x1.toInt = 0 ∨ V = 0))) → vR V x4.toInt g (K 24).toInt (K 25).toInt → ((K 24).toInt = 0 → (K 25).toInt = 0) → Z1 (K, g) → Z2 (K, g) := fun K g a b c d e => hZ2 K g a (Or.inr ⟨hb, b, c, d, e⟩)
    clear hZ2
    have hs4 : -350 ≤ x4.toInt ∧ x4.toInt ≤ 300 := by omega
    have go86 := fun (K : Nat → Int32) (x5 : Int64) (s1 : Int32) (a : zfr [0, 20, 23, 24, 25] I0 K) (b : (K 20).toInt = 0) (c : ((s1.toInt = 1 ∧ ¬ x1.toInt = 0 ∧ ¬ V = 0) ∨ (s1.toInt = 0 ∧ (x1.toInt = 0 ∨ V = 0)))) (d : x5.toInt = V) => nm_86 (J0 := J0) (NG := fun a => ((a = 1 ∧ ¬ x1.toInt = 0 ∧ ¬ V = 0) ∨ (a = 0 ∧ (x1.toInt = 0 ∨ V = 0)))) (g := f1) (x5 := x5) (q := s1) fin hV0 hV1 hs4.1 hs4.2 a b c d
    refine x_M_number0_42 (fI_ite (fun h0 => ?_) (fun h0 => ?_))
    rotate_left
    · exact absurd (by decide) h0
    have h5 := nmV (x2 := x2) (x3 := x3) (by omega) (by omega) (by omega) (by omega)
    rw [← hVe] at h5
    have hf : zfr [0, 20, 23, 24, 25] I0 (zu (zu I0 0 0) 20 0) := zfr_zu (by decide) (zfr_zu (by decide) zfr_refl)
    refine fI_all (fI_ite (fun h1 => ?_) (fun h1 => ?_))
    · have h1 : x1.toInt = 0 := (congrArg Int32.toInt h1).trans (by decide)
      exact x_M_number0_85 (go86 _ _ 0 hf z32_0 (Or.inr ⟨by decide, Or.inl h1⟩) h5)
    have h1 : ¬ x1.toInt = 0 := fun c => h1 (zle_eq.2 (c.trans (by decide)))
    refine fI_ite (fun h2 => ?_) (fun h2 => ?_)
    · rw [zl_le, h5] at h2
      simp only [Int64.reduceToInt] at h2
      exact x_M_number0_85 (go86 _ _ 0 hf z32_0 (Or.inr ⟨by decide, Or.inr (by omega)⟩) h5)
    · rw [zl_le, h5] at h2
      simp only [Int64.reduceToInt] at h2
      exact go86 _ _ 1 hf z32_0 (Or.inl ⟨by decide, h1, by omega⟩) h5
  refine x_M_number0_0 ?_
  refine fI_ite (fun c0 => bad ?_) (fun c0 => ?_)
  · simp only [zle_lt, Int32.reduceToInt] at c0; omega
  simp only [zle_lt, Int32.reduceToInt] at c0
  refine fI_ite (fun c1 => bad ?_) (fun c1 => ?_)
  · simp only [zle_lt, Int32.reduceToInt] at c1; omega
  simp only [zle_lt, Int32.reduceToInt] at c1
  refine fI_ite (fun c2 => bad ?_) (fun c2 => ?_)
  · simp only [zle_lt, Int32.reduceToInt] at c2; omega
  simp only [zle_lt, Int32.reduceToInt] at c2
  refine fI_ite (fun c3 => bad ?_) (fun c3 => ?_)
  · simp only [zle_lt, Int32.reduceToInt] at c3; omega
  simp only [zle_lt, Int32.reduceToInt] at c3
  refine fI_ite (fun c4 => bad ?_) (fun c4 => ?_)
  · simp only [zle_lt, Int32.reduceToInt] at c4; omega
  simp only [zle_lt, Int32.reduceToInt] at c4
  refine fI_ite (fun c5 => good ?_) (fun c5 => bad ?_)
  · simp only [zle_le, Int32.reduceToInt] at c5; omega
  · simp only [zle_le, Int32.reduceToInt] at c5; omega