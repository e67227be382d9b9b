set_option maxRecDepth 10000 in
theorem f_M_rowOf {I0 : Nat → Int32} {J0 : Nat → Int64} {f1 : Nat → Int32} {x1 : Int32} {x2 : Int32} {x3 : Int32} {Z1 Z2 : (Nat → Int32) × (Nat → Int32) → Prop} (hp : (0 ≤ (I0 37).toInt ∧ (I0 37).toInt ≤ 3 ∧ 0 ≤ (J0 36).toInt ∧ (J0 36).toInt < dtP (I0 37).toInt ∧ 0 ≤ (I0 35).toInt ∧ (I0 35).toInt ≤ 2958466 ∧ 1000 ≤ (I0 38).toInt ∧ (I0 38).toInt ≤ 100000 ∧ 1 ≤ (I0 39).toInt ∧ (I0 39).toInt ≤ 12 ∧ 0 ≤ (I0 40).toInt) ∧ okR x1.toInt x2.toInt) (hZ : ∀ (a33 : Int32) (gf1 : Nat → Int32), (pR f1 (I0 33).toInt gf1 ((zu I0 33 a33) 33).toInt (dvE (I0 38).toInt (I0 39).toInt (I0 40).toInt (I0 35).toInt ((J0 36).toInt / 10 ^ (I0 37).toInt.toNat) 0 x3.toInt (rkR x1.toInt) x2.toInt)) → Z1 ((zu I0 33 a33), gf1) → Z2 ((zu I0 33 a33), gf1)) : v_M_rowOf_0 I0 J0 4200 f1 x1 x2 x3 Z1 → v_M_rowOf_0 I0 J0 4200 f1 x1 x2 x3 Z2 := by
  have hZ2 : ∀ (I' : Nat → Int32) (gf1 : Nat → Int32), zfr [33] I0 I' → (pR f1 (I0 33).toInt gf1 (I' 33).toInt (dvE (I0 38).toInt (I0 39).toInt (I0 40).toInt (I0 35).toInt ((J0 36).toInt / 10 ^ (I0 37).toInt.toNat) 0 x3.toInt (rkR x1.toInt) x2.toInt)) → Z1 (I', gf1) → Z2 (I', gf1) := by
    intro I' gf1 hf hc
    obtain ⟨a33, rfl⟩ := zcn1 hf
    exact hZ _ _ hc
  clear hZ
  (try simp only [zu_s, zu_n, zin_iff, zb_iff, zc_iff, zle_lt, zle_le, zle_eq, zm1, zm8, Int32.reduceToInt, ↓reduceIte, ne_eq, Nat.reduceEqDiff, not_false_eq_true, not_true_eq_false, reduceCtorEq, or_true, true_or, or_false, false_or, and_true, true_and, and_false, false_and, true_implies, false_implies, implies_true, zl_lt, zl_le, zl_eq, zi64, Int64.reduceToInt] at hp); (try simp (disch := first | omega | ((simp (disch := (first | omega | ((simp only [Int32.reduceToInt, Int64.reduceToInt, zm1, zm8, zi64]); first | done | omega))) only [Int32.reduceToInt, Int64.reduceToInt, zm1, zm8, zadd1, zsub1, zmul1, zneg1, zdiv10p, zl_div10p, zl_mul1, zl_add1, zl_sub1, zi64]); first | done | omega)) only [Int32.reduceToInt, Int64.reduceToInt, zm1, zm8, zadd1, zsub1, zmul1, zneg1, zdiv10p, zl_div10p, zl_mul1, zl_add1, zl_sub1, zi64] at hp)
  obtain ⟨hp, hok⟩ := hp
  have hx2 : 1 ≤ x2.toInt ∧ x2.toInt ≤ 5 := by unfold okR at hok; omega
  have e35 := (zdif (x := I0 35) (y := 6) (a := (I0 35).toInt) (b := 6) rfl (by decide) (by omega) (by omega) (by omega) (by omega)).2
  have e7 := zmodn (x := I0 35 + 6) (y := 7) (b := 7) e35 (by decide) (by omega) (by decide)
  have e100 := zmodn (x := I0 38) (y := 100) (b := 100) rfl (by decide) (by omega) (by decide)
  refine x_M_rowOf_0 (f_M_tenTo ⟨by omega, by omega⟩ (fun r h => ?_))
  have q := sec_v (J := J0 36) h (by omega) (by omega)
  obtain ⟨S, hS⟩ : ∃ S, S = (J0 36).toInt / 10 ^ (I0 37).toInt.toNat := ⟨_, rfl⟩
  rw [← hS] at q hZ2
  have fin : ∀ (a : Int32) (g : Nat → Int32) (X : List Int), pR f1 (I0 33).toInt g a.toInt X → X = dvE (I0 38).toInt (I0 39).toInt (I0 40).toInt (I0 35).toInt S 0 x3.toInt (rkR x1.toInt) x2.toInt → Z1 (zu I0 33 a, g) → Z2 (zu I0 33 a, g) := fun a g X hA e => hZ2 _ _ (zfr_zu (by decide) zfr_refl) (by rw [zu_s]; exact pR_e hA e rfl)
  clear hZ2
  refine x_M_rowOf_11 (fI_and (fun _ => fI_all (fI_all ?_)))
  generalize ((J0 36) / r.toInt64).toInt32 = sc at q ⊢
  have d3 := zdvk (x := sc) (y := 3600) (b := 3600) q.1 (by decide) q.2.1 (by decide)
  have m12 := zmodn (x := sc / 3600) (y := 12) (b := 12) d3 (by decide) (by omega) (by decide)
  have d6 := zdvk (x := sc) (y := 60) (b := 60) q.1 (by decide) q.2.1 (by decide)
  have m6 := zmodn (x := sc / 60) (y := 60) (b := 60) d6 (by decide) (by omega) (by decide)
  have s6 := zmodn (x := sc) (y := 60) (b := 60) q.1 (by decide) q.2.1 (by decide)
  generalize I0 35 + 6 - (I0 35 + 6) / 7 * 7 = w7 at e7 ⊢
  generalize sc / 3600 - sc / 3600 / 12 * 12 = y12 at m12 ⊢
  generalize sc / 60 - sc / 60 / 60 * 60 = y60 at m6 ⊢
  generalize sc - sc / 60 * 60 = ys at s6 ⊢
  generalize sc / 3600 = yh at d3 ⊢
  refine fI_ite (fun h0 => ?_) (fun h0 => ?_)
  · simp only [zle_eq, Int32.reduceToInt] at h0
    refine fI_ite (fun h1 => ?_) (fun h1 => ?_)
    · simp only [zle_le, Int32.reduceToInt] at h1
      have hc4 : x2.toInt ≤ 4 := by unfold okR at hok; omega
      refine f_M_dayName True.intro (fun r2 hr => ?_)
      rw [e7] at hr
      refine x_M_rowOf_213 (fI_ite' (fun h2 => ?_) (fun h2 => ?_))
      · simp only [zle_eq, Int32.reduceToInt] at h2
        refine x_M_rowOf_224 (fI_ite' (fun h3 => ?_) (fun h3 => ?_))
        · rw [zle_eq, e7] at h3; simp only [Int32.reduceToInt] at h3
          refine x_M_rowOf_236 (f_M_name ⟨by decide, by decide⟩ (fun a g hA => x_M_rowOf_239 (x_M_rowOf_308 (fin a g _ hA (rv_dn h0 h1 (by rw [hr]; exact nm_dd (by omega) (by omega) h1 hc4 (Or.inr ⟨by omega, by decide⟩) (Or.inr ⟨h3, by decide⟩)))))))
        · rw [zle_eq, e7] at h3; simp only [Int32.reduceToInt] at h3
          refine x_M_rowOf_236 (f_M_name ⟨by decide, by decide⟩ (fun a g hA => x_M_rowOf_239 (x_M_rowOf_308 (fin a g _ hA (rv_dn h0 h1 (by rw [hr]; exact nm_dd (by omega) (by omega) h1 hc4 (Or.inr ⟨by omega, by decide⟩) (Or.inl ⟨h3, by decide⟩)))))))
      · simp only [zle_eq, Int32.reduceToInt] at h2
        refine x_M_rowOf_224 (fI_ite' (fun h3 => ?_) (fun h3 => ?_))
        · rw [zle_eq, e7] at h3; simp only [Int32.reduceToInt] at h3
          refine x_M_rowOf_236 (f_M_name ⟨by decide, by decide⟩ (fun a g hA => x_M_rowOf_239 (x_M_rowOf_308 (fin a g _ hA (rv_dn h0 h1 (by rw [hr]; exact nm_dd (by omega) (by omega) h1 hc4 (Or.inl ⟨by omega, by decide⟩) (Or.inr ⟨h3, by decide⟩)))))))
        · rw [zle_eq, e7] at h3; simp only [Int32.reduceToInt] at h3
          refine x_M_rowOf_236 (f_M_name ⟨by decide, by decide⟩ (fun a g hA => x_M_rowOf_239 (x_M_rowOf_308 (fin a g _ hA (rv_dn h0 h1 (by rw [hr]; exact nm_dd (by omega) (by omega) h1 hc4 (Or.inl ⟨by omega, by decide⟩) (Or.inl ⟨h3, by decide⟩)))))))
    · simp only [zle_le, Int32.reduceToInt] at h1
      have e := zhi (I0 40)
      refine f_M_figures ⟨by rw [zi64]; omega, by rw [zi64]; omega, by omega, by omega⟩ (fun a g hA => x_M_rowOf_204 (x_M_rowOf_308 (fin a g _ hA (by rw [zi64]; exact rv_d h0 h1))))
  · simp only [zle_eq, Int32.reduceToInt] at h0
    refine fI_ite (fun h1 => ?_) (fun h1 => ?_)
    · simp only [zle_eq, Int32.reduceToInt] at h1
      refine fI_ite' (fun h2 => ?_) (fun h2 => ?_)
      · simp only [zle_eq, Int32.reduceToInt] at h2
        refine fI_ite' (fun h3 => ?_) (fun h3 => ?_)
        · rw [zle_eq, m12] at h3; simp only [Int32.reduceToInt] at h3
          refine x_M_rowOf_273 (f_M_figures ⟨by rw [zi64, m12]; omega, by rw [zi64, m12]; omega, by omega, by omega⟩ (fun a g hA => x_M_rowOf_277 (x_M_rowOf_308 (fin a g _ hA (by rw [zi64, m12]; exact rv_h1 h1 h2 q.2.1 q.2.2 (Or.inl ⟨h3, rfl⟩))))))
        · rw [zle_eq, m12] at h3; simp only [Int32.reduceToInt] at h3
          refine x_M_rowOf_273 (f_M_figures ⟨by rw [lk_12]; decide, by rw [lk_12]; decide, by omega, by omega⟩ (fun a g hA => x_M_rowOf_277 (x_M_rowOf_308 (fin a g _ hA (by rw [lk_12]; exact rv_h1 h1 h2 q.2.1 q.2.2 (Or.inr ⟨h3, rfl⟩))))))
      · simp only [zle_eq, Int32.reduceToInt] at h2
        refine x_M_rowOf_273 (f_M_figures ⟨by rw [zi64, d3]; omega, by rw [zi64, d3]; omega, by omega, by omega⟩ (fun a g hA => x_M_rowOf_277 (x_M_rowOf_308 (fin a g _ hA (by rw [zi64, d3]; exact rv_h0 h1 h2)))))
    · simp only [zle_eq, Int32.reduceToInt] at h1
      refine fI_ite (fun h2 => ?_) (fun h2 => ?_)
      · simp only [zle_eq, Int32.reduceToInt] at h2
        refine fI_ite (fun h3 => ?_) (fun h3 => ?_)
        · simp only [zle_le, Int32.reduceToInt] at h3
          refine f_M_monthName True.intro (fun r2 hr => ?_)
          refine x_M_rowOf_148 (fI_ite' (fun h4 => ?_) (fun h4 => ?_))
          · simp only [zle_eq, Int32.reduceToInt] at h4
            refine fI_ite' (fun h5 => ?_) (fun h5 => ?_)
            · simp only [zle_eq, Int32.reduceToInt] at h5
              refine x_M_rowOf_168 (fI_ite' (fun h6 => ?_) (fun h6 => ?_))
              · simp only [zle_eq, Int32.reduceToInt] at h6
                refine x_M_rowOf_183 (f_M_name ⟨by decide, by decide⟩ (fun a g hA => x_M_rowOf_186 (x_M_rowOf_308 (fin a g _ hA (rv_mn h2 h3 (by rw [hr]; exact nm_mm (by omega) (by omega) h3 hx2.2 (Or.inr (Or.inr ⟨by omega, by decide⟩)) (Or.inr ⟨h6, by decide⟩)))))))
              · simp only [zle_eq, Int32.reduceToInt] at h6
                refine x_M_rowOf_183 (f_M_name ⟨by decide, by decide⟩ (fun a g hA => x_M_rowOf_186 (x_M_rowOf_308 (fin a g _ hA (rv_mn h2 h3 (by rw [hr]; exact nm_mm (by omega) (by omega) h3 hx2.2 (Or.inr (Or.inr ⟨by omega, by decide⟩)) (Or.inl ⟨h6, by decide⟩)))))))
            · simp only [zle_eq, Int32.reduceToInt] at h5
              refine x_M_rowOf_168 (fI_ite' (fun h6 => ?_) (fun h6 => ?_))
              · simp only [zle_eq, Int32.reduceToInt] at h6
                refine x_M_rowOf_183 (f_M_name ⟨by decide, by decide⟩ (fun a g hA => x_M_rowOf_186 (x_M_rowOf_308 (fin a g _ hA (rv_mn h2 h3 (by rw [hr]; exact nm_mm (by omega) (by omega) h3 hx2.2 (Or.inr (Or.inl ⟨by omega, by decide⟩)) (Or.inr ⟨h6, by decide⟩)))))))
              · simp only [zle_eq, Int32.reduceToInt] at h6
                refine x_M_rowOf_183 (f_M_name ⟨by decide, by decide⟩ (fun a g hA => x_M_rowOf_186 (x_M_rowOf_308 (fin a g _ hA (rv_mn h2 h3 (by rw [hr]; exact nm_mm (by omega) (by omega) h3 hx2.2 (Or.inr (Or.inl ⟨by omega, by decide⟩)) (Or.inl ⟨h6, by decide⟩)))))))
          · simp only [zle_eq, Int32.reduceToInt] at h4
            refine x_M_rowOf_168 (fI_ite' (fun h6 => ?_) (fun h6 => ?_))
            · simp only [zle_eq, Int32.reduceToInt] at h6
              refine x_M_rowOf_183 (f_M_name ⟨by decide, by decide⟩ (fun a g hA => x_M_rowOf_186 (x_M_rowOf_308 (fin a g _ hA (rv_mn h2 h3 (by rw [hr]; exact nm_mm (by omega) (by omega) h3 hx2.2 (Or.inl ⟨by omega, by decide⟩) (Or.inr ⟨h6, by decide⟩)))))))
            · simp only [zle_eq, Int32.reduceToInt] at h6
              refine x_M_rowOf_183 (f_M_name ⟨by decide, by decide⟩ (fun a g hA => x_M_rowOf_186 (x_M_rowOf_308 (fin a g _ hA (rv_mn h2 h3 (by rw [hr]; exact nm_mm (by omega) (by omega) h3 hx2.2 (Or.inl ⟨by omega, by decide⟩) (Or.inl ⟨h6, by decide⟩)))))))
        · simp only [zle_le, Int32.reduceToInt] at h3
          refine f_M_figures ⟨by rw [zi64]; omega, by rw [zi64]; omega, by omega, by omega⟩ (fun a g hA => x_M_rowOf_137 (x_M_rowOf_308 (fin a g _ hA (by rw [zi64]; exact rv_m h2 h3))))
      · simp only [zle_eq, Int32.reduceToInt] at h2
        refine fI_ite (fun h3 => ?_) (fun h3 => ?_)
        · simp only [zle_eq, Int32.reduceToInt] at h3
          refine f_M_figures ⟨by rw [zi64, m6]; omega, by rw [zi64, m6]; omega, by omega, by omega⟩ (fun a g hA => x_M_rowOf_294 (x_M_rowOf_308 (fin a g _ hA (by rw [zi64, m6]; exact rv_n h3))))
        · simp only [zle_eq, Int32.reduceToInt] at h3
          refine fI_ite (fun h4 => ?_) (fun h4 => ?_)
          · simp only [zle_eq, Int32.reduceToInt] at h4
            refine fI_ite' (fun h5 => ?_) (fun h5 => ?_)
            · simp only [zle_eq, Int32.reduceToInt] at h5
              refine f_M_figures ⟨by rw [zi64]; omega, by rw [zi64]; omega, by decide, by decide⟩ (fun a g hA => x_M_rowOf_119 (x_M_rowOf_308 (fin a g _ hA (by rw [zi64]; exact rv_y4 h4 (by unfold okR at hok; omega) (by omega)))))
            · simp only [zle_eq, Int32.reduceToInt] at h5
              refine f_M_figures ⟨by rw [zi64, e100]; omega, by rw [zi64, e100]; omega, by decide, by decide⟩ (fun a g hA => x_M_rowOf_106 (x_M_rowOf_308 (fin a g _ hA (by rw [zi64, e100]; exact rv_y2 h4 h5))))
          · simp only [zle_eq, Int32.reduceToInt] at h4
            refine f_M_figures ⟨by rw [zi64, s6]; omega, by rw [zi64, s6]; omega, by omega, by omega⟩ (fun a g hA => x_M_rowOf_308 (fin a g _ hA (by rw [zi64, s6]; exact rv_s h0 h1 h2 h3 h4)))