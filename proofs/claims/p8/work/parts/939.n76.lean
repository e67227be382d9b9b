/-! number items, date items, items of the class -/
theorem st_s {S K M K2 M2 : Nat → Int32} {n n2 k c : Int} (hA : apA K M n K2 M2 n2 [(k, c)]) (hb : 0 ≤ (S 1).toInt ∧ (S 1).toInt ≤ n) (h6 : n ≤ 63) (hk : k = 1 ∨ k = 13 ∨ (20 ≤ k ∧ k ≤ 28)) : stepO S S K M n K2 M2 n2 (S 0).toInt (S 0).toInt [(k, c)] 0 :=
  st_k hA hb h6 rfl rfl (by omega) (by decide) (fun _ _ h => sC_n h.2.2.1 (neu_1 (by omega)))
theorem ysm_i {c d : Int} (h : ysm c = d) (hd : d < 65 ∨ (90 < d ∧ d < 97)) : c = d := by
  unfold ysm at h
  split at h <;> omega
theorem ysm_j {c d : Int} (h : ¬ ysm c = d) (hd : d < 65 ∨ 90 < d) : ¬ c = d := by
  unfold ysm at h
  split at h <;> omega
section
variable {I0 I1 I2 I3 I5 f1 f2 f3 f4 f5 : Nat → Int32} {x1 x2 : Int32}
theorem g_readNumberItem {Z1 Z2 : Int32 → (Nat → Int32) × (Nat → Int32) × (Nat → Int32) × (Nat → Int32) → Prop} (hc : qC f1) (hx : 0 ≤ x1.toInt) (hx6 : x1.toInt ≤ 63) (he : (I0 1).toInt ≤ 64) (hb : 0 ≤ (I2 1).toInt ∧ (I2 1).toInt ≤ (I3 4).toInt) (h6 : (I3 4).toInt ≤ x1.toInt) (h20 : (I2 0).toInt = 2) (h3 : -5000 ≤ (I2 3).toInt ∧ (I2 3).toInt ≤ 5000) (h10 : -5000 ≤ (I2 10).toInt ∧ (I2 10).toInt ≤ 5000) (hZ : ∀ (r : Int32) (S I g4 g5 : Nat → Int32), (r.toInt ≤ 0 ∨ stepO I2 S f4 f5 (I3 4).toInt g4 g5 (I 4).toInt (I2 0).toInt (S 0).toInt (nuL f1 (I0 1).toInt x1.toInt (kLf f4 (I2 1).toInt (I3 4).toInt) (I2 5).toInt r.toInt) (if ysm (ych f1 (I0 1).toInt x1.toInt) = 37 then 1 else 0)) → Z1 r (S, I, g4, g5) → Z2 r (S, I, g4, g5)) : v_Reader_readNumberItem_0 I0 64 f1 I2 I3 64 f4 64 f5 x1 Z1 → v_Reader_readNumberItem_0 I0 64 f1 I2 I3 64 f4 64 f5 x1 Z2 := by
  refine x_Reader_readNumberItem_0 (h_Reader_small ⟨hc, hx, he⟩ (fun s u hs => ?_))
  have pl : (s.toInt = 48 ∨ s.toInt = 35 ∨ s.toInt = 63) → v_Reader_readPlace_0 I0 I2 I3 64 f4 64 f5 s (fun r u => v_Reader_readNumberItem_85 I0 64 f1 u.1 u.2.1 64 u.2.2.1 64 u.2.2.2 r Z1) → v_Reader_readPlace_0 I0 I2 I3 64 f4 64 f5 s (fun r u => v_Reader_readNumberItem_85 I0 64 f1 u.1 u.2.1 64 u.2.2.1 64 u.2.2.2 r Z2) := fun q =>
    g_readPlace hb (by omega) (fun r S I g3 g4 h => x_Reader_readNumberItem_85 (hZ r S I g3 g4 (by
      rw [hs] at q h
      rw [if_neg (show ¬ ysm (ych f1 (I0 1).toInt x1.toInt) = 37 by omega)]
      unfold nuL
      rw [if_pos q]; exact h)))
  refine x_Reader_readNumberItem_5 (fI_ite (fun c => pl (by rw [c]; decide)) (fun c1 => fI_ite (fun c => ?_) (fun c2 => fI_ite (fun c => ?_) (fun c3 => fI_ite (fun c => ?_) (fun c4 => fI_ite (fun c => ?_) (fun c5 => fI_ite (fun c => pl (by rw [c]; decide)) (fun c6 => fI_ite (fun c => pl (by rw [c]; decide)) (fun c7 => fI_ite (fun c => ?_) (fun c8 => hZ 0 I2 I3 f4 f5 (Or.inl (by decide)))))))))))
  · have d : ysm (ych f1 (I0 1).toInt x1.toInt) = 37 := by rw [← hs, c]; decide
    refine g_addOne (by omega) (by omega) (fun I g1 g2 a b => x_Reader_readNumberItem_116 (hZ 1 _ I g1 g2 (Or.inr ?_)))
    unfold nuL
    rw [d, if_neg (by decide), if_neg (by decide), if_neg (by decide), if_pos rfl, if_pos rfl]
    rw [c] at b
    exact st_k b hb (by omega) rfl rfl (by decide) (by decide) (fun L pc h => sC_pc h.2.2.1 h.2.2.2.2.1 (by have := (secO_b h).2; omega))
  · have d : ysm (ych f1 (I0 1).toInt x1.toInt) = 44 := by rw [← hs, c]; decide
    refine g_readComma hc hx (by omega) he hb (by omega) (fun r I S g3 g4 h => x_Reader_readNumberItem_96 (hZ r S I g3 g4 ?_))
    rw [if_neg (show ¬ ysm (ych f1 (I0 1).toInt x1.toInt) = 37 by rw [d]; decide)]
    unfold nuL
    rw [d, if_neg (by decide), if_neg (by decide), if_pos rfl]
    exact h
  · have d : ysm (ych f1 (I0 1).toInt x1.toInt) = 46 := by rw [← hs, c]; decide
    refine g_readPoint hb (by omega) (fun r S I g3 g4 h => x_Reader_readNumberItem_90 (hZ r S I g3 g4 ?_))
    rw [if_neg (show ¬ ysm (ych f1 (I0 1).toInt x1.toInt) = 37 by rw [d]; decide)]
    unfold nuL
    rw [d, if_neg (by decide), if_pos rfl]
    exact h
  · have d : ysm (ych f1 (I0 1).toInt x1.toInt) = 47 := by rw [← hs, c]; decide
    refine g_readFraction hc hx hx6 he hb h6 h20 h3 h10 (fun r I S g3 g4 h => x_Reader_readNumberItem_128 (hZ r S I g3 g4 ?_))
    rw [if_neg (show ¬ ysm (ych f1 (I0 1).toInt x1.toInt) = 37 by rw [d]; decide)]
    unfold nuL
    rw [d, if_neg (by decide), if_neg (by decide), if_neg (by decide), if_neg (by decide), if_neg (by decide)]
    exact h
  · have d : ysm (ych f1 (I0 1).toInt x1.toInt) = 101 := by rw [← hs, c]; decide
    refine g_readPower hc hx hx6 he hb h6 h20 (fun r I S g3 g4 h => x_Reader_readNumberItem_122 (hZ r S I g3 g4 ?_))
    rw [if_neg (show ¬ ysm (ych f1 (I0 1).toInt x1.toInt) = 37 by rw [d]; decide)]
    unfold nuL
    rw [d, if_neg (by decide), if_neg (by decide), if_neg (by decide), if_neg (by decide), if_pos rfl]
    exact h
theorem g_readRow {Z1 Z2 : Int32 → (Nat → Int32) × (Nat → Int32) × (Nat → Int32) → Prop} (hc : qC f1) (hx : 0 ≤ x1.toInt) (hx6 : x1.toInt ≤ 63) (he : (I0 1).toInt ≤ 64) (h0 : 0 ≤ (I2 4).toInt) (h1 : (I2 4).toInt ≤ 63) (hs : x2.toInt = ysm (ych f1 (I0 1).toInt x1.toInt)) (hk : kRw x2.toInt) (hZ : ∀ (r : Int32) (I g1 g2 : Nat → Int32), (r.toInt ≤ 0 ∨ apA f3 f4 (I2 4).toInt g1 g2 (I 4).toInt [(rkR x2.toInt, r.toInt)]) → Z1 r (I, g1, g2) → Z2 r (I, g1, g2)) : v_Reader_readRow_0 I0 64 f1 I2 64 f3 64 f4 x1 x2 Z1 → v_Reader_readRow_0 I0 64 f1 I2 64 f3 64 f4 x1 x2 Z2 := by
  have hno := hZ 0 I2 f3 f4 (Or.inl (by decide))
  refine x_Reader_readRow_0 (h_Reader_rowLength ⟨hc, hx, by omega, he, fun q => by unfold kRw at hk; omega⟩ (fun r u _ => ?_))
  have g58 : x2 = 121 → v_Reader_readRow_58 I0 64 f1 I2 64 f3 64 f4 r Z1 → v_Reader_readRow_58 I0 64 f1 I2 64 f3 64 f4 r Z2 := fun c => x_Reader_readRow_58 (g_addRow h0 h1 (fun I g1 g2 _ b => x_Reader_readRow_65 (hZ r I g1 g2 (Or.inr (by rw [c]; exact b)))))
  refine x_Reader_readRow_5 (fI_ite (fun c => fI_ite (fun _ => hno) (fun _ => g_addRow h0 h1 (fun I g1 g2 _ b => x_Reader_readRow_99 (hZ r I g1 g2 (Or.inr (by rw [c]; exact b)))))) (fun c1 => fI_ite (fun c => fI_ite (fun _ => hno) (fun _ => g_addRow h0 h1 (fun I g1 g2 _ b => x_Reader_readRow_116 (hZ r I g1 g2 (Or.inr (by rw [c]; exact b)))))) (fun c2 => fI_ite (fun c => fI_ite (fun _ => hno) (fun _ => g_addRow h0 h1 (fun I g1 g2 _ b => x_Reader_readRow_82 (hZ r I g1 g2 (Or.inr (by rw [c]; exact b)))))) (fun c3 => fI_ite (fun c => fI_ite (fun _ => g58 c) (fun _ => fI_ite' (fun _ => hno) (fun _ => g58 c))) (fun c4 => fI_ite (fun _ => hno) (fun _ => g_addRow h0 h1 (fun I g1 g2 _ b => x_Reader_readRow_133 (hZ r I g1 g2 (Or.inr ?_)))))))))
  have n : ∀ y : Int32, ¬ x2 = y → ¬ x2.toInt = y.toInt := fun y q w => q (zle_eq.2 w)
  have n1 := n _ c1
  have n2 := n _ c2
  have n3 := n _ c3
  have n4 := n _ c4
  simp only [Int32.reduceToInt] at n1 n2 n3 n4
  have e : x2.toInt = 115 := by unfold kRw at hk; omega
  rw [e]; exact b
theorem g_readInAll {Z1 Z2 : Int32 → (Nat → Int32) × (Nat → Int32) × (Nat → Int32) → Prop} (hc : qC f1) (hx : 0 ≤ x1.toInt) (hx6 : x1.toInt ≤ 63) (he : (I0 1).toInt ≤ 64) (h0 : 0 ≤ (I2 4).toInt) (h1 : (I2 4).toInt ≤ 63) (hZ : ∀ (r : Int32) (I g1 g2 : Nat → Int32), (r.toInt ≤ 0 ∨ apA f3 f4 (I2 4).toInt g1 g2 (I 4).toInt [(rkA (ysm (ych f1 (I0 1).toInt (x1.toInt + 1))), r.toInt - 2)]) → Z1 r (I, g1, g2) → Z2 r (I, g1, g2)) : v_Reader_readInAll_0 I0 64 f1 I2 64 f3 64 f4 x1 x2 Z1 → v_Reader_readInAll_0 I0 64 f1 I2 64 f3 64 f4 x1 x2 Z2 := by
  have hx1 : (x1 + 1).toInt = x1.toInt + 1 := zadd1 (by simp only [Int32.reduceToInt]; omega) (by simp only [Int32.reduceToInt]; omega)
  have hno := hZ 0 I2 f3 f4 (Or.inl (by decide))
  refine x_Reader_readInAll_0 (fI_ite (fun _ => hno) (fun c1 => fI_ite (fun c2 => h_Reader_small ⟨hc, by rw [hx1]; omega, he⟩ (fun r u hr => ?_)) (fun _ => hno)))
  simp only [zle_lt, zle_le, Int32.reduceToInt] at c1 c2
  have e2 : (x2 + 2).toInt = x2.toInt + 2 := zadd1 (by simp only [Int32.reduceToInt]; omega) (by simp only [Int32.reduceToInt]; omega)
  rw [hx1] at hr
  have g48 : ∀ k : Int32, k.toInt = rkA r.toInt → v_Reader_readInAll_48 I0 64 f1 I2 64 f3 64 f4 x2 k Z1 → v_Reader_readInAll_48 I0 64 f1 I2 64 f3 64 f4 x2 k Z2 := fun k hk => x_Reader_readInAll_48 (g_Code_add h0 h1 (fun I g1 g2 _ b => x_Reader_readInAll_52 (hZ (x2 + 2) I g1 g2 (Or.inr (by
    rw [← hr, e2, show x2.toInt + 2 - 2 = x2.toInt by omega, ← hk]; exact b)))))
  refine x_Reader_readInAll_19 (fI_ite' (fun c => fI_ite' (fun d => g48 28 ?_) (fun d => g48 27 (by rw [d]; decide))) (fun c => g48 26 (by rw [c]; decide)))
  unfold rkA
  rw [if_neg (fun q => c (zle_eq.2 (q.trans (by decide)))), if_neg (fun q => d (zle_eq.2 (q.trans (by decide))))]; decide
theorem g_readHalfDay {Z1 Z2 : Int32 → (Nat → Int32) × (Nat → Int32) × (Nat → Int32) × (Nat → Int32) → Prop} (hb : 0 ≤ (I1 1).toInt ∧ (I1 1).toInt ≤ (I2 4).toInt) (h6 : (I2 4).toInt ≤ 63) (hZ : ∀ (r : Int32) (S I g3 g4 : Nat → Int32), (r.toInt ≤ 0 ∨ stepO I1 S f3 f4 (I2 4).toInt g3 g4 (I 4).toInt (I1 0).toInt (S 0).toInt [(30, if r.toInt = 5 then 2 else 1)] 0) → Z1 r (S, I, g3, g4) → Z2 r (S, I, g3, g4)) : v_Reader_readHalfDay_0 I0 I1 I2 64 f3 64 f4 x1 Z1 → v_Reader_readHalfDay_0 I0 I1 I2 64 f3 64 f4 x1 Z2 := by
  refine x_Reader_readHalfDay_0 (fI_ite (fun c => x_Reader_readHalfDay_31 (hZ x1 I1 I2 f3 f4 (Or.inl ?_))) (fun c => fI_ite' (fun d => x_Reader_readHalfDay_28 (g_Code_add (by omega) h6 (fun I g1 g2 _ b => x_Reader_readHalfDay_31 (hZ x1 _ I g1 g2 (Or.inr ?_))))) (fun d => x_Reader_readHalfDay_28 (g_Code_add (by omega) h6 (fun I g1 g2 _ b => x_Reader_readHalfDay_31 (hZ x1 _ I g1 g2 (Or.inr ?_)))))))
  · simp only [zle_le, Int32.reduceToInt] at c; exact c
  · rw [if_neg (fun q => d (zle_eq.2 (q.trans (by decide))))]
    exact st_k b hb h6 rfl rfl (by decide) (by decide) (fun L pc h => sC_30 h.2.2.1)
  · rw [if_pos (by rw [d]; decide)]
    exact st_k b hb h6 rfl rfl (by decide) (by decide) (fun L pc h => sC_30 h.2.2.1)
theorem g_readParts {Z1 Z2 : Int32 → (Nat → Int32) × (Nat → Int32) × (Nat → Int32) × (Nat → Int32) → Prop} (hc : qC f4) (hx : 0 ≤ x1.toInt) (hx6 : x1.toInt ≤ 63) (he : (I0 1).toInt ≤ 64) (hb : 0 ≤ (I2 1).toInt ∧ (I2 1).toInt ≤ (I1 4).toInt) (h6 : (I1 4).toInt ≤ 63) (hZ : ∀ (r : Int32) (I S g3 g5 : Nat → Int32), (r.toInt ≤ 0 ∨ stepO I2 S f3 f5 (I1 4).toInt g3 g5 (I 4).toInt (I2 0).toInt (S 0).toInt (if ¬ r.toInt = 1 then [(29, r.toInt - 1)] else [(1, 46)]) 0) → Z1 r (I, S, g3, g5) → Z2 r (I, S, g3, g5)) : v_Reader_readParts_0 I0 I1 I2 64 f3 64 f4 64 f5 x1 Z1 → v_Reader_readParts_0 I0 I1 I2 64 f3 64 f4 64 f5 x1 Z2 := by
  have hx1 : (x1 + 1).toInt = x1.toInt + 1 := zadd1 (by simp only [Int32.reduceToInt]; omega) (by simp only [Int32.reduceToInt]; omega)
  have hno := hZ 0 I1 I2 f3 f5 (Or.inl (by decide))
  have g45 : v_Reader_readParts_45 I0 I1 I2 64 f3 64 f4 64 f5 Z1 → v_Reader_readParts_45 I0 I1 I2 64 f3 64 f4 64 f5 Z2 := x_Reader_readParts_45 (g_addOne (by omega) h6 (fun I g1 g2 _ b => x_Reader_readParts_52 (hZ 1 I I2 g1 g2 (Or.inr (by rw [if_neg (by decide)]; exact st_s b hb h6 (Or.inl rfl))))))
  refine x_Reader_readParts_0 (h_Reader_kindBefore ⟨by omega, by omega, by omega⟩ (fun k u _ => x_Reader_readParts_4 (h_Reader_sign ⟨hc, by rw [hx1]; omega, he⟩ (fun r u hr => x_Reader_readParts_12 (fI_ite' (fun c => ?_) (fun c => ?_))))))
  · exact x_Reader_readParts_28 (fI_ite (fun _ => g45) (fun c => absurd rfl c))
  · rw [hx1] at hr
    have d : ych f4 (I0 1).toInt (x1.toInt + 1) = 48 := by rw [← hr, c]; decide
    refine h_Reader_rowLength ⟨hc, by rw [hx1]; omega, by rw [hx1]; omega, he, by rw [hx1, d]; decide⟩ (fun r2 u2 hr2 => x_Reader_readParts_24 ?_)
    have e2 : (1 + r2).toInt = 1 + r2.toInt := zadd1 (by simp only [Int32.reduceToInt]; omega) (by simp only [Int32.reduceToInt]; omega)
    have g53 : v_Reader_readParts_53 I0 I1 I2 64 f3 64 f4 64 f5 r2 Z1 → v_Reader_readParts_53 I0 I1 I2 64 f3 64 f4 64 f5 r2 Z2 := x_Reader_readParts_53 (fI_ite (fun _ => g_Code_add (by omega) h6 (fun I g1 g2 _ b => x_Reader_readParts_88 (hZ (1 + r2) I _ g1 g2 (Or.inr (by
      rw [e2, if_pos (by omega), show 1 + r2.toInt - 1 = r2.toInt by omega]
      exact st_k b hb h6 rfl rfl (by decide) (by decide) (fun L pc h => sC_29 h.2.2.1)))))) (fun _ => hno))
    exact x_Reader_readParts_28 (fI_ite (fun _ => g45) (fun _ => fI_ite (fun _ => g53) (fun _ => fI_ite (fun _ => g53) (fun _ => g45))))
theorem g_readDateItem {Z1 Z2 : Int32 → (Nat → Int32) × (Nat → Int32) × (Nat → Int32) × (Nat → Int32) → Prop} (hc : qC f1) (hx : 0 ≤ x1.toInt) (hx6 : x1.toInt ≤ 63) (he : (I0 1).toInt ≤ 64) (hb : 0 ≤ (I5 1).toInt ∧ (I5 1).toInt ≤ (I2 4).toInt) (h6 : (I2 4).toInt ≤ 63) (hZ : ∀ (r : Int32) (I g3 g4 S : Nat → Int32), (r.toInt ≤ 0 ∨ stepO I5 S f3 f4 (I2 4).toInt g3 g4 (I 4).toInt (I5 0).toInt (S 0).toInt (daL f1 (I0 1).toInt x1.toInt r.toInt) 0) → Z1 r (I, g3, g4, S) → Z2 r (I, g3, g4, S)) : v_Reader_readDateItem_0 I0 64 f1 I2 64 f3 64 f4 I5 x1 Z1 → v_Reader_readDateItem_0 I0 64 f1 I2 64 f3 64 f4 I5 x1 Z2 := by
  refine x_Reader_readDateItem_0 (h_Reader_small ⟨hc, hx, he⟩ (fun s u hs => x_Reader_readDateItem_5 (h_Reader_isDateLetter trivial (fun t u2 ht => ?_))))
  refine x_Reader_readDateItem_10 (fI_ite (fun c => ?_) (fun c => ?_))
  · have nr : ¬ kRw s.toInt := by
      rcases ht with ⟨w, _⟩ | ⟨_, w⟩
      · rw [c] at w; exact absurd w (by decide)
      · exact w
    rw [hs] at nr
    unfold kRw at nr
    refine fI_ite' (fun c1 => fI_ite' (fun c2 => fI_ite' (fun c3 => ?_) (fun c3 => ?_)) (fun c2 => ?_)) (fun c1 => ?_)
    · have n : ∀ y : Int32, ¬ s = y → ¬ ysm (ych f1 (I0 1).toInt x1.toInt) = y.toInt := fun y q w => q (zle_eq.2 (hs.trans w))
      have n1 := ysm_j (n _ c1) (by decide)
      have n2 := n _ c2
      have n3 := ysm_j (n _ c3) (by decide)
      simp only [Int32.reduceToInt] at n1 n2 n3
      refine g_readSign hc hx he (by omega) h6 (fun r I g1 g2 _ b => x_Reader_readDateItem_72 (hZ r I g1 g2 I5 ?_))
      rcases b with b | b
      · exact Or.inl b
      · refine Or.inr ?_
        unfold daL
        rw [if_neg nr, if_neg n1, if_neg n2, if_neg (fun q => n3 q.1)]
        exact st_s b hb h6 (Or.inl rfl)
    · have d : ysm (ych f1 (I0 1).toInt x1.toInt) = 46 := by rw [← hs, c3]; decide
      have d2 : ych f1 (I0 1).toInt x1.toInt = 46 := ysm_i d (by decide)
      refine g_readParts hc hx hx6 he hb h6 (fun r I S g1 g2 b => x_Reader_readDateItem_64 (x_Reader_readDateItem_72 (hZ r I g1 g2 S ?_)))
      unfold daL
      rw [if_neg nr, d, d2, if_neg (by decide), if_neg (by decide)]
      by_cases w : r.toInt = 1
      · rw [if_neg (fun q => q w)] at b
        rw [if_neg (fun q => q.2 w)]; exact b
      · rw [if_pos w] at b
        rw [if_pos ⟨rfl, w⟩]; exact b
    · have d : ysm (ych f1 (I0 1).toInt x1.toInt) = 97 := by rw [← hs, c2]; decide
      have d2 : ¬ ych f1 (I0 1).toInt x1.toInt = 91 := fun q => by rw [q] at d; exact absurd d (by decide)
      refine h_Reader_halfDayLength ⟨hc, hx, by omega, he⟩ (fun r u3 _ => x_Reader_readDateItem_49 (g_readHalfDay hb h6 (fun r2 S I g1 g2 b => x_Reader_readDateItem_52 (hZ r2 I g1 g2 S ?_))))
      unfold daL
      rw [if_neg nr, if_neg d2, if_pos d]; exact b
    · have d : ysm (ych f1 (I0 1).toInt x1.toInt) = 91 := by rw [← hs, c1]; decide
      have d2 : ych f1 (I0 1).toInt x1.toInt = 91 := ysm_i d (by decide)
      refine h_Reader_bracketRow ⟨hc, hx, by omega, he⟩ (fun r u3 _ => x_Reader_readDateItem_33 (g_readInAll hc hx hx6 he (by omega) h6 (fun r2 I g1 g2 b => x_Reader_readDateItem_36 (hZ r2 I g1 g2 I5 ?_))))
      rcases b with b | b
      · exact Or.inl b
      · refine Or.inr ?_
        unfold daL
        rw [if_neg nr, if_pos d2]
        refine st_s b hb h6 ?_
        unfold rkA
        split
        · omega
        · split <;> omega
  · have yr : kRw s.toInt := by
      rcases ht with ⟨_, w⟩ | ⟨w, _⟩
      · exact w
      · exact absurd (zle_eq.2 (w.trans (by decide))) c
    refine g_readRow hc hx hx6 he (by omega) h6 hs yr (fun r I g1 g2 b => x_Reader_readDateItem_19 (hZ r I g1 g2 I5 ?_))
    rcases b with b | b
    · exact Or.inl b
    · refine Or.inr ?_
      rw [hs] at b yr
      unfold kRw at yr
      unfold daL
      rw [if_pos yr]
      refine st_s b hb h6 ?_
      unfold rkR
      repeat' split
      all_goals omega
end
theorem neu_cm {f : Nat → Int32} {e p c : Int} : neu (cmL f e p c) ∧ kz (cmL f e p c) := by
  unfold cmL
  split
  · exact ⟨neu_qt _, kz_qt _⟩
  · split
    · exact ⟨neu_1 (by omega), kz_1 (by decide)⟩
    · split
      · exact ⟨neu_1 (by omega), kz_1 (by decide)⟩
      · split
        · exact ⟨neu_1 (by omega), kz_1 (by decide)⟩
        · exact ⟨neu_1 (by omega), kz_1 (by decide)⟩
theorem cm_len {f : Nat → Int32} {e p c : Int} (h : kCl f e p c) (hc : 0 < c) : ((exC (cmL f e p c)).length : Int) ≤ c := by
  unfold cmL
  split
  · rename_i d
    have c2 : 2 ≤ c := by
      rcases h with ⟨_, q, hq, _⟩ | ⟨a, _⟩ | ⟨a, _⟩ | ⟨a, _⟩
      · rcases hq with ⟨a, _⟩ | ⟨a, _⟩ <;> omega
      · omega
      · omega
      · omega
    rw [qtL_C]
    show (((chL 1 f e (p + 1) (c - 2).toNat).length + 1 : Nat) : Int) ≤ c
    rw [chL_len]; omega
  · split
    · show ((1 : Nat) : Int) ≤ c; omega
    · split
      · show ((1 : Nat) : Int) ≤ c; omega
      · split
        · show ((1 : Nat) : Int) ≤ c; omega
        · show ((1 : Nat) : Int) ≤ c; omega
section
variable {I0 I2 I3 f1 f4 f5 : Nat → Int32} {x1 : Int32}
theorem g_readItem {Z1 Z2 : Int32 → (Nat → Int32) × (Nat → Int32) × (Nat → Int32) × (Nat → Int32) → Prop} (hc : qC f1) (hx : 0 ≤ x1.toInt) (hx6 : x1.toInt ≤ 63) (he : (I0 1).toInt ≤ 64) (hb : 0 ≤ (I2 1).toInt ∧ (I2 1).toInt ≤ (I3 4).toInt) (h6 : (I3 4).toInt ≤ x1.toInt) (h3 : -5000 ≤ (I2 3).toInt ∧ (I2 3).toInt ≤ 5000) (h10 : -5000 ≤ (I2 10).toInt ∧ (I2 10).toInt ≤ 5000) (hZ : ∀ (r : Int32) (S I g4 g5 : Nat → Int32), (∃ c : Int, kCl f1 (I0 1).toInt x1.toInt c ∧ (r.toInt ≤ 0 ∨ stepO I2 S f4 f5 (I3 4).toInt g4 g5 (I 4).toInt (I2 0).toInt (S 0).toInt (itL f1 (I0 1).toInt x1.toInt (I2 0).toInt (kLf f4 (I2 1).toInt (I3 4).toInt) (I2 5).toInt r.toInt c) (pcI f1 (I0 1).toInt x1.toInt (I2 0).toInt c))) → Z1 r (S, I, g4, g5) → Z2 r (S, I, g4, g5)) : v_Reader_readItem_0 I0 64 f1 I2 I3 64 f4 64 f5 x1 Z1 → v_Reader_readItem_0 I0 64 f1 I2 I3 64 f4 64 f5 x1 Z2 := by
  refine x_Reader_readItem_0 (h_Reader_commonLength ⟨hc, hx, by omega, he⟩ (fun c u hk => ?_))
  obtain ⟨k0, k6, hk⟩ := hk
  have hno := hZ 0 I2 I3 f4 f5 ⟨_, hk, Or.inl (by decide)⟩
  refine x_Reader_readItem_5 (fI_ite (fun d => ?_) (fun d => ?_))
  · have d0 : ¬ 0 < c.toInt := by simp only [zle_le, Int32.reduceToInt] at d; omega
    have sg : ¬ (I2 0).toInt = 2 → ¬ (I2 0).toInt = 5 → ¬ ((I2 0).toInt = 6 ∧ ych f1 (I0 1).toInt x1.toInt = 64) → ∀ (r : Int32) (I g1 g2 : Nat → Int32), (r.toInt ≤ 0 ∨ apA f4 f5 (I3 4).toInt g1 g2 (I 4).toInt [(1, ych f1 (I0 1).toInt x1.toInt)]) → Z1 r (I2, I, g1, g2) → Z2 r (I2, I, g1, g2) := fun q2 q5 q6 r I g1 g2 b => hZ r I2 I g1 g2 ⟨_, hk, by
      rcases b with b | b
      · exact Or.inl b
      · refine Or.inr ?_
        unfold itL pcI
        rw [if_neg d0, if_neg q2, if_neg q5, if_neg q6, if_neg (fun q => q2 q.2.1)]
        exact st_s b hb (by omega) (Or.inl rfl)⟩
    refine fI_ite (fun c1 => ?_) (fun c1 => fI_ite (fun c2 => ?_) (fun c2 => fI_ite (fun _ => hno) (fun c3 => fI_ite (fun _ => hno) (fun c4 => fI_ite (fun c5 => ?_) (fun c5 => fI_ite (fun c6 => ?_) (fun _ => hno))))))
    · have e1 : (I2 0).toInt = 1 := by rw [c1]; decide
      exact g_readSign hc hx he (by omega) (by omega) (fun r I g1 g2 _ b => x_Reader_readItem_108 (sg (by omega) (by omega) (by omega) r I g1 g2 b))
    · have e1 : (I2 0).toInt = 2 := by rw [c2]; decide
      refine g_readNumberItem hc hx hx6 he hb h6 e1 h3 h10 (fun r S I g1 g2 b => x_Reader_readItem_69 (hZ r S I g1 g2 ⟨_, hk, ?_⟩))
      rcases b with b | b
      · exact Or.inl b
      · refine Or.inr ?_
        unfold itL pcI
        rw [if_neg d0, if_pos e1]
        by_cases w : ysm (ych f1 (I0 1).toInt x1.toInt) = 37
        · rw [if_pos w] at b
          rw [if_pos ⟨d0, e1, w⟩]; exact b
        · rw [if_neg w] at b
          rw [if_neg (fun q => w q.2.2)]; exact b
    · have e1 : (I2 0).toInt = 5 := by rw [c5]; decide
      refine g_readDateItem hc hx hx6 he hb (by omega) (fun r I g1 g2 S b => x_Reader_readItem_75 (hZ r S I g1 g2 ⟨_, hk, ?_⟩))
      rcases b with b | b
      · exact Or.inl b
      · refine Or.inr ?_
        unfold itL pcI
        rw [if_neg d0, if_neg (by omega), if_pos e1, if_neg (by omega)]
        exact b
    · have e1 : (I2 0).toInt = 6 := by rw [c6]; decide
      refine h_Reader_sign ⟨hc, hx, he⟩ (fun r u2 hr => x_Reader_readItem_81 (fI_ite' (fun w => ?_) (fun w => ?_)))
      · have w2 : ¬ ych f1 (I0 1).toInt x1.toInt = 64 := fun q => w (zle_eq.2 ((hr.trans q).trans (by decide)))
        exact g_readSign hc hx he (by omega) (by omega) (fun r I g1 g2 _ b => x_Reader_readItem_102 (sg (by omega) (by omega) (by omega) r I g1 g2 b))
      · have w2 : ych f1 (I0 1).toInt x1.toInt = 64 := by rw [← hr, w]; decide
        refine g_addOne (by omega) (by omega) (fun I g1 g2 _ b => x_Reader_readItem_94 (x_Reader_readItem_102 (hZ 1 I2 I g1 g2 ⟨_, hk, Or.inr ?_⟩)))
        unfold itL pcI
        rw [if_neg d0, if_neg (by omega), if_neg (by omega), if_pos ⟨e1, w2⟩, if_neg (by omega)]
        exact st_s b hb (by omega) (Or.inr (Or.inl rfl))
  · have d0 : 0 < c.toInt := by simp only [zle_le, Int32.reduceToInt] at d; omega
    have en := kCl_end hk hx
    refine g_addCommon hc hx (by omega) he (by omega) hk (by omega) (by omega) (fun I g1 g2 _ b => x_Reader_readItem_16 (hZ c I2 I g1 g2 ⟨_, hk, Or.inr ?_⟩))
    unfold itL pcI
    rw [if_pos d0, if_neg (fun q => q.1 d0)]
    have l1 := b.1
    have l2 := cm_len hk d0
    exact st_n b hb (by omega) neu_cm.1 neu_cm.2
end
