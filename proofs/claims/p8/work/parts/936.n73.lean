/-! number items of the class: one mark -/
theorem st_k {S S2 K M K2 M2 : Nat → Int32} {n n2 d k c : Int} (hA : apA K M n K2 M2 n2 [(k, c)]) (hb : 0 ≤ (S 1).toInt ∧ (S 1).toInt ≤ n) (h6 : n ≤ 63) (h1 : (S2 1).toInt = (S 1).toInt) (h00 : (S2 0).toInt = (S 0).toInt) (hk : ¬ k = 15 ∧ ¬ k = 7 ∧ ¬ k = 8 ∧ ¬ k = 9 ∧ ¬ k = 11 ∧ ¬ k = 12) (hd : 0 ≤ d ∧ d ≤ 1) (hS : ∀ (L : List (Int × Int)) (pc : Int), secO S K M n L pc → sCt S2 (L ++ [(k, c)]) (pc + d)) : stepO S S2 K M n K2 M2 n2 (S 0).toInt (S2 0).toInt [(k, c)] d := by
  have e1 : n2 = n + 1 := hA.1
  refine st_1 (by rw [exC_1 hk.1]; exact hA) hb (by omega) h1 (fun q => by omega) ⟨hd.1, by show d ≤ ((1 : Nat) : Int); omega⟩ (fun L pc h => ⟨hS L pc h, ?_⟩)
  rw [h00]; exact kdF_a h.2.2.2.1 (kz_1 hk.2)
theorem secO_k {S K M : Nat → Int32} {n pc : Int} {L : List (Int × Int)} (h : secO S K M n L pc) (k : Int) : cK k L ≤ 1000 := by
  have := ((secO_b h).1 k).2
  omega
theorem exC_ch {k c j : Int} {f : Nat → Int32} {e p : Int} {n : Nat} (h : ¬ k = 15) (hj : ¬ j = 15) : exC ((k, c) :: chL j f e p n) = (k, c) :: chL j f e p n := by
  show (if k = 15 then _ else (k, c) :: exC (chL j f e p n)) = _
  rw [if_neg h, chL_C hj]
theorem kdF_7 {L : List (Int × Int)} {c : Int} {f : Nat → Int32} {e p : Int} {n : Nat} {k : Int} (h : kdF 2 L) (hk : k = 3) : kdF k (L ++ (7, c) :: chL 8 f e p n) := by
  have z : ∀ j : Int, ¬ (7 : Int) = j → ¬ (8 : Int) = j → cK j ((7, c) :: chL 8 f e p n) = 0 := fun j h7 h8 => by
    show (if (7 : Int) = j then 1 else 0) + cK j (chL 8 f e p n) = 0
    rw [if_neg h7, cK_ch, if_neg h8]; rfl
  have a := z 9 (by decide) (by decide)
  have b := z 11 (by decide) (by decide)
  have d := z 12 (by decide) (by decide)
  refine ⟨Or.inl hk, Or.inr ?_⟩
  have q := h.2
  rw [cK_a, cK_a, cK_a, a, b, d]
  omega
section
variable {I0 I1 I2 I3 f1 f2 f3 f4 f5 : Nat → Int32} {x1 x2 : Int32}
theorem g_readPlace {Z1 Z2 : Int32 → (Nat → Int32) × (Nat → Int32) × (Nat → Int32) × (Nat → Int32) → Prop} (hb : 0 ≤ (I1 1).toInt ∧ (I1 1).toInt ≤ (I2 4).toInt) (h6 : (I2 4).toInt ≤ 63) (hZ : ∀ (r : Int32) (S I g3 g4 : Nat → Int32), (r.toInt ≤ 0 ∨ stepO I1 S f3 f4 (I2 4).toInt g3 g4 (I 4).toInt (I1 0).toInt (S 0).toInt [(if (I1 5).toInt = 0 then 2 else 3, x1.toInt)] 0) → Z1 r (S, I, g3, g4) → Z2 r (S, I, g3, g4)) : v_Reader_readPlace_0 I0 I1 I2 64 f3 64 f4 x1 Z1 → v_Reader_readPlace_0 I0 I1 I2 64 f3 64 f4 x1 Z2 := by
  refine x_Reader_readPlace_0 (fI_ite (fun c => fI_ite (fun c2 => ?_) (fun c2 => hZ 0 I1 I2 f3 f4 (Or.inl (by decide)))) (fun c => ?_))
  · refine g_addOne (by omega) h6 (fun I g1 g2 a b => x_Reader_readPlace_61 (hZ 1 _ I g1 g2 (Or.inr ?_)))
    rw [if_pos (by rw [c]; decide)]
    exact st_k b hb h6 rfl rfl (by decide) (by decide) (fun L pc h => sC_2 h.2.2.1 (secO_k h 2))
  · refine g_addOne (by omega) h6 (fun I g1 g2 a b => x_Reader_readPlace_29 (hZ 1 _ I g1 g2 (Or.inr ?_)))
    rw [if_neg (fun q => c (zle_eq.2 (q.trans (by decide))))]
    exact st_k b hb h6 rfl rfl (by decide) (by decide) (fun L pc h => sC_3 h.2.2.1 (secO_k h 3))
theorem g_readPoint {Z1 Z2 : Int32 → (Nat → Int32) × (Nat → Int32) × (Nat → Int32) × (Nat → Int32) → Prop} (hb : 0 ≤ (I1 1).toInt ∧ (I1 1).toInt ≤ (I2 4).toInt) (h6 : (I2 4).toInt ≤ 63) (hZ : ∀ (r : Int32) (S I g3 g4 : Nat → Int32), (r.toInt ≤ 0 ∨ stepO I1 S f3 f4 (I2 4).toInt g3 g4 (I 4).toInt (I1 0).toInt (S 0).toInt [(4, 46)] 0) → Z1 r (S, I, g3, g4) → Z2 r (S, I, g3, g4)) : v_Reader_readPoint_0 I0 I1 I2 64 f3 64 f4 Z1 → v_Reader_readPoint_0 I0 I1 I2 64 f3 64 f4 Z2 :=
  x_Reader_readPoint_0 (fI_ite (fun c => g_addOne (by omega) h6 (fun I g1 g2 a b => x_Reader_readPoint_27 (hZ 1 _ I g1 g2 (Or.inr (st_k b hb h6 rfl rfl (by decide) (by decide) (fun L pc h => sC_4 h.2.2.1)))))) (fun c => hZ 0 I1 I2 f3 f4 (Or.inl (by decide))))
theorem g_readComma {Z1 Z2 : Int32 → (Nat → Int32) × (Nat → Int32) × (Nat → Int32) × (Nat → Int32) → Prop} (hc : qC f4) (hx : 0 ≤ x1.toInt) (hx6 : x1.toInt ≤ 64) (he : (I0 1).toInt ≤ 64) (hb : 0 ≤ (I2 1).toInt ∧ (I2 1).toInt ≤ (I1 4).toInt) (h6 : (I1 4).toInt ≤ 63) (hZ : ∀ (r : Int32) (I S g3 g5 : Nat → Int32), (r.toInt ≤ 0 ∨ stepO I2 S f3 f5 (I1 4).toInt g3 g5 (I 4).toInt (I2 0).toInt (S 0).toInt (if kLf f3 (I2 1).toInt (I1 4).toInt = 2 ∧ (ych f4 (I0 1).toInt (x1.toInt + 1) = 48 ∨ ych f4 (I0 1).toInt (x1.toInt + 1) = 35 ∨ ych f4 (I0 1).toInt (x1.toInt + 1) = 63) then [(5, 44)] else [(6, 44)]) 0) → Z1 r (I, S, g3, g5) → Z2 r (I, S, g3, g5)) : v_Reader_readComma_0 I0 I1 I2 64 f3 64 f4 64 f5 x1 Z1 → v_Reader_readComma_0 I0 I1 I2 64 f3 64 f4 64 f5 x1 Z2 := by
  have hx1 : (x1 + 1).toInt = x1.toInt + 1 := zadd1 (by simp only [Int32.reduceToInt]; omega) (by simp only [Int32.reduceToInt]; omega)
  refine x_Reader_readComma_0 (h_Reader_kindBefore ⟨by omega, by omega, by omega⟩ (fun r u hr => ?_))
  have g50 : ¬ (kLf f3 (I2 1).toInt (I1 4).toInt = 2 ∧ (ych f4 (I0 1).toInt (x1.toInt + 1) = 48 ∨ ych f4 (I0 1).toInt (x1.toInt + 1) = 35 ∨ ych f4 (I0 1).toInt (x1.toInt + 1) = 63)) → v_Reader_readComma_50 I0 I1 I2 64 f3 64 f4 64 f5 Z1 → v_Reader_readComma_50 I0 I1 I2 64 f3 64 f4 64 f5 Z2 := fun n => x_Reader_readComma_50 (g_addOne (by omega) h6 (fun I g1 g2 a b => x_Reader_readComma_71 (hZ 1 I _ g1 g2 (Or.inr (by rw [if_neg n]; exact st_k b hb h6 rfl rfl (by decide) (by decide) (fun L pc h => sC_6 h.2.2.1 (secO_k h 6)))))))
  have g39 : ¬ (kLf f3 (I2 1).toInt (I1 4).toInt = 2 ∧ (ych f4 (I0 1).toInt (x1.toInt + 1) = 48 ∨ ych f4 (I0 1).toInt (x1.toInt + 1) = 35 ∨ ych f4 (I0 1).toInt (x1.toInt + 1) = 63)) → v_Reader_readComma_39 I0 I1 I2 64 f3 64 f4 64 f5 r Z1 → v_Reader_readComma_39 I0 I1 I2 64 f3 64 f4 64 f5 r Z2 := fun n => x_Reader_readComma_39 (fI_ite (fun _ => g50 n) (fun _ => fI_ite' (fun _ => hZ 0 I1 I2 f3 f5 (Or.inl (by decide))) (fun _ => g50 n)))
  refine x_Reader_readComma_4 (fI_ite' (fun c => g39 (fun q => ?_)) (fun c => ?_))
  · have c : ¬ r.toInt = 2 := fun q2 => c (zle_eq.2 (q2.trans (by decide)))
    have q1 := q.1
    omega
  · have c : r.toInt = 2 := by rw [c]; decide
    have k2 : kLf f3 (I2 1).toInt (I1 4).toInt = 2 := by omega
    refine h_Reader_sign ⟨hc, by rw [hx1]; omega, he⟩ (fun r2 u2 hr2 => x_Reader_readComma_17 (h_Reader_isPlace trivial (fun r3 u3 hr3 => x_Reader_readComma_20 (fI_ite (fun d => g39 (fun q => ?_)) (fun d => ?_)))))
    · rw [hr2, hx1, d] at hr3
      rcases hr3 with ⟨w, _⟩ | ⟨_, w⟩
      · exact absurd w (by decide)
      · exact w q.2
    · rw [hr2, hx1] at hr3
      rcases hr3 with ⟨_, w⟩ | ⟨w, _⟩
      · exact g_addOne (by omega) h6 (fun I g1 g2 a b => x_Reader_readComma_38 (hZ 1 I _ g1 g2 (Or.inr (by rw [if_pos ⟨k2, w⟩]; exact st_k b hb h6 rfl rfl (by decide) (by decide) (fun L pc h => sC_5 h.2.2.1)))))
      · exact absurd (zle_eq.2 (w.trans (by decide))) d
theorem g_readPower {Z1 Z2 : Int32 → (Nat → Int32) × (Nat → Int32) × (Nat → Int32) × (Nat → Int32) → Prop} (hc : qC f4) (hx : 0 ≤ x1.toInt) (hx6 : x1.toInt ≤ 63) (he : (I0 1).toInt ≤ 64) (hb : 0 ≤ (I2 1).toInt ∧ (I2 1).toInt ≤ (I1 4).toInt) (h6 : (I1 4).toInt ≤ x1.toInt) (h20 : (I2 0).toInt = 2) (hZ : ∀ (r : Int32) (I S g3 g5 : Nat → Int32), (r.toInt ≤ 0 ∨ stepO I2 S f3 f5 (I1 4).toInt g3 g5 (I 4).toInt (I2 0).toInt (S 0).toInt ((7, ych f4 (I0 1).toInt (x1.toInt + 1)) :: chL 8 f4 (I0 1).toInt (x1.toInt + 2) (r.toInt - 2).toNat) 0) → Z1 r (I, S, g3, g5) → Z2 r (I, S, g3, g5)) : v_Reader_readPower_0 I0 I1 I2 64 f3 64 f4 64 f5 x1 Z1 → v_Reader_readPower_0 I0 I1 I2 64 f3 64 f4 64 f5 x1 Z2 := by
  have hx1 : (x1 + 1).toInt = x1.toInt + 1 := zadd1 (by simp only [Int32.reduceToInt]; omega) (by simp only [Int32.reduceToInt]; omega)
  have hx2 : (x1 + 2).toInt = x1.toInt + 2 := zadd1 (by simp only [Int32.reduceToInt]; omega) (by simp only [Int32.reduceToInt]; omega)
  have hno := hZ 0 I1 I2 f3 f5 (Or.inl (by decide))
  refine x_Reader_readPower_0 (h_Reader_kindBefore ⟨by omega, by omega, by omega⟩ (fun r u hr => x_Reader_readPower_4 (h_Reader_sign ⟨hc, by rw [hx1]; omega, he⟩ (fun r2 u2 hr2 => x_Reader_readPower_12 (h_Reader_placesFrom ⟨hc, by rw [hx2]; omega, by rw [hx2]; omega, he⟩ (fun r3 u3 hr3 => ?_))))))
  rw [hx1] at hr2
  obtain ⟨p0, p3, pn⟩ := hr3
  have pe := kPn_end pn
  rw [hx2] at pe
  clear pn hr
  have lp : ∀ (N : Nat) (I g3 g5 : Nat → Int32) (x7 : Int32), 0 ≤ x7.toInt → x7.toInt ≤ r3.toInt → apA f3 f5 (I1 4).toInt g3 g5 (I 4).toInt ((7, ych f4 (I0 1).toInt (x1.toInt + 1)) :: chL 8 f4 (I0 1).toInt (x1.toInt + 2) x7.toInt.toNat) → v_Reader_readPower_115 I0 (zu (zu I2 0 3) 9 r3) 64 64 f4 64 x1 r3 Z1 N I g3 g5 x7 → v_Reader_readPower_115 I0 (zu (zu I2 0 3) 9 r3) 64 64 f4 64 x1 r3 Z2 N I g3 g5 x7 := by
    intro N
    induction N with
    | zero => intro I g3 g5 x7 _ _ _ h; exact h.elim
    | succ N ih =>
      intro I g3 g5 x7 h7 h7b hA
      have ln := hA.1
      have ll : ((((7 : Int), ych f4 (I0 1).toInt (x1.toInt + 1)) :: chL 8 f4 (I0 1).toInt (x1.toInt + 2) x7.toInt.toNat).length : Int) = x7.toInt + 1 := by
        show (((chL 8 f4 (I0 1).toInt (x1.toInt + 2) x7.toInt.toNat).length + 1 : Nat) : Int) = x7.toInt + 1
        rw [chL_len]; omega
      rw [ll] at ln
      refine x_Reader_readPower_115 (fI_ite (fun d => hZ (2 + r3) I _ g3 g5 (Or.inr ?_)) (fun d => ?_))
      · rw [zle_le] at d
        have e2 : (2 + r3).toInt = 2 + r3.toInt := zadd1 (by simp only [Int32.reduceToInt]; omega) (by simp only [Int32.reduceToInt]; omega)
        rw [e2, show (2 + r3.toInt - 2).toNat = x7.toInt.toNat by omega]
        refine st_1 (by rw [exC_ch (by decide) (by decide)]; exact hA) hb (by omega) rfl (fun q => absurd q.2 (show ¬ (3 : Int32).toInt = 4 by decide)) ⟨Int.le_refl _, by omega⟩ (fun L pc h => ⟨sC_7 h.2.2.1 ?_ (by omega), kdF_7 ?_ (show (3 : Int32).toInt = 3 by decide)⟩)
        · have := h.2.2.2.1.1
          omega
        · have := h.2.2.2.1
          rw [h20] at this; exact this
      · rw [zle_le] at d
        have e17 : (x1 + 2 + x7).toInt = x1.toInt + 2 + x7.toInt := by rw [← hx2]; exact zadd1 (by omega) (by omega)
        have e71 : (x7 + 1).toInt = x7.toInt + 1 := zadd1 (by simp only [Int32.reduceToInt]; omega) (by simp only [Int32.reduceToInt]; omega)
        refine h_Reader_sign ⟨hc, by rw [e17]; omega, he⟩ (fun r4 u4 hr4 => x_Reader_readPower_138 (g_Code_add (by omega) (by omega) (fun J k1 k2 a b => x_Reader_readPower_141 (ih J k1 k2 (x7 + 1) (by rw [e71]; omega) (by rw [e71]; omega) ?_))))
        refine apA_e (apA_t (by omega) hA b) ?_
        rw [e71, show (x7.toInt + 1).toNat = x7.toInt.toNat + 1 by omega, chL_s, hr4, e17, show x1.toInt + 2 + ((x7.toInt.toNat : Nat) : Int) = x1.toInt + 2 + x7.toInt by omega]
        rfl
  have g71 : ∀ a b : Int32, v_Reader_readPower_71 I0 I1 I2 64 f3 64 f4 64 f5 x1 r2 r3 a b Z1 → v_Reader_readPower_71 I0 I1 I2 64 f3 64 f4 64 f5 x1 r2 r3 a b Z2 := fun a b =>
    x_Reader_readPower_71 (fI_ite (fun _ => hno) (fun _ => fI_ite' (fun _ => g_Code_add (by omega) (by omega) (fun I k1 k2 _ hA => x_Reader_readPower_112 (fI_ex (fun N => lp N I k1 k2 0 (by decide) (by simp only [Int32.reduceToInt]; omega) (by rw [hr2] at hA; exact hA))))) (fun _ => hno)))
  have g56 : ∀ a : Int32, v_Reader_readPower_56 I0 I1 I2 64 f3 64 f4 64 f5 x1 r2 r3 a Z1 → v_Reader_readPower_56 I0 I1 I2 64 f3 64 f4 64 f5 x1 r2 r3 a Z2 := fun a =>
    x_Reader_readPower_56 (h_Section_hasCommaOrPercent trivial (fun r4 u4 _ => x_Reader_readPower_63 (fI_ite' (fun _ => x_Reader_readPower_70 (g71 _ _)) (fun _ => g71 _ _))))
  have g44 : ∀ a : Int32, v_Reader_readPower_44 I0 I1 I2 64 f3 64 f4 64 f5 x1 r r2 r3 a Z1 → v_Reader_readPower_44 I0 I1 I2 64 f3 64 f4 64 f5 x1 r r2 r3 a Z2 := fun a =>
    x_Reader_readPower_44 (fI_ite (fun _ => g56 a) (fun _ => fI_ite' (fun _ => x_Reader_readPower_70 (g71 _ _)) (fun _ => g56 a)))
  have g34 : v_Reader_readPower_34 I0 I1 I2 64 f3 64 f4 64 f5 x1 r r2 r3 Z1 → v_Reader_readPower_34 I0 I1 I2 64 f3 64 f4 64 f5 x1 r r2 r3 Z2 :=
    x_Reader_readPower_34 (fI_ite (fun _ => x_Reader_readPower_43 (g44 _)) (fun _ => g44 _))
  exact x_Reader_readPower_20 (fI_ite (fun _ => g34) (fun _ => fI_ite' (fun _ => x_Reader_readPower_43 (g44 _)) (fun _ => g34)))
end
