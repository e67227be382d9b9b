/-! number items of the reference -/
theorem kLr_2 {g h : Nat → Int32} {a : Int} {x : Int32} (h0 : 0 ≤ x.toInt) (h1 : x.toInt ≤ 100) : kLr g h a x.toInt = 2 ↔ (a < x.toInt ∧ (g (160 + x - 1).toNatClampNeg).toInt = 2) := by
  constructor
  · intro q
    rcases Int.lt_or_le a x.toInt with c | c
    · have := kB_c (kB_b (g := g) (h := h) h0 h1 (Or.inr ⟨c, rfl⟩))
      exact ⟨c, by omega⟩
    · rw [kLr_0 c] at q; exact absurd q (by decide)
  · intro q
    have := kB_c (kB_b (g := g) (h := h) h0 h1 (Or.inr ⟨q.1, rfl⟩))
    omega
theorem dg_gv {f : Nat → Int32} {e p m : Int} (h9 : 49 ≤ ych f e p ∧ ych f e p ≤ 57) (hd : kDn f e p m) : (1 ≤ m ∧ m ≤ 3) ∧ (1 ≤ gvF 0 (chL 12 f e p m.toNat) ∧ gvF 0 (chL 12 f e p m.toNat) ≤ 999 ∧ m = nd3 (gvF 0 (chL 12 f e p m.toNat))) := by
  have hz := kDn_z hd
  obtain ⟨d0, d3, dg, _⟩ := hd
  have m1 : 1 ≤ m := by omega
  refine ⟨⟨m1, d3⟩, ?_⟩
  have hm : m = 1 ∨ m = 2 ∨ m = 3 := by omega
  rcases hm with hm | hm | hm <;> subst hm
  · show 1 ≤ 10 * 0 + ych f e p - 48 ∧ 10 * 0 + ych f e p - 48 ≤ 999 ∧ 1 = nd3 (10 * 0 + ych f e p - 48)
    refine ⟨by omega, by omega, ?_⟩
    unfold nd3
    rw [if_neg (by omega), if_pos (by omega)]
  · have g1 := dg 1 (by decide) (by decide)
    show 1 ≤ 10 * (10 * 0 + ych f e p - 48) + ych f e (p + 1) - 48 ∧ 10 * (10 * 0 + ych f e p - 48) + ych f e (p + 1) - 48 ≤ 999 ∧ 2 = nd3 (10 * (10 * 0 + ych f e p - 48) + ych f e (p + 1) - 48)
    refine ⟨by omega, by omega, ?_⟩
    unfold nd3
    rw [if_neg (by omega), if_neg (by omega), if_pos (by omega)]
  · have g1 := dg 1 (by decide) (by decide)
    have g2 := dg 2 (by decide) (by decide)
    rw [show p + 2 = p + 1 + 1 by omega] at g2
    show 1 ≤ 10 * (10 * (10 * 0 + ych f e p - 48) + ych f e (p + 1) - 48) + ych f e (p + 1 + 1) - 48 ∧ 10 * (10 * (10 * 0 + ych f e p - 48) + ych f e (p + 1) - 48) + ych f e (p + 1 + 1) - 48 ≤ 999 ∧ 3 = nd3 (10 * (10 * (10 * 0 + ych f e p - 48) + ych f e (p + 1) - 48) + ych f e (p + 1 + 1) - 48)
    refine ⟨by omega, by omega, ?_⟩
    unfold nd3
    rw [if_neg (by omega), if_neg (by omega), if_neg (by omega)]
theorem rs_k {K A B Q K2 A2 B2 Q2 : Nat → Int32} {n n2 f kd p p2 d k a b : Int} {q : Int32} {X : List (Int × Int)} (hA : apR K A B Q n K2 A2 B2 Q2 n2 [(k, a, b, q)]) (hf : 0 ≤ f ∧ f ≤ n) (hX : rxF k a b q = exR X) (hkd : kd = 1 ∨ kd = 2 ∨ kd = 5 ∨ kd = 6) (h7 : c7 [(k, a, b, q)] = d) (hp : p2 = 0 → p = 0 ∧ d = 0) (hW : rIt kd (k, a, b, q)) : rstp K A B Q n K2 A2 B2 Q2 n2 f kd kd p p2 X d :=
  rs_a hA hf (by rw [fR_1]; exact hX) (fun q => by omega) h7 hp (fun S h => rOk_w h hkd ⟨hW, True.intro⟩)
section
variable {I0 f1 f2 f3 f4 f5 f6 : Nat → Int32} {J0 : Nat → Int64} {x1 x2 : Int32}
theorem gm_numberItem {Z1 Z2 : (Nat → Int32) × (Nat → Int32) × (Nat → Int32) × (Nat → Int32) × (Nat → Int32) × (Nat → Int32) → Prop} (hx : 0 ≤ (I0 14).toInt) (hx6 : (I0 14).toInt ≤ 63) (he : (I0 3).toInt ≤ 64) (h0 : 0 ≤ (I0 12).toInt) (h1 : (I0 12).toInt ≤ 100) (hf : 0 ≤ x1.toInt ∧ x1.toInt ≤ (I0 12).toInt) (hk : (f6 (5 + x2).toNatClampNeg).toInt = 2)
    (hZ : ∀ (I g2 g3 g4 g5 g6 : Nat → Int32), (0 ≤ (I 13).toInt ∨ rstp f2 f3 f4 f5 (I0 12).toInt g2 g3 g4 g5 (I 12).toInt x1.toInt 2 (g6 (5 + x2).toNatClampNeg).toInt (I0 19).toInt (I 19).toInt (nuL f1 (I0 3).toInt (I0 14).toInt (kLr f2 f3 x1.toInt (I0 12).toInt) (I0 15).toInt ((I 14).toInt - (I0 14).toInt)) (if ysm (ych f1 (I0 3).toInt (I0 14).toInt) = 37 then 1 else 0)) → Z1 (I, g2, g3, g4, g5, g6) → Z2 (I, g2, g3, g4, g5, g6)) :
    v_M_numberItem_0 I0 J0 64 f1 320 f2 320 f3 320 f4 320 f5 10 f6 x1 x2 Z1 → v_M_numberItem_0 I0 J0 64 f1 320 f2 320 f3 320 f4 320 f5 10 f6 x1 x2 Z2 := by
  have hno := hZ (zu I0 13 (I0 14)) f2 f3 f4 f5 f6 (Or.inl hx)
  refine x_M_numberItem_0 (f_M_low ⟨hx, he⟩ (fun s hs => x_M_numberItem_8 (fI_ite (fun _ => f_M_isPlace trivial (fun t ht => x_M_numberItem_31 (fI_ite (fun c => ?_) (fun c => ?_)))) (fun _ => hno))))
  · refine fI_ite' (fun c1 => fI_ite' (fun c2 => fI_ite' (fun c3 => fI_ite' (fun c4 => fI_ite' (fun _ => hno) (fun d => ?_)) (fun d => ?_)) (fun d => ?_)) (fun d => ?_)) (fun d => ?_)
    · have d : ysm (ych f1 (I0 3).toInt (I0 14).toInt) = 47 := by rw [← hs, d]; decide
      refine gm_stroke hx (by omega) he h0 h1 hf (fun I g2 g3 g4 g5 g6 h => x_M_numberItem_206 (hZ I g2 g3 g4 g5 g6 ?_))
      rcases h with h | ⟨m, dd, q, g, ⟨hm, hd⟩, hat, hp, hmn, hA, e6, e19, z19⟩
      · exact Or.inl h
      refine Or.inr ?_
      subst e6
      rw [pk_us, if_neg (show ¬ ysm (ych f1 (I0 3).toInt (I0 14).toInt) = 37 by rw [d]; decide)]
      refine rs_4 hmn hA hf ?_ (by decide) ⟨z19, e19⟩ ?_
      · unfold nuL
        rw [d, if_neg (by decide), if_neg (by decide), if_neg (by decide), if_neg (by decide), if_neg (by decide), hat, show ((I0 14).toInt + 1 + m - (I0 14).toInt - 1).toNat = m.toNat by omega]
        show (10, 47) :: pkc (if dd = 1 then 12 else 11) q m.toNat = _
        rw [hp]
        have cR : ∀ k : Int, ¬ k = 15 → exR ((10, 47) :: chL k f1 (I0 3).toInt ((I0 14).toInt + 1) m.toNat) = (10, 47) :: chL k f1 (I0 3).toInt ((I0 14).toInt + 1) m.toNat := fun k hk => by
          show (10, 47) :: exR (chL k f1 (I0 3).toInt ((I0 14).toInt + 1) m.toNat) = _
          rw [chL_R hk]
        rcases hd with ⟨w1, w2, _⟩ | ⟨w1, w2, _⟩
        · rw [if_pos w1, if_neg (by omega), cR 12 (by decide)]
        · unfold kPl at w2
          rw [if_neg (by omega), if_pos w2, cR 11 (by decide)]
      · rcases hd with ⟨w1, w2, w3⟩ | ⟨w1, w2, w3⟩
        · have := (dg_gv w2 w3).2
          rw [← hp] at this
          exact Or.inl ⟨w1, this⟩
        · have := kPn_pos w3 w2
          exact Or.inr ⟨w1, this, hm.2⟩
    · have d : ysm (ych f1 (I0 3).toInt (I0 14).toInt) = 101 := by rw [← hs, d]; decide
      refine gm_power0 hx (by omega) he h0 h1 hf.1 (fun I g2 g3 g4 g5 g6 h => x_M_numberItem_191 (hZ I g2 g3 g4 g5 g6 ?_))
      rcases h with h | ⟨m, q, hm, hat, hp, hA, e6, e19⟩
      · exact Or.inl h
      refine Or.inr ?_
      subst e6
      rw [pk_us, if_neg (show ¬ ysm (ych f1 (I0 3).toInt (I0 14).toInt) = 37 by rw [d]; decide)]
      refine rs_a hA hf ?_ (fun w => absurd w.2 (by decide)) rfl (fun w => ⟨by omega, rfl⟩) (fun S h => rOk_3 h hm)
      unfold nuL
      rw [d, if_neg (by decide), if_neg (by decide), if_neg (by decide), if_neg (by decide), if_pos rfl, hat, show ((I0 14).toInt + 2 + m - (I0 14).toInt - 2).toNat = m.toNat by omega, fR_1]
      show (7, ych f1 (I0 3).toInt ((I0 14).toInt + 1)) :: pkc 8 q m.toNat = (7, ych f1 (I0 3).toInt ((I0 14).toInt + 1)) :: exR (chL 8 f1 (I0 3).toInt ((I0 14).toInt + 2) m.toNat)
      rw [hp, chL_R (by decide)]
    · have d2 : ysm (ych f1 (I0 3).toInt (I0 14).toInt) = 37 := by rw [← hs, d]; decide
      refine gm_item (I0 := zu I0 19 1) h0 (by show (I0 12).toInt ≤ 1000; omega) (fun g1 g2 g3 g4 b => x_M_numberItem_166 (hZ _ g1 g2 g3 g4 f6 (Or.inr ?_)))
      rw [hk, if_pos d2]
      refine rs_k b hf ?_ (Or.inr (Or.inl rfl)) rfl (fun w => absurd w (show ¬ (1 : Int32).toInt = 0 by decide)) (Or.inr (Or.inr (Or.inl ⟨rfl, by decide, by decide⟩)))
      unfold nuL
      rw [d2, if_neg (by decide), if_neg (by decide), if_neg (by decide), if_pos rfl]; rfl
    · have d : ysm (ych f1 (I0 3).toInt (I0 14).toInt) = 44 := by rw [← hs, d]; decide
      refine gm_comma hx (by omega) he h0 h1 hf.1 (fun I g1 g3 g4 g5 h => x_M_numberItem_144 (hZ I g1 g3 g4 g5 f6 ?_))
      rcases h with h | ⟨h, e19⟩
      · exact Or.inl h
      refine Or.inr ?_
      rw [hk, if_neg (show ¬ ysm (ych f1 (I0 3).toInt (I0 14).toInt) = 37 by rw [d]; decide)]
      unfold nuL
      rw [d, if_neg (by decide), if_neg (by decide), if_pos rfl]
      by_cases w : kLr f2 f3 x1.toInt (I0 12).toInt = 2 ∧ (ych f1 (I0 3).toInt ((I0 14).toInt + 1) = 48 ∨ ych f1 (I0 3).toInt ((I0 14).toInt + 1) = 35 ∨ ych f1 (I0 3).toInt ((I0 14).toInt + 1) = 63)
      · rw [if_pos ⟨(kLr_2 h0 h1).1 w.1, w.2⟩] at h
        rw [if_pos w]
        exact rs_k h hf rfl (Or.inr (Or.inl rfl)) rfl (fun w => ⟨by omega, rfl⟩) (Or.inr (Or.inr (Or.inl ⟨rfl, by decide, by decide⟩)))
      · rw [if_neg (fun z => w ⟨(kLr_2 h0 h1).2 z.1, z.2⟩)] at h
        rw [if_neg w]
        exact rs_k h hf rfl (Or.inr (Or.inl rfl)) rfl (fun w => ⟨by omega, rfl⟩) (Or.inr (Or.inr (Or.inl ⟨rfl, by decide, by decide⟩)))
    · have d2 : ysm (ych f1 (I0 3).toInt (I0 14).toInt) = 46 := by rw [← hs, d]; decide
      refine fI_ite (fun _ => x_M_numberItem_108 (gm_item (I0 := zu I0 15 1) h0 (by show (I0 12).toInt ≤ 1000; omega) (fun g1 g2 g3 g4 b => x_M_numberItem_120 (hZ _ g1 g2 g3 g4 f6 (Or.inr ?_))))) (fun _ => x_M_numberItem_108 (gm_item (I0 := zu (zu I0 13 (I0 14)) 15 1) h0 (by show (I0 12).toInt ≤ 1000; omega) (fun g1 g2 g3 g4 b => x_M_numberItem_120 (hZ _ g1 g2 g3 g4 f6 (Or.inl hx)))))
      rw [hk, if_neg (show ¬ ysm (ych f1 (I0 3).toInt (I0 14).toInt) = 37 by rw [d2]; decide)]
      refine rs_k b hf ?_ (Or.inr (Or.inl rfl)) rfl (fun w => ⟨w, rfl⟩) (Or.inr (Or.inr (Or.inl ⟨rfl, by decide, by decide⟩)))
      unfold nuL
      rw [d2, if_neg (by decide), if_pos rfl]; rfl
  · have pl : kPl (ysm (ych f1 (I0 3).toInt (I0 14).toInt)) := by
      rw [hs] at ht
      rcases ht with ⟨_, w⟩ | ⟨w, _⟩
      · exact w
      · exact absurd (zle_eq.2 (w.trans (by decide))) c
    unfold kPl at pl
    have n37 : ¬ ysm (ych f1 (I0 3).toInt (I0 14).toInt) = 37 := by omega
    have g56 : v_M_numberItem_56 I0 J0 64 f1 320 f2 320 f3 320 f4 320 f5 10 f6 s Z1 → v_M_numberItem_56 I0 J0 64 f1 320 f2 320 f3 320 f4 320 f5 10 f6 s Z2 := by
      refine x_M_numberItem_56 (fI_ite (fun w => x_M_numberItem_69 (gm_item h0 (by omega) (fun g1 g2 g3 g4 b => x_M_numberItem_74 (hZ _ g1 g2 g3 g4 f6 (Or.inr ?_))))) (fun w => x_M_numberItem_69 (gm_item h0 (by omega) (fun g1 g2 g3 g4 b => x_M_numberItem_74 (hZ _ g1 g2 g3 g4 f6 (Or.inr ?_))))))
      · rw [hk, if_neg n37]
        refine rs_k b hf ?_ (Or.inr (Or.inl rfl)) rfl (fun w => ⟨w, rfl⟩) (Or.inr (Or.inr (Or.inl ⟨rfl, show (2 : Int) ≤ (2 : Int32).toInt by decide, show (2 : Int32).toInt ≤ 7 by decide⟩)))
        unfold nuL
        rw [if_pos pl, if_pos (by rw [w]; decide), ← hs]; rfl
      · rw [hk, if_neg n37]
        refine rs_k b hf ?_ (Or.inr (Or.inl rfl)) rfl (fun w => ⟨w, rfl⟩) (Or.inr (Or.inr (Or.inl ⟨rfl, show (2 : Int) ≤ (3 : Int32).toInt by decide, show (3 : Int32).toInt ≤ 7 by decide⟩)))
        unfold nuL
        rw [if_pos pl, if_neg (fun z => w (zle_eq.2 (z.trans (by decide)))), ← hs]; rfl
    have gw : v_M_numberItem_56 (zu I0 13 (I0 14)) J0 64 f1 320 f2 320 f3 320 f4 320 f5 10 f6 s Z1 → v_M_numberItem_56 (zu I0 13 (I0 14)) J0 64 f1 320 f2 320 f3 320 f4 320 f5 10 f6 s Z2 := x_M_numberItem_56 (fI_ite (fun w => x_M_numberItem_69 (gm_item (I0 := zu I0 13 (I0 14)) h0 (by show (I0 12).toInt ≤ 1000; omega) (fun g1 g2 g3 g4 b => x_M_numberItem_74 (hZ _ g1 g2 g3 g4 f6 (Or.inl hx))))) (fun w => x_M_numberItem_69 (gm_item (I0 := zu I0 13 (I0 14)) h0 (by show (I0 12).toInt ≤ 1000; omega) (fun g1 g2 g3 g4 b => x_M_numberItem_74 (hZ _ g1 g2 g3 g4 f6 (Or.inl hx))))))
    exact fI_ite' (fun _ => g56) (fun _ => fI_ite (fun _ => g56) (fun _ => gw))
end
