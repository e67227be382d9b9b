/-! marks gathered behind a power and a stroke -/
section
variable {I0 f1 f2 f3 f4 f5 f6 : Nat → Int32} {J0 : Nat → Int64} {x1 x2 x3 : Int32}
theorem gm_gather {Z1 Z2 : (Nat → Int32) × (Nat → Int32) × (Nat → Int32) → Prop} {Y : Nat} (hY : ((160 + I0 12) - 1).toNatClampNeg = Y) (hx : 0 ≤ (I0 14).toInt) (hx6 : (I0 14).toInt ≤ 70) (he : (I0 3).toInt ≤ 64) (hq : f3 Y = 0) (hZ : ∀ (I g3 : Nat → Int32) (m : Int32), zfr [14] I0 I → (0 ≤ m.toInt ∧ m.toInt ≤ 3) → (I 14).toInt = (I0 14).toInt + m.toInt → (∀ j : Nat, ¬ j = Y → g3 j = f3 j) → (∀ kd : Int, pkc kd (g3 Y) m.toInt.toNat = chL kd f1 (I0 3).toInt (I0 14).toInt m.toInt.toNat) → Z1 (I, upd f2 Y m, g3) → Z2 (I, upd f2 Y m, g3)) : v_M_gather_0 I0 J0 64 f1 320 f2 320 f3 x1 Z1 → v_M_gather_0 I0 J0 64 f1 320 f2 320 f3 x1 Z2 := by
  have lp : ∀ (N : Nat) (I g3 : Nat → Int32) (m : Int32), zfr [14] I0 I → (0 ≤ m.toInt ∧ m.toInt ≤ 3) → (I 14).toInt = (I0 14).toInt + m.toInt → (∀ j : Nat, ¬ j = Y → g3 j = f3 j) → (∀ kd : Int, pkc kd (g3 Y) m.toInt.toNat = chL kd f1 (I0 3).toInt (I0 14).toInt m.toInt.toNat) → v_M_gather_13 J0 64 f1 320 f2 320 x1 ((160 + I0 12) - 1) Z1 N I g3 m → v_M_gather_13 J0 64 f1 320 f2 320 x1 ((160 + I0 12) - 1) Z2 N I g3 m := by
    intro N
    induction N with
    | zero => intro I g3 m _ _ _ _ _ h; exact h.elim
    | succ N ih =>
      intro I g3 m hf hm ha hg hp
      have e3 : (I 3).toInt = (I0 3).toInt := by rw [hf 3 (by decide)]
      have g105 : v_M_gather_105 I J0 64 f1 320 f2 320 g3 m ((160 + I0 12) - 1) Z1 → v_M_gather_105 I J0 64 f1 320 f2 320 g3 m ((160 + I0 12) - 1) Z2 := x_M_gather_105 (fI_and (fun _ => by rw [hY]; exact hZ I g3 m hf hm ha hg hp))
      have g65 : ¬ 3 ≤ m.toInt → (0 ≤ ych f1 (I0 3).toInt ((I0 14).toInt + m.toInt) ∧ ych f1 (I0 3).toInt ((I0 14).toInt + m.toInt) ≤ 255) → v_M_gather_65 I J0 64 f1 320 f2 320 g3 x1 m ((160 + I0 12) - 1) (v_M_gather_13 J0 64 f1 320 f2 320 x1 ((160 + I0 12) - 1) Z1 N) Z1 → v_M_gather_65 I J0 64 f1 320 f2 320 g3 x1 m ((160 + I0 12) - 1) (v_M_gather_13 J0 64 f1 320 f2 320 x1 ((160 + I0 12) - 1) Z2 N) Z2 := fun h3 hc => by
        have em : (m + 1).toInt = m.toInt + 1 := zadd1 (by simp only [Int32.reduceToInt]; omega) (by simp only [Int32.reduceToInt]; omega)
        have ea : (I 14 + 1).toInt = (I 14).toInt + 1 := zadd1 (by simp only [Int32.reduceToInt]; omega) (by simp only [Int32.reduceToInt]; omega)
        refine x_M_gather_65 (fI_and (fun _ => f_M_ch ⟨by omega, by omega⟩ (fun r hr => x_M_gather_87 (fI_and (fun _ => ?_)))))
        rw [e3, ha] at hr
        rw [← hr] at hc
        refine ih _ _ (m + 1) (zfr_zu (by decide) hf) (by omega) ?_ (fun j hj => ?_) (fun kd => ?_)
        · show (I 14 + 1).toInt = _; omega
        · rw [pk_un (by rw [hY]; exact hj)]; exact hg j hj
        · rw [hY, pk_us, em, show (m.toInt + 1).toNat = m.toInt.toNat + 1 by omega, pkc_3 hc (by omega), hp, chL_s, show (I0 14).toInt + ((m.toInt.toNat : Nat) : Int) = (I0 14).toInt + m.toInt by omega, hr]
      refine x_M_gather_13 (fI_ite (fun _ => g105) (fun c => fI_ite (fun d => ?_) (fun d => ?_)))
      · have c : ¬ 3 ≤ m.toInt := by simp only [zle_le, Int32.reduceToInt] at c; exact c
        refine f_M_ch ⟨by omega, by omega⟩ (fun r hr => x_M_gather_59 (f_M_isPlace trivial (fun r2 hr2 => x_M_gather_62 (fI_ite (fun _ => g105) (fun d2 => g65 c ?_)))))
        rw [e3, ha] at hr
        rcases hr2 with ⟨_, w⟩ | ⟨w, _⟩
        · rw [hr] at w; unfold kPl at w; omega
        · exact absurd (zle_eq.2 (w.trans (by decide))) d2
      · have c : ¬ 3 ≤ m.toInt := by simp only [zle_le, Int32.reduceToInt] at c; exact c
        refine f_M_ch ⟨by omega, by omega⟩ (fun r hr => x_M_gather_30 (fI_ite (fun _ => g105) (fun d1 => f_M_ch ⟨by omega, by omega⟩ (fun r2 hr2 => x_M_gather_43 (fI_ite (fun _ => g105) (fun d2 => g65 c ?_))))))
        rw [e3, ha] at hr hr2
        simp only [zle_lt, Int32.reduceToInt] at d1 d2
        omega
  exact x_M_gather_0 (fI_all (fI_ex (fun N => lp N I0 f3 0 zfr_refl (by decide) (by rw [z32_0]; omega) (fun _ _ => rfl) (fun kd => by rw [z32_0]; rfl))))
end
section
variable {I0 f1 f2 f3 : Nat → Int32} {J0 : Nat → Int64} {x1 : Int32}
theorem gm_gather2 {Z1 Z2 : (Nat → Int32) × (Nat → Int32) × (Nat → Int32) → Prop} {Y : Nat} (hY : ((160 + I0 12) - 1).toNatClampNeg = Y) (hx : 0 ≤ (I0 14).toInt) (hx6 : (I0 14).toInt ≤ 70) (he : (I0 3).toInt ≤ 64) (hq : f3 Y = 0) (hZ : ∀ (I g3 : Nat → Int32) (m : Int32), zfr [14] I0 I → (0 ≤ m.toInt ∧ m.toInt ≤ 3) → (I 14).toInt = (I0 14).toInt + m.toInt → (∀ j : Nat, ¬ j = Y → g3 j = f3 j) → (∀ kd : Int, pkc kd (g3 Y) m.toInt.toNat = chL kd f1 (I0 3).toInt (I0 14).toInt m.toInt.toNat) → ((x1.toInt = 0 ∧ kPn f1 (I0 3).toInt (I0 14).toInt m.toInt) ∨ (¬ x1.toInt = 0 ∧ kDn f1 (I0 3).toInt (I0 14).toInt m.toInt)) → Z1 (I, upd f2 Y m, g3) → Z2 (I, upd f2 Y m, g3)) : v_M_gather_0 I0 J0 64 f1 320 f2 320 f3 x1 Z1 → v_M_gather_0 I0 J0 64 f1 320 f2 320 f3 x1 Z2 := by
  refine fun h => f_M_gather (Z1 := fun u => ((x1.toInt = 0 ∧ kPn f1 (I0 3).toInt (I0 14).toInt ((u.1 14).toInt - (I0 14).toInt)) ∨ (¬ x1.toInt = 0 ∧ kDn f1 (I0 3).toInt (I0 14).toInt ((u.1 14).toInt - (I0 14).toInt))) → Z2 u) ⟨hx, hx6, he⟩ (fun a g2 g3 hp q => q hp) (gm_gather hY hx hx6 he hq (fun I g3 m a b c d e z1 hp => hZ I g3 m a b c d e ?_ z1) h)
  have hp : ((x1.toInt = 0 ∧ kPn f1 (I0 3).toInt (I0 14).toInt ((I 14).toInt - (I0 14).toInt)) ∨ (¬ x1.toInt = 0 ∧ kDn f1 (I0 3).toInt (I0 14).toInt ((I 14).toInt - (I0 14).toInt))) := hp
  rw [c, show (I0 14).toInt + m.toInt - (I0 14).toInt = m.toInt by omega] at hp
  exact hp
end
theorem apR_u {K A B Q K2 A2 B2 Q2 B3 Q3 : Nat → Int32} {n n2 k a b c : Int} {q p : Int32} {Y : Nat} (h : apR K A B Q n K2 A2 B2 Q2 n2 [(k, a, b, q)]) (h0 : 0 ≤ n) (hY : (Y : Int) = 160 + n) (hB : ∀ j : Nat, ¬ j = Y → B3 j = B2 j) (hQ : ∀ j : Nat, ¬ j = Y → Q3 j = Q2 j) (hb : (B3 Y).toInt = c) (hq : Q3 Y = p) : apR K A B Q n K2 A2 B3 Q3 n2 [(k, a, c, p)] := by
  obtain ⟨l, f, r⟩ := h
  have l : n2 = n + 1 := l
  refine ⟨l, fun j hj => ?_, ?_⟩
  · obtain ⟨f1, f2, f3, f4⟩ := f j hj
    exact ⟨f1, f2, (hB j (by omega)).trans f3, (hQ j (by omega)).trans f4⟩
  · rw [rvs_s (by omega) (by omega), rvs_x (by omega)] at r ⊢
    have e : (160 + n).toNat = Y := by omega
    rw [e] at r ⊢
    injection r with r _
    injection r with r1 r2
    injection r2 with r2 r3
    rw [r1, r2, hb, hq]
theorem apR_q {K A B Q K2 A2 B2 Q2 : Nat → Int32} {n n2 k a b : Int} {q : Int32} {Y : Nat} (h : apR K A B Q n K2 A2 B2 Q2 n2 [(k, a, b, q)]) (h0 : 0 ≤ n) (hY : (Y : Int) = 160 + n) : Q2 Y = q := by
  obtain ⟨l, f, r⟩ := h
  have l : n2 = n + 1 := l
  rw [rvs_s (by omega) (by omega), rvs_x (by omega), show (160 + n).toNat = Y by omega] at r
  injection r with r _
  injection r with _ r
  injection r with _ r
  injection r with _ r
def mnR (K g : Nat → Int32) (a n : Int) : Prop := ∃ x : Int, (a ≤ x + 1 ∧ x + 1 ≤ n) ∧ (∀ j : Nat, (j : Int) < 160 + (x + 1) → g j = K j) ∧ (∀ j : Nat, 160 + (x + 1) ≤ (j : Int) → (j : Int) < 160 + n → (K j).toInt = 2 ∧ (g j).toInt = 9) ∧ (x < a ∨ ¬ (K (160 + x).toNat).toInt = 2)
section
variable {I0 f1 f2 f3 f4 f5 f6 : Nat → Int32} {J0 : Nat → Int64} {x1 x2 x3 : Int32} {n6 : Nat}
theorem gm_power0 {Z1 Z2 : (Nat → Int32) × (Nat → Int32) × (Nat → Int32) × (Nat → Int32) × (Nat → Int32) × (Nat → Int32) → Prop} (hx : 0 ≤ (I0 14).toInt) (hx6 : (I0 14).toInt ≤ 64) (he : (I0 3).toInt ≤ 64) (h0 : 0 ≤ (I0 12).toInt) (h1 : (I0 12).toInt ≤ 100) (hf : 0 ≤ x1.toInt)
    (hZ : ∀ (I g1 g3 g4 g5 g6 : Nat → Int32), (0 ≤ (I 13).toInt ∨ ∃ (m : Int) (q : Int32), (0 ≤ m ∧ m ≤ 3) ∧ (I 14).toInt = (I0 14).toInt + 2 + m ∧ (∀ kd : Int, pkc kd q m.toNat = chL kd f2 (I0 3).toInt ((I0 14).toInt + 2) m.toNat) ∧ apR f1 f3 f4 f5 (I0 12).toInt g1 g3 g4 g5 (I 12).toInt [(8, ych f2 (I0 3).toInt ((I0 14).toInt + 1), m, q)] ∧ g6 = upd f6 (5 + x2).toNatClampNeg 3 ∧ (I 19).toInt = (I0 19).toInt) → Z1 (I, g1, g3, g4, g5, g6) → Z2 (I, g1, g3, g4, g5, g6)) :
    v_M_power0_0 I0 J0 320 f1 64 f2 320 f3 320 f4 320 f5 n6 f6 x1 x2 Z1 → v_M_power0_0 I0 J0 320 f1 64 f2 320 f3 320 f4 320 f5 n6 f6 x1 x2 Z2 := by
  have a1 : (I0 14 + 1).toInt = (I0 14).toInt + 1 := zadd1 (by simp only [Int32.reduceToInt]; omega) (by simp only [Int32.reduceToInt]; omega)
  have a2 : (I0 14 + 2).toInt = (I0 14).toInt + 2 := zadd1 (by simp only [Int32.reduceToInt]; omega) (by simp only [Int32.reduceToInt]; omega)
  have b1 : (I0 12 + 1).toInt = (I0 12).toInt + 1 := zadd1 (by simp only [Int32.reduceToInt]; omega) (by simp only [Int32.reduceToInt]; omega)
  have b2 : (160 + (I0 12 + 1)).toInt = 160 + ((I0 12).toInt + 1) := by rw [← b1]; exact zadd1 (by simp only [Int32.reduceToInt]; omega) (by simp only [Int32.reduceToInt]; omega)
  have b3 : (160 + (I0 12 + 1) - 1).toInt = 160 + (I0 12).toInt := by rw [zsub1 (by rw [b2]; simp only [Int32.reduceToInt]; omega) (by rw [b2]; simp only [Int32.reduceToInt]; omega), b2]; simp only [Int32.reduceToInt]; omega
  have g81 : ∀ s : Int32, v_M_power0_81 I0 J0 320 f1 64 f2 320 f3 320 f4 320 f5 n6 f6 x2 s Z1 → v_M_power0_81 I0 J0 320 f1 64 f2 320 f3 320 f4 320 f5 n6 f6 x2 s Z2 := fun s => by
    refine x_M_power0_81 (fI_ite' (fun _ => f_M_ch ⟨by omega, he⟩ (fun r hr => x_M_power0_110 (gm_item h0 (by omega) (fun g1 g2 g3 g4 b => x_M_power0_114 ?_)))) (fun _ => hZ _ f1 f3 f4 f5 f6 (Or.inl hx)))
    have hY : (((160 + (I0 12 + 1) - 1).toNatClampNeg : Nat) : Int) = 160 + (I0 12).toInt := by rw [zcl, b3]; omega
    refine gm_gather (I0 := zu (zu I0 12 (I0 12 + 1)) 14 (I0 14 + 2)) (Y := (160 + (I0 12 + 1) - 1).toNatClampNeg) rfl (by show 0 ≤ (I0 14 + 2).toInt; omega) (by show (I0 14 + 2).toInt ≤ 70; omega) he (apR_q b h0 hY) (fun I g5 m hI hm hat hg hp => x_M_power0_129 (fI_and (fun _ => hZ _ g1 g2 _ g5 _ (Or.inr ⟨m.toInt, g5 (160 + (I0 12 + 1) - 1).toNatClampNeg, hm, ?_, ?_, ?_, rfl, by show (I 19).toInt = _; rw [hI 19 (by decide)]; rfl⟩))))
    · show (I 14).toInt = _
      have : (I 14).toInt = (I0 14 + 2).toInt + m.toInt := hat
      omega
    · intro kd
      have := hp kd
      rw [show ((zu (zu I0 12 (I0 12 + 1)) 14 (I0 14 + 2)) 14).toInt = (I0 14).toInt + 2 from a2] at this
      exact this
    · rw [show (zu I 17 1) 12 = I 12 from rfl, hI 12 (by decide)]
      rw [hr, a1] at b
      exact apR_u b h0 hY (fun j hj => pk_un hj) hg (by dsimp only; rw [pk_us]) rfl
  have g60 : v_M_power0_60 I0 J0 320 f1 64 f2 320 f3 320 f4 320 f5 n6 f6 x2 Z1 → v_M_power0_60 I0 J0 320 f1 64 f2 320 f3 320 f4 320 f5 n6 f6 x2 Z2 := x_M_power0_60 (f_M_ch ⟨by omega, he⟩ (fun r _ => x_M_power0_70 (f_M_isPlace trivial (fun r2 _ => x_M_power0_73 (fI_ite (fun _ => x_M_power0_80 (g81 _)) (fun _ => g81 _))))))
  have g16 : v_M_power0_16 I0 J0 320 f1 64 f2 320 f3 320 f4 320 f5 n6 f6 x2 Z1 → v_M_power0_16 I0 J0 320 f1 64 f2 320 f3 320 f4 320 f5 n6 f6 x2 Z2 := x_M_power0_16 (fI_ite' (fun _ => x_M_power0_80 (g81 _)) (fun _ => fI_ite' (fun _ => x_M_power0_80 (g81 _)) (fun _ => f_M_ch ⟨by omega, he⟩ (fun r _ => x_M_power0_40 (fI_ite (fun _ => g60) (fun _ => f_M_ch ⟨by omega, he⟩ (fun r2 _ => x_M_power0_55 (fI_ite' (fun _ => x_M_power0_80 (g81 _)) (fun _ => g60)))))))))
  exact x_M_power0_0 (f_M_before ⟨h0, h1, hf⟩ (fun r _ => x_M_power0_5 (fI_ite (fun _ => g16) (fun _ => fI_ite' (fun _ => x_M_power0_80 (g81 _)) (fun _ => g16)))))
theorem gm_stroke {Z1 Z2 : (Nat → Int32) × (Nat → Int32) × (Nat → Int32) × (Nat → Int32) × (Nat → Int32) × (Nat → Int32) → Prop} (hx : 0 ≤ (I0 14).toInt) (hx6 : (I0 14).toInt ≤ 64) (he : (I0 3).toInt ≤ 64) (h0 : 0 ≤ (I0 12).toInt) (h1 : (I0 12).toInt ≤ 100) (hf : 0 ≤ x1.toInt ∧ x1.toInt ≤ (I0 12).toInt)
    (hZ : ∀ (I g2 g3 g4 g5 g6 : Nat → Int32), (0 ≤ (I 13).toInt ∨ ∃ (m d : Int) (q : Int32) (g : Nat → Int32), ((0 ≤ m ∧ m ≤ 3) ∧ ((d = 1 ∧ (49 ≤ ych f1 (I0 3).toInt ((I0 14).toInt + 1) ∧ ych f1 (I0 3).toInt ((I0 14).toInt + 1) ≤ 57) ∧ kDn f1 (I0 3).toInt ((I0 14).toInt + 1) m) ∨ (d = 0 ∧ kPl (ych f1 (I0 3).toInt ((I0 14).toInt + 1)) ∧ kPn f1 (I0 3).toInt ((I0 14).toInt + 1) m))) ∧ (I 14).toInt = (I0 14).toInt + 1 + m ∧ (∀ kd : Int, pkc kd q m.toNat = chL kd f1 (I0 3).toInt ((I0 14).toInt + 1) m.toNat) ∧ mnR f2 g x1.toInt (I0 12).toInt ∧ apR g f3 f4 f5 (I0 12).toInt g2 g3 g4 g5 (I 12).toInt [(10, d, m, q)] ∧ g6 = upd f6 (5 + x2).toNatClampNeg 4 ∧ (I 19).toInt = (I0 19).toInt ∧ (I0 19).toInt = 0) → Z1 (I, g2, g3, g4, g5, g6) → Z2 (I, g2, g3, g4, g5, g6)) :
    v_M_stroke_0 I0 J0 64 f1 320 f2 320 f3 320 f4 320 f5 n6 f6 x1 x2 Z1 → v_M_stroke_0 I0 J0 64 f1 320 f2 320 f3 320 f4 320 f5 n6 f6 x1 x2 Z2 := by
  have a1 : (I0 14 + 1).toInt = (I0 14).toInt + 1 := zadd1 (by simp only [Int32.reduceToInt]; omega) (by simp only [Int32.reduceToInt]; omega)
  have b1 : (I0 12 + 1).toInt = (I0 12).toInt + 1 := zadd1 (by simp only [Int32.reduceToInt]; omega) (by simp only [Int32.reduceToInt]; omega)
  have b2 : (160 + (I0 12 + 1)).toInt = 160 + ((I0 12).toInt + 1) := by rw [← b1]; exact zadd1 (by simp only [Int32.reduceToInt]; omega) (by simp only [Int32.reduceToInt]; omega)
  have b3 : (160 + (I0 12 + 1) - 1).toInt = 160 + (I0 12).toInt := by rw [zsub1 (by rw [b2]; simp only [Int32.reduceToInt]; omega) (by rw [b2]; simp only [Int32.reduceToInt]; omega), b2]; simp only [Int32.reduceToInt]; omega
  have hno : v_M_stroke_72 I0 J0 64 f1 320 f2 320 f3 320 f4 320 f5 n6 f6 Z1 → v_M_stroke_72 I0 J0 64 f1 320 f2 320 f3 320 f4 320 f5 n6 f6 Z2 := x_M_stroke_72 (hZ _ f2 f3 f4 f5 f6 (Or.inl hx))
  have hY : (((160 + (I0 12 + 1) - 1).toNatClampNeg : Nat) : Int) = 160 + (I0 12).toInt := by rw [zcl, b3]; omega
  refine x_M_stroke_0 (f_M_ch ⟨by omega, he⟩ (fun c hc => ?_))
  rw [a1] at hc
  have g129 : ∀ (g : Nat → Int32) (s : Int32), (I0 19).toInt = 0 → ((s.toInt = 1 ∧ (49 ≤ c.toInt ∧ c.toInt ≤ 57)) ∨ (s.toInt = 0 ∧ kPl c.toInt)) → mnR f2 g x1.toInt (I0 12).toInt → v_M_stroke_129 I0 J0 64 f1 320 g 320 f3 320 f4 320 f5 n6 f6 x2 s Z1 → v_M_stroke_129 I0 J0 64 f1 320 g 320 f3 320 f4 320 f5 n6 f6 x2 s Z2 := fun g s h19 hs hm => by
    have g142 : ∀ d : Int32, ((d.toInt = 1 ∧ (49 ≤ c.toInt ∧ c.toInt ≤ 57) ∧ ¬ s.toInt = 0) ∨ (d.toInt = 0 ∧ kPl c.toInt ∧ s.toInt = 0)) → v_M_stroke_142 I0 J0 64 f1 320 g 320 f3 320 f4 320 f5 n6 f6 x2 s 10 d Z1 → v_M_stroke_142 I0 J0 64 f1 320 g 320 f3 320 f4 320 f5 n6 f6 x2 s 10 d Z2 := fun d hd => by
      refine x_M_stroke_142 (gm_item h0 (by omega) (fun g1 g2 g3 g4 b => x_M_stroke_146 ?_))
      refine gm_gather2 (I0 := zu (zu I0 12 (I0 12 + 1)) 14 (I0 14 + 1)) (Y := (160 + (I0 12 + 1) - 1).toNatClampNeg) rfl (by show 0 ≤ (I0 14 + 1).toInt; omega) (by show (I0 14 + 1).toInt ≤ 70; omega) he (apR_q b h0 hY) (fun I g5 m hI hm2 hat hg hp hK => x_M_stroke_162 (fI_and (fun _ => hZ _ g1 g2 _ g5 _ (Or.inr ⟨m.toInt, d.toInt, g5 (160 + (I0 12 + 1) - 1).toNatClampNeg, g, ⟨hm2, ?_⟩, ?_, ?_, hm, ?_, rfl, by show (I 19).toInt = _; rw [hI 19 (by decide)]; rfl, h19⟩))))
      · have hK : ((s.toInt = 0 ∧ kPn f1 (I0 3).toInt (I0 14 + 1).toInt m.toInt) ∨ (¬ s.toInt = 0 ∧ kDn f1 (I0 3).toInt (I0 14 + 1).toInt m.toInt)) := hK
        rw [a1] at hK
        rw [← hc]
        rcases hd with ⟨w1, w2, w3⟩ | ⟨w1, w2, w3⟩
        · exact Or.inl ⟨w1, w2, (hK.resolve_left (fun z => w3 z.1)).2⟩
        · exact Or.inr ⟨w1, w2, (hK.resolve_right (fun z => z.1 w3)).2⟩
      · show (I 14).toInt = _
        have : (I 14).toInt = (I0 14 + 1).toInt + m.toInt := hat
        omega
      · intro kd
        have := hp kd
        rw [show ((zu (zu I0 12 (I0 12 + 1)) 14 (I0 14 + 1)) 14).toInt = (I0 14).toInt + 1 from a1] at this
        exact this
      · rw [show (zu I 17 1) 12 = I 12 from rfl, hI 12 (by decide)]
        exact apR_u b h0 hY (fun j hj => pk_un hj) hg (by dsimp only; rw [pk_us]) rfl
    refine x_M_stroke_129 (fI_ite (fun q => g142 0 (Or.inr ⟨by decide, ?_, by rw [q]; decide⟩)) (fun q => g142 1 (Or.inl ⟨by decide, ?_, fun z => q (zle_eq.2 (z.trans (by decide)))⟩)))
    · rcases hs with ⟨w, _⟩ | ⟨_, w⟩
      · rw [q] at w; exact absurd w (by decide)
      · exact w
    · rcases hs with ⟨_, w⟩ | ⟨w, _⟩
      · exact w
      · exact absurd (zle_eq.2 (w.trans (by decide))) q
  have g81 : ∀ s : Int32, (I0 19).toInt = 0 → ((s.toInt = 1 ∧ (49 ≤ c.toInt ∧ c.toInt ≤ 57)) ∨ (s.toInt = 0 ∧ kPl c.toInt)) → v_M_stroke_81 I0 J0 64 f1 320 f2 320 f3 320 f4 320 f5 n6 f6 x1 x2 s Z1 → v_M_stroke_81 I0 J0 64 f1 320 f2 320 f3 320 f4 320 f5 n6 f6 x1 x2 s Z2 := fun s h19 hs => by
    have lp : ∀ (N : Nat) (g : Nat → Int32) (x : Int32), (x1.toInt ≤ x.toInt + 1 ∧ x.toInt + 1 ≤ (I0 12).toInt) → (∀ j : Nat, (j : Int) < 160 + (x.toInt + 1) → g j = f2 j) → (∀ j : Nat, 160 + (x.toInt + 1) ≤ (j : Int) → (j : Int) < 160 + (I0 12).toInt → (f2 j).toInt = 2 ∧ (g j).toInt = 9) → v_M_stroke_89 I0 J0 64 f1 320 320 f3 320 f4 320 f5 n6 f6 x1 x2 s Z1 N g x → v_M_stroke_89 I0 J0 64 f1 320 320 f3 320 f4 320 f5 n6 f6 x1 x2 s Z2 N g x := by
      intro N
      induction N with
      | zero => intro g x _ _ _ h; exact h.elim
      | succ N ih =>
        intro g x hx hl hh
        refine x_M_stroke_89 (fI_ite (fun q => g129 g s h19 hs ⟨x.toInt, hx, hl, hh, Or.inl (zle_lt.1 q)⟩) (fun q => fI_and (fun _ => ?_)))
        rw [zle_lt] at q
        have e1 : (160 + x).toInt = 160 + x.toInt := zadd1 (by simp only [Int32.reduceToInt]; omega) (by simp only [Int32.reduceToInt]; omega)
        have ez : (160 + x).toNatClampNeg = (160 + x.toInt).toNat := by rw [zcl, e1]
        have gx : g (160 + x).toNatClampNeg = f2 (160 + x.toInt).toNat := by rw [ez]; exact hl _ (by omega)
        refine fI_ite' (fun w => g129 g s h19 hs ⟨x.toInt, hx, hl, hh, Or.inr (fun w2 => w (zle_eq.2 ?_))⟩) (fun w => fI_and (fun _ => ih _ (x + (-1)) ?_ (fun j hj => ?_) (fun j p2 q2 => ?_)))
        · rw [gx, w2]; decide
        · rw [zdec1 (by omega) (by omega)]; omega
        · rw [zdec1 (by omega) (by omega)] at hj
          rw [pk_un (by rw [ez]; omega)]; exact hl j (by omega)
        · rw [zdec1 (by omega) (by omega)] at p2
          by_cases y : j = (160 + x.toInt).toNat
          · subst y
            refine ⟨?_, ?_⟩
            · rw [← gx, w]; decide
            · rw [← ez, pk_us]; decide
          · rw [pk_un (by rw [ez]; exact y)]
            exact hh j (by omega) q2
    have e41 : (I0 12 - 1).toInt = (I0 12).toInt - 1 := zsub1 (by simp only [Int32.reduceToInt]; omega) (by simp only [Int32.reduceToInt]; omega)
    exact x_M_stroke_81 (fI_ex (fun N => lp N f2 (I0 12 - 1) (by rw [e41]; omega) (fun _ _ => rfl) (fun j p2 q2 => by rw [e41] at p2; omega)))
  have g28 : ∀ s : Int32, ((s.toInt = 1 ∧ (49 ≤ c.toInt ∧ c.toInt ≤ 57)) ∨ (s.toInt = 0 ∧ ¬ (49 ≤ c.toInt ∧ c.toInt ≤ 57))) → v_M_stroke_28 I0 J0 64 f1 320 f2 320 f3 320 f4 320 f5 n6 f6 x1 x2 c s Z1 → v_M_stroke_28 I0 J0 64 f1 320 f2 320 f3 320 f4 320 f5 n6 f6 x1 x2 c s Z2 := fun s hs => by
    refine x_M_stroke_28 (f_M_before ⟨h0, h1, hf.1⟩ (fun r _ => x_M_stroke_35 (fI_ite' (fun _ => hno) (fun _ => fI_ite' (fun _ => hno) (fun _ => fI_ite' (fun _ => hno) (fun e19 => fI_ite' (fun _ => hno) (fun _ => fI_ite' (fun q => g81 s (by rw [e19]; decide) (Or.inl ?_)) (fun q => f_M_isPlace trivial (fun r2 hr2 => x_M_stroke_69 (fI_ite' (fun w => g81 s (by rw [e19]; decide) (Or.inr ?_)) (fun _ => hno)))))))))))
    · rcases hs with w | ⟨w, _⟩
      · exact w
      · exact absurd (zle_eq.2 (w.trans (by decide))) q
    · refine ⟨by rw [q]; decide, ?_⟩
      rcases hr2 with ⟨_, w2⟩ | ⟨w2, _⟩
      · exact w2
      · exact absurd (zle_eq.2 (w2.trans (by decide))) w
  have g27 : ¬ (49 ≤ c.toInt ∧ c.toInt ≤ 57) → v_M_stroke_27 I0 J0 64 f1 320 f2 320 f3 320 f4 320 f5 n6 f6 x1 x2 c Z1 → v_M_stroke_27 I0 J0 64 f1 320 f2 320 f3 320 f4 320 f5 n6 f6 x1 x2 c Z2 := fun n => x_M_stroke_27 (g28 0 (Or.inr ⟨by decide, n⟩))
  refine x_M_stroke_10 (fI_ite (fun q => g27 ?_) (fun q => fI_ite (fun q2 => g27 ?_) (fun q2 => g28 1 (Or.inl ⟨by decide, ?_⟩))))
  · simp only [zle_lt, Int32.reduceToInt] at q; omega
  · simp only [zle_lt, Int32.reduceToInt] at q2; omega
  · simp only [zle_lt, Int32.reduceToInt] at q q2; omega
end
