/-! the reference's sections move down, the reference's code whole -/
section
variable {f1 : Nat → Int32} {J0 : Nat → Int64} {I0 f2 F3 F4 F5 F6 F7 F8 F9 : Nat → Int32} {x1 : Int32} {e : Int} {n2 : Nat}
theorem gm_code138 {Z1 Z2 : Int32 → (Nat → Int32) × (Nat → Int32) × (Nat → Int32) × (Nat → Int32) × (Nat → Int32) × (Nat → Int32) × (Nat → Int32) × (Nat → Int32) × (Nat → Int32) → Prop} (h0 : 0 ≤ (I0 12).toInt ∧ (I0 12).toInt ≤ 64) (h1 : 0 ≤ x1.toInt ∧ x1.toInt ≤ 4) (hR : rdS f1 e x1.toInt (I0 12).toInt 5 160 F3 F4 F9 F5 F6 F7 F8)
    (hB : ∀ g3 g4 g5 g6 g7 g8 g9 : Nat → Int32, rdS f1 e x1.toInt (I0 12).toInt 0 0 g3 g4 g9 g5 g6 g7 g8 → Z1 (-1) (I0, f2, g3, g4, g5, g6, g7, g8, g9) → Z2 (-1) (I0, f2, g3, g4, g5, g6, g7, g8, g9)) :
    ∀ (N : Nat) (g3 g4 g9 : Nat → Int32) (x : Int32), (0 ≤ x.toInt ∧ x.toInt ≤ x1.toInt) → (∀ k : Nat, (k : Int) < x.toInt → g3 k = F3 (5 + k) ∧ g4 k = F4 (5 + k) - 160 ∧ g9 k = F9 (5 + k) - 160) → (∀ k : Nat, 5 ≤ k → g3 k = F3 k ∧ g4 k = F4 k ∧ g9 k = F9 k) → v_M_code_138 I0 J0 64 f1 n2 f2 10 10 320 F5 320 F6 320 F7 320 F8 10 x1 Z1 N g3 g4 g9 x → v_M_code_138 I0 J0 64 f1 n2 f2 10 10 320 F5 320 F6 320 F7 320 F8 10 x1 Z2 N g3 g4 g9 x := by
  intro N
  induction N with
  | zero => intro g3 g4 g9 x _ _ _ h; exact h.elim
  | succ N ih =>
    intro g3 g4 g9 x hx hl hh
    refine x_M_code_138 (fI_ite (fun c => fI_ex (fun M => gm_code209 (F5 := F5) (F6 := F6) (F7 := F7) (F8 := F8) h0 (fun k5 k6 k7 k8 hc => hB g3 g4 k5 k6 k7 k8 g9 (fun k hk => ?_)) M F5 F6 F7 F8 0 (by rw [z32_0]; omega) (fun j hj => by rw [z32_0] at hj; omega) (fun j _ => ⟨rfl, rfl, rfl, rfl⟩))) (fun c => fI_and (fun _ => fI_and (fun _ => fI_and (fun _ => fI_and (fun _ => fI_and (fun _ => fI_and (fun _ => ?_))))))))
    · rw [zle_le] at c
      obtain ⟨L, pc, a, n, q1, ⟨q2, q3⟩, q4, q5⟩ := hR k hk
      obtain ⟨w1, w2, w3⟩ := hl k (by omega)
      rw [Nat.zero_add]
      refine ⟨L, pc, a, n, by rw [w1]; exact q1, ⟨?_, ?_⟩, q4, ?_⟩
      · rw [w2, zsub1 (by simp only [Int32.reduceToInt]; omega) (by simp only [Int32.reduceToInt]; omega), q2]; simp only [Int32.reduceToInt]; omega
      · rw [w3, zsub1 (by simp only [Int32.reduceToInt]; omega) (by simp only [Int32.reduceToInt]; omega), q3]; simp only [Int32.reduceToInt]; omega
      · have ev : rvs k5 k6 k7 k8 (0 + a) (0 + n) = rvs F5 F6 F7 F8 (160 + a) (160 + n) := by
          unfold rvs
          rw [show (160 + n - (160 + a)).toNat = (0 + n - (0 + a)).toNat by omega]
          refine rv_sh _ _ _ (fun q hq => ?_)
          have := hc ((0 + a).toNat + q) (by omega)
          rw [show (160 + a).toNat + q = 160 + ((0 + a).toNat + q) by omega]
          exact this
        unfold secX
        rw [ev, w1]; exact q5
    · rw [zle_le] at c
      have e1 : (x + 1).toInt = x.toInt + 1 := zadd1 (by simp only [Int32.reduceToInt]; omega) (by simp only [Int32.reduceToInt]; omega)
      have e2 : (5 + x).toNatClampNeg = 5 + x.toInt.toNat := k5x (by omega) (by omega)
      have e3 : x.toNatClampNeg = x.toInt.toNat := zcl x
      have hq := hh (5 + x.toInt.toNat) (by omega)
      rw [e2]
      refine ih _ _ _ (x + 1) (by omega) (fun j hj => ?_) (fun j hj => ?_)
      · by_cases y : j = x.toInt.toNat
        · subst y
          rw [e3, pk_us, pk_us, pk_us, hq.1, hq.2.1, hq.2.2]; exact ⟨rfl, rfl, rfl⟩
        · rw [pk_un (by rw [e3]; exact y), pk_un (by rw [e3]; exact y), pk_un (by rw [e3]; exact y)]
          exact hl j (by omega)
      · rw [pk_un (by rw [e3]; omega), pk_un (by rw [e3]; omega), pk_un (by rw [e3]; omega)]
        exact hh j hj
end
theorem rdS_s {f S D E K A B Q S2 D2 E2 K2 A2 B2 Q2 : Nat → Int32} {e p to m m2 : Int} {x : Int32} {y z : Int32} (h : rdS f e x.toInt m 5 160 S D E K A B Q) (hx : 0 ≤ x.toInt ∧ x.toInt ≤ 3) (hm : 0 ≤ m) (hF : kFt f e x.toInt.toNat p) (hy : yS f e to p) (hfm : kFm S S2 x) (hfr : rFr m K A B Q K2 A2 B2 Q2) (hE : rEnd f e x.toInt p to m m2 (S2 (5 + x).toNatClampNeg).toInt K2 A2 B2 Q2) (hD : D2 = upd D (5 + x).toNatClampNeg y) (hD2 : y.toInt = 160 + m) (hE2 : E2 = upd E (5 + x).toNatClampNeg z) (hz : z.toInt = 160 + m2) : rdS f e (x.toInt + 1) m2 5 160 S2 D2 E2 K2 A2 B2 Q2 := by
  have ex : (5 + x).toNatClampNeg = 5 + x.toInt.toNat := k5x (by omega) (by omega)
  obtain ⟨⟨a1, a2⟩, a3, L, pc, b1, b2, b3, b4⟩ := hE
  rw [ex] at hD hE2 a3 b1 b3
  intro k hk
  by_cases c : k = x.toInt.toNat
  · subst c
    refine ⟨L, pc, m, m2, ⟨by omega, p, to, hF, hy, ?_⟩, ⟨by rw [hD, pk_us]; exact hD2, by rw [hE2, pk_us]; exact hz⟩, ⟨hm, a1, Int.le_refl _⟩, b2, b3, b4⟩
    rw [show ((x.toInt.toNat : Nat) : Int) = x.toInt by omega]; exact b1
  · obtain ⟨L1, pc1, a, n, q1, ⟨q2, q3⟩, q4, q5⟩ := h k (by omega)
    have es : S2 (5 + k) = S (5 + k) := hfm (5 + k) (by rw [ex]; omega)
    refine ⟨L1, pc1, a, n, by rw [es]; exact q1, ⟨by rw [hD, pk_un (by omega)]; exact q2, by rw [hE2, pk_un (by omega)]; exact q3⟩, by omega, ?_⟩
    rw [es]
    exact secX_g q5 (fun R hR => by rw [← hR]; exact rvs_g (by omega) (fun j _ w => hfr j (by omega)))
section
variable {I0 f1 f2 f3 f4 f5 f6 f7 f8 f9 : Nat → Int32} {J0 : Nat → Int64}
theorem gm_code {Z1 Z2 : Int32 → (Nat → Int32) × (Nat → Int32) × (Nat → Int32) × (Nat → Int32) × (Nat → Int32) × (Nat → Int32) × (Nat → Int32) × (Nat → Int32) × (Nat → Int32) → Prop} (h0 : 0 ≤ (I0 1).toInt) (h6 : (I0 1).toInt ≤ 64) (hN : ∀ r u, 0 ≤ r.toInt → Z1 r u → Z2 r u)
    (hB : ∀ (I g2 g3 g4 g5 g6 g7 g8 g9 : Nat → Int32) (n : Int32), g2 = upd f2 (0 : Int32).toNatClampNeg n → (1 ≤ n.toInt ∧ n.toInt ≤ 4) → (0 ≤ (I 12).toInt ∧ (I 12).toInt ≤ 64) → rdS f1 (I0 1).toInt n.toInt (I 12).toInt 0 0 g3 g4 g9 g5 g6 g7 g8 → Z1 (-1) (I, g2, g3, g4, g5, g6, g7, g8, g9) → Z2 (-1) (I, g2, g3, g4, g5, g6, g7, g8, g9)) :
    v_M_code_0 I0 J0 64 f1 2 f2 10 f3 10 f4 320 f5 320 f6 320 f7 320 f8 10 f9 Z1 → v_M_code_0 I0 J0 64 f1 2 f2 10 f3 10 f4 320 f5 320 f6 320 f7 320 f8 10 f9 Z2 := by
  have lp : ∀ (N : Nat) (I g3 g4 g5 g6 g7 g8 g9 : Nat → Int32) (x1 x2 x3 : Int32), (I 3).toInt = (I0 1).toInt → (0 ≤ x1.toInt ∧ x1.toInt ≤ 4) → (0 ≤ (I 13).toInt ∨ ((I 13).toInt = -1 ∧ (0 ≤ (I 12).toInt ∧ (I 12).toInt ≤ 64) ∧ rdS f1 (I0 1).toInt x1.toInt (I 12).toInt 5 160 g3 g4 g9 g5 g6 g7 g8 ∧ ((x3 = 0 ∧ 1 ≤ x1.toInt) ∨ (¬ x3 = 0 ∧ x1.toInt ≤ 3 ∧ (0 ≤ x2.toInt ∧ x2.toInt ≤ (I0 1).toInt) ∧ (I 12).toInt ≤ x2.toInt ∧ kFt f1 (I0 1).toInt x1.toInt.toNat x2.toInt)))) → v_M_code_29 J0 64 f1 2 f2 10 10 320 320 320 320 10 Z1 N I g3 g4 g5 g6 g7 g8 g9 x1 x2 x3 → v_M_code_29 J0 64 f1 2 f2 10 10 320 320 320 320 10 Z2 N I g3 g4 g5 g6 g7 g8 g9 x1 x2 x3 := by
    intro N
    induction N with
    | zero => intro _ _ _ _ _ _ _ _ _ _ _ _ _ _ h; exact h.elim
    | succ N ih =>
      intro I g3 g4 g5 g6 g7 g8 g9 x1 x2 x3 e3 hx1 hW
      have gbad : 0 ≤ (I 13).toInt → v_M_code_116 I J0 64 f1 2 f2 10 g3 10 g4 320 g5 320 g6 320 g7 320 g8 10 g9 x1 Z1 → v_M_code_116 I J0 64 f1 2 f2 10 g3 10 g4 320 g5 320 g6 320 g7 320 g8 10 g9 x1 Z2 := fun q => x_M_code_116 (fI_ite (fun c => by rw [zle_lt, z32_0] at c; omega) (fun _ => hN (I 13) _ q))
      rcases hW with hW | ⟨hw, hi, hR, hW⟩
      · refine x_M_code_29 (fI_ite (fun _ => gbad hW) (fun _ => fI_ite (fun _ => gbad hW) (fun c => ?_)))
        exact absurd (zle_le.2 (by rw [z32_0]; exact hW)) c
      rcases hW with ⟨h3, h11⟩ | ⟨h3, h13, hx2, hi2, hF⟩
      · refine x_M_code_29 (fI_ite (fun _ => x_M_code_116 (fI_ite (fun _ => fI_and (fun _ => fI_ex (fun M => gm_code138 (e := (I0 1).toInt) hi hx1 hR (fun k3 k4 k5 k6 k7 k8 k9 hk => hB I _ k3 k4 k5 k6 k7 k8 k9 x1 rfl ⟨h11, hx1.2⟩ hi hk) M g3 g4 g9 0 (by rw [z32_0]; omega) (fun k hk => by rw [z32_0] at hk; omega) (fun k _ => ⟨rfl, rfl, rfl⟩)))) (fun c => ?_))) (fun c => absurd h3 c))
        exact absurd (zle_lt.2 (by rw [z32_0]; omega)) c
      · refine x_M_code_29 (fI_ite (fun c => absurd c h3) (fun _ => fI_ite (fun c => ?_) (fun _ => f_M_endOf ⟨hx2.1, by rw [e3]; exact hx2.2, by rw [e3]; exact h6⟩ (fun s hs => x_M_code_45 ?_))))
        · rw [zle_le, z32_0] at c; omega
        rw [e3] at hs
        refine gm_readSection ⟨hx1.1, h13⟩ ⟨hx2.1, hs.2.1⟩ (by rw [e3]; exact hs.2.2) (by rw [e3]; exact h6) ⟨hi.1, hi2⟩ hw (by rw [e3]; exact hs.1) (fun I2 k3 k4 k5 k6 k7 k8 k9 q1 q2 q3 q4 => x_M_code_55 ?_)
        rw [e3] at q1 q2
        have ex1 : (x1 + 1).toInt = x1.toInt + 1 := zadd1 (by simp only [Int32.reduceToInt]; omega) (by simp only [Int32.reduceToInt]; omega)
        have es1 : (s + 1).toInt = s.toInt + 1 := zadd1 (by simp only [Int32.reduceToInt]; omega) (by simp only [Int32.reduceToInt]; omega)
        have nxt : ∀ (J : Nat → Int32) (t : Int32), (J 3).toInt = (I0 1).toInt → (0 ≤ (J 13).toInt ∨ ((J 13).toInt = -1 ∧ (J 12 = I2 12) ∧ 0 ≤ (I2 12).toInt ∧ (I2 12).toInt ≤ s.toInt ∧ rdS f1 (I0 1).toInt (x1.toInt + 1) (I2 12).toInt 5 160 k3 k4 k9 k5 k6 k7 k8 ∧ (t = 0 ∨ (¬ t = 0 ∧ x1.toInt + 1 ≤ 3 ∧ s.toInt < (I0 1).toInt)))) → v_M_code_108 J J0 64 f1 2 f2 10 k3 10 k4 320 k5 320 k6 320 k7 320 k8 10 k9 (x1 + 1) t s (v_M_code_29 J0 64 f1 2 f2 10 10 320 320 320 320 10 Z1 N) Z1 → v_M_code_108 J J0 64 f1 2 f2 10 k3 10 k4 320 k5 320 k6 320 k7 320 k8 10 k9 (x1 + 1) t s (v_M_code_29 J0 64 f1 2 f2 10 10 320 320 320 320 10 Z2 N) Z2 := fun J t j3 hJ => by
          refine x_M_code_108 (ih J k3 k4 k5 k6 k7 k8 k9 (x1 + 1) (s + 1) t j3 (by omega) ?_)
          rcases hJ with q | ⟨j1, j2, j4, j5, j6, j7⟩
          · exact Or.inl q
          · rw [ex1, es1]
            refine Or.inr ⟨j1, by rw [j2]; omega, by rw [j2]; exact j6, ?_⟩
            rcases j7 with z | ⟨z1, z2, z3⟩
            · exact Or.inl ⟨z, by omega⟩
            · refine Or.inr ⟨z1, z2, by omega, by rw [j2]; omega, ?_⟩
              rw [show (x1.toInt + 1).toNat = x1.toInt.toNat + 1 by omega]
              exact ⟨x2.toInt, s.toInt, hF, hs.1, z3, rfl⟩
        have st : (I2 13).toInt = -1 → 0 ≤ (I2 12).toInt ∧ (I2 12).toInt ≤ s.toInt ∧ rdS f1 (I0 1).toInt (x1.toInt + 1) (I2 12).toInt 5 160 k3 k4 k9 k5 k6 k7 k8 := fun z => by
          obtain ⟨_, y1, y2⟩ := q2.resolve_left (by omega)
          have y3 := y2.1
          have b1 : (160 + I 12).toInt = 160 + (I 12).toInt := zadd1 (by simp only [Int32.reduceToInt]; omega) (by simp only [Int32.reduceToInt]; omega)
          have b2 : (160 + I2 12).toInt = 160 + (I2 12).toInt := zadd1 (by simp only [Int32.reduceToInt]; omega) (by simp only [Int32.reduceToInt]; omega)
          exact ⟨by omega, y3.2, rdS_s hR ⟨hx1.1, h13⟩ hi.1 hF hs.1 q1.2 y1 y2 q3 b1 q4 b2⟩
        have g72 : ∀ t : Int32, (¬ t = 0 → s.toInt < (I0 1).toInt) → v_M_code_72 I2 J0 64 f1 2 f2 10 k3 10 k4 320 k5 320 k6 320 k7 320 k8 10 k9 (x1 + 1) s t (v_M_code_29 J0 64 f1 2 f2 10 10 320 320 320 320 10 Z1 N) Z1 → v_M_code_72 I2 J0 64 f1 2 f2 10 k3 10 k4 320 k5 320 k6 320 k7 320 k8 10 k9 (x1 + 1) s t (v_M_code_29 J0 64 f1 2 f2 10 10 320 320 320 320 10 Z2 N) Z2 := fun t ht => by
          have g102 : v_M_code_102 I2 J0 64 f1 2 f2 10 k3 10 k4 320 k5 320 k6 320 k7 320 k8 10 k9 (x1 + 1) t s (v_M_code_29 J0 64 f1 2 f2 10 10 320 320 320 320 10 Z1 N) Z1 → v_M_code_102 I2 J0 64 f1 2 f2 10 k3 10 k4 320 k5 320 k6 320 k7 320 k8 10 k9 (x1 + 1) t s (v_M_code_29 J0 64 f1 2 f2 10 10 320 320 320 320 10 Z2 N) Z2 := x_M_code_102 (nxt _ t q1.1 (Or.inl (show 0 ≤ s.toInt by omega)))
          refine x_M_code_72 (fI_ite (fun c => nxt I2 t q1.1 (Or.inl (by rw [zle_le, z32_0] at c; exact c))) (fun c => ?_))
          have w2 : (I2 13).toInt = -1 := by
            rw [zle_le, z32_0] at c
            exact (q2.resolve_left c).1
          obtain ⟨s1, s2, s3⟩ := st w2
          refine fI_ite (fun d => nxt I2 t q1.1 (Or.inr ⟨w2, rfl, s1, s2, s3, Or.inl d⟩)) (fun d => fI_ite (fun _ => g102) (fun d4 => fI_and (fun _ => fI_ite' (fun _ => nxt I2 t q1.1 (Or.inr ⟨w2, rfl, s1, s2, s3, Or.inr ⟨d, ?_, ht d⟩⟩)) (fun _ => g102))))
          have : ¬ (x1 + 1).toInt = 4 := fun z => d4 (zle_eq.2 (z.trans (by decide)))
          omega
        dsimp only
        refine fI_ite (fun c => g72 0 (fun z => absurd rfl z)) (fun c => g72 1 (fun _ => ?_))
        rw [zle_le, q1.1] at c; omega
  refine x_M_code_0 (fI_ex (fun N => lp N _ f3 f4 f5 f6 f7 f8 f9 0 0 1 rfl (by decide) (Or.inr ⟨by show (-1 : Int32).toInt = -1; decide, ?_, fun k hk => ?_, Or.inr ⟨by decide, by decide, ⟨by decide, by rw [z32_0]; exact h0⟩, ?_, ?_⟩⟩)))
  · show 0 ≤ (0 : Int32).toInt ∧ (0 : Int32).toInt ≤ 64; decide
  · rw [z32_0] at hk; omega
  · show (0 : Int32).toInt ≤ (0 : Int32).toInt; decide
  · rw [z32_0]; rfl
end
