/-! the sections of the class, read -/
def sS4 (j : Nat) (A B C D : Nat → Int32) : Nat → Int32 := if j = 0 then A else if j = 1 then B else if j = 2 then C else D
section
variable {I0 I1 I2 I3 I4 I5 I6 I7 f1 f7 f8 f9 : Nat → Int32} {x1 x2 x3 : Int32}
theorem g_readSection {Z1 Z2 : Int32 → (Nat → Int32) × (Nat → Int32) × (Nat → Int32) × (Nat → Int32) × (Nat → Int32) × (Nat → Int32) × (Nat → Int32) × (Nat → Int32) × Nat → Prop} (hc : qC f7) (hy : yS f7 (I0 1).toInt x3.toInt x2.toInt) (h2 : 0 ≤ x2.toInt) (h23 : x2.toInt ≤ x3.toInt) (h3 : x3.toInt ≤ (I0 1).toInt) (h6 : (I0 1).toInt ≤ 64) (hx : 0 ≤ x1.toInt ∧ x1.toInt ≤ 3) (h11 : (I1 1).toInt = x1.toInt) (hn0 : 0 ≤ (I1 4).toInt) (hn2 : (I1 4).toInt ≤ x2.toInt) (hN : ∀ r u, 0 ≤ r.toInt → Z1 r u → Z2 r u)
    (hB : ∀ (j : Nat) (J0 J1 A B C D g8 g9 : Nat → Int32), j < 4 → (j : Int) = x1.toInt → secD f7 (I0 1).toInt x1.toInt x2.toInt x3.toInt (I1 4).toInt (J1 4).toInt (sS4 j A B C D) g8 g9 f8 f9 → (∀ k : Nat, k < 4 → ¬ k = j → sS4 k A B C D = sS4 k I3 I4 I5 I6) → (J0 1).toInt = (I0 1).toInt → (J1 1).toInt = (I1 1).toInt + 1 → 0 ≤ (J1 4).toInt → (J1 4).toInt ≤ x3.toInt → Z1 (-1) (J0, J1, A, B, C, D, g8, g9, j) → Z2 (-1) (J0, J1, A, B, C, D, g8, g9, j)) :
    v_Reader_readSection_0 I0 I1 I3 I4 I5 I6 64 f7 64 f8 64 f9 x1 x2 x3 Z1 → v_Reader_readSection_0 I0 I1 I3 I4 I5 I6 64 f7 64 f8 64 f9 x1 x2 x3 Z2 := by
  have e1 : (I1 1 + 1).toInt = (I1 1).toInt + 1 := zadd1 (by simp only [Int32.reduceToInt]; omega) (by simp only [Int32.reduceToInt]; omega)
  have ej : ∀ m : Nat, (I1 1).toNatClampNeg = m → (m : Int) = x1.toInt := fun m q => by rw [zcl] at q; omega
  refine x_Reader_readSection_0 (x_Code_open_0 (fI_ite (fun c => ?_) (fun c => fI_ite (fun c2 => fI_and (fun _ => fI_all (fI_4 (fun q => ?_) (fun q => ?_) (fun q => ?_) (fun q => ?_)))) (fun c2 => ?_))))
  · simp only [zle_lt, Int32.reduceToInt] at c; exact absurd c (by omega)
  · refine x_Section_clear_0 (x_Code_open_43 (fI_opt (fun h => by cases h) (fun j hj => ?_)))
    cases hj
    exact gs_sec0 (I1 := zu I1 1 (I1 1 + 1)) hc ⟨⟨rfl, rfl⟩, ⟨z32_0, z32_0, z32_0, z32_0, z32_0, z32_0⟩, z32_0, z32_0, z32_0, z32_0, z32_0, z32_0⟩ hy h2 h23 h3 h6 hn0 hn2 hN (fun J0 J1 T g8 g9 hD q1 q2 q3 q4 => hB 0 J0 J1 T I4 I5 I6 g8 g9 (by decide) (ej 0 q) hD (fun k hk hn => by match k, hk, hn with | 0, _, hn => exact absurd rfl hn | 1, _, _ => rfl | 2, _, _ => rfl | 3, _, _ => rfl) q1 (q2.trans e1) q3 q4)
  · refine x_Section_clear_0 (x_Code_open_43 (fI_opt (fun h => by cases h) (fun j hj => ?_)))
    cases hj
    exact gs_sec1 (I1 := zu I1 1 (I1 1 + 1)) hc ⟨⟨rfl, rfl⟩, ⟨z32_0, z32_0, z32_0, z32_0, z32_0, z32_0⟩, z32_0, z32_0, z32_0, z32_0, z32_0, z32_0⟩ hy h2 h23 h3 h6 hn0 hn2 hN (fun J0 J1 T g8 g9 hD q1 q2 q3 q4 => hB 1 J0 J1 I3 T I5 I6 g8 g9 (by decide) (ej 1 q) hD (fun k hk hn => by match k, hk, hn with | 0, _, _ => rfl | 1, _, hn => exact absurd rfl hn | 2, _, _ => rfl | 3, _, _ => rfl) q1 (q2.trans e1) q3 q4)
  · refine x_Section_clear_0 (x_Code_open_43 (fI_opt (fun h => by cases h) (fun j hj => ?_)))
    cases hj
    exact gs_sec2 (I1 := zu I1 1 (I1 1 + 1)) hc ⟨⟨rfl, rfl⟩, ⟨z32_0, z32_0, z32_0, z32_0, z32_0, z32_0⟩, z32_0, z32_0, z32_0, z32_0, z32_0, z32_0⟩ hy h2 h23 h3 h6 hn0 hn2 hN (fun J0 J1 T g8 g9 hD q1 q2 q3 q4 => hB 2 J0 J1 I3 I4 T I6 g8 g9 (by decide) (ej 2 q) hD (fun k hk hn => by match k, hk, hn with | 0, _, _ => rfl | 1, _, _ => rfl | 2, _, hn => exact absurd rfl hn | 3, _, _ => rfl) q1 (q2.trans e1) q3 q4)
  · refine x_Section_clear_0 (x_Code_open_43 (fI_opt (fun h => by cases h) (fun j hj => ?_)))
    cases hj
    exact gs_sec3 (I1 := zu I1 1 (I1 1 + 1)) hc ⟨⟨rfl, rfl⟩, ⟨z32_0, z32_0, z32_0, z32_0, z32_0, z32_0⟩, z32_0, z32_0, z32_0, z32_0, z32_0, z32_0⟩ hy h2 h23 h3 h6 hn0 hn2 hN (fun J0 J1 T g8 g9 hD q1 q2 q3 q4 => hB 3 J0 J1 I3 I4 I5 T g8 g9 (by decide) (ej 3 q) hD (fun k hk hn => by match k, hk, hn with | 0, _, _ => rfl | 1, _, _ => rfl | 2, _, _ => rfl | 3, _, hn => exact absurd rfl hn) q1 (q2.trans e1) q3 q4)
  · have n4 : (nI 4).toInt = 4 := by decide
    rw [zle_lt, n4] at c2; exact absurd (show (I1 1).toInt < 4 by omega) c2
/-- the sections below i, read -/
def rdI (f : Nat → Int32) (e i n : Int) (A B C D K M : Nat → Int32) : Prop := ∀ k : Nat, (k : Int) < i → ∃ (L : List (Int × Int)) (pc : Int), kLs f e k (sS4 k A B C D 0).toInt L pc ∧ secE (sS4 k A B C D) K M L pc ∧ (sS4 k A B C D 2).toInt ≤ n
theorem rdI_s {f A B C D A2 B2 C2 D2 K M K2 M2 : Nat → Int32} {e i p to n n2 : Int} {j : Nat} (h : rdI f e i n A B C D K M) (h4 : j < 4) (hj : (j : Int) = i) (hF : kFt f e j p) (hy : yS f e to p) (hD : secD f e i p to n n2 (sS4 j A2 B2 C2 D2) K2 M2 K M) (ho : ∀ k : Nat, k < 4 → ¬ k = j → sS4 k A2 B2 C2 D2 = sS4 k A B C D) : rdI f e (i + 1) n2 A2 B2 C2 D2 K2 M2 := by
  intro k hk
  obtain ⟨⟨L, pc, d1, d2⟩, ⟨d3, d4, d5⟩, d6⟩ := hD
  have d2b := d2.2.1
  by_cases c : k = j
  · subst c
    subst hj
    exact ⟨L, pc, ⟨by omega, p, to, hF, hy, d1⟩, d2, by omega⟩
  · obtain ⟨L1, pc1, a1, a2, a3⟩ := h k (by omega)
    rw [ho k (by omega) c]
    exact ⟨L1, pc1, a1, secE_g a2 (fun q hq => d6 q (by omega)), by omega⟩
theorem g_read {Z1 Z2 : Int32 → (Nat → Int32) × (Nat → Int32) × (Nat → Int32) × (Nat → Int32) × (Nat → Int32) × (Nat → Int32) × (Nat → Int32) × (Nat → Int32) × Nat → Prop} (hc : qC f1) (hx0 : 0 ≤ x2.toInt) (hx6 : x2.toInt ≤ 64) (hN : ∀ r u, 0 ≤ r.toInt → Z1 r u → Z2 r u)
    (hB : ∀ (J0 J1 A B C D g8 g9 : Nat → Int32) (j : Nat), rdI f1 x2.toInt (J1 1).toInt (J1 4).toInt A B C D g8 g9 → (1 ≤ (J1 1).toInt ∧ (J1 1).toInt ≤ 4) → (J1 4).toInt ≤ 64 → Z1 (-1) (J0, J1, A, B, C, D, g8, g9, j) → Z2 (-1) (J0, J1, A, B, C, D, g8, g9, j)) :
    v_Reader_read_0 I0 64 f1 I2 I4 I5 I6 I7 64 f8 64 f9 x2 Z1 → v_Reader_read_0 I0 64 f1 I2 I4 I5 I6 I7 64 f8 64 f9 x2 Z2 := by
  have n64 : (nI 64).toInt = 64 := by decide
  have eln : (zmin x2 (nI 64)).toInt = x2.toInt := by
    rw [qmin, n64]; split <;> omega
  have st : ∀ (I0 I2 I4 I5 I6 I7 f8 f9 J0 J1 A B C D g8 g9 : Nat → Int32) (x3 x4 x5 : Int32) (j : Nat), rdI f1 x2.toInt x4.toInt (I2 4).toInt I4 I5 I6 I7 f8 f9 → (I0 1).toInt = x2.toInt → (I2 1).toInt = x4.toInt → kFt f1 x2.toInt x4.toInt.toNat x3.toInt → yS f1 (I0 1).toInt x5.toInt x3.toInt → j < 4 → (j : Int) = x4.toInt → secD f1 (I0 1).toInt x4.toInt x3.toInt x5.toInt (I2 4).toInt (J1 4).toInt (sS4 j A B C D) g8 g9 f8 f9 → (∀ k : Nat, k < 4 → ¬ k = j → sS4 k A B C D = sS4 k I4 I5 I6 I7) → (J1 1).toInt = (I2 1).toInt + 1 → rdI f1 x2.toInt (J1 1).toInt (J1 4).toInt A B C D g8 g9 := by
    intro I0 I2 I4 I5 I6 I7 f8 f9 J0 J1 A B C D g8 g9 x3 x4 x5 j hR e0 e1 hF hy h4 hj hD ho e2
    rw [e2, e1]
    rw [e0] at hy hD
    exact rdI_s hR h4 hj (by rw [show j = x4.toInt.toNat by omega]; exact hF) hy hD ho
  have lp : ∀ (N : Nat) (I0 : Nat → Int32) (e0 : Nat) (I2 I4 I5 I6 I7 f8 f9 : Nat → Int32) (x3 x4 : Int32), rdI f1 x2.toInt x4.toInt (I2 4).toInt I4 I5 I6 I7 f8 f9 → (I0 1).toInt = x2.toInt → (I2 1).toInt = x4.toInt → kFt f1 x2.toInt x4.toInt.toNat x3.toInt → (0 ≤ x4.toInt ∧ x4.toInt ≤ 3) → (0 ≤ x3.toInt ∧ x3.toInt ≤ x2.toInt) → (0 ≤ (I2 4).toInt ∧ (I2 4).toInt ≤ x3.toInt) → v_Reader_read_27v1 64 f1 64 64 Z1 N I0 e0 I2 I4 I5 I6 I7 f8 f9 x3 x4 → v_Reader_read_27v1 64 f1 64 64 Z2 N I0 e0 I2 I4 I5 I6 I7 f8 f9 x3 x4 := by
    intro N
    induction N with
    | zero => intro _ _ _ _ _ _ _ _ _ _ _ _ _ _ _ _ _ _ h; exact h.elim
    | succ N ih =>
      intro I0 e0 I2 I4 I5 I6 I7 f8 f9 x3 x4 hR hl h21 hF h4 h3 hn
      refine x_Reader_read_27v1 (fI_ite (fun c => ?_) (fun c => h_Reader_sectionEnd ⟨hc, h3.1, by omega, by omega⟩ (fun x5 u hx5 => x_Reader_read_38v1 (g_readSection hc hx5.2 h3.1 hx5.1.2.1 hx5.1.2.2 (by omega) h4 h21 hn.1 hn.2 (fun r u hr => x_Reader_read_49v1 (fI_ite (fun c => ?_) (fun _ => hN r _ hr))) (fun j J0 J1 A B C D g8 g9 j4 hj hD ho q1 q2 q3 q4 => ?_)))))
      · simp only [zle_le, Int32.reduceToInt] at c; exact absurd c (by omega)
      · have : r.toInt = -1 := by rw [c]; decide
        exact absurd hr (by omega)
      · have hR2 := st I0 I2 I4 I5 I6 I7 f8 f9 J0 J1 A B C D g8 g9 x3 x4 x5 j hR hl h21 hF hx5.2 j4 hj hD ho q2
        obtain ⟨⟨b0, b1, b2⟩, hyS⟩ := hx5
        have nx : ∀ e0 : Nat, x5.toInt < (J0 1).toInt → ¬ x4 = 3 → v_Reader_read_27v1 64 f1 64 64 Z1 N J0 e0 J1 A B C D g8 g9 (x5 + 1) (x4 + 1) → v_Reader_read_27v1 64 f1 64 64 Z2 N J0 e0 J1 A B C D g8 g9 (x5 + 1) (x4 + 1) := fun e0 c c3 => by
          have c3 : ¬ x4.toInt = 3 := fun q => c3 (zle_eq.2 (q.trans (by decide)))
          have e5 : (x5 + 1).toInt = x5.toInt + 1 := zadd1 (by simp only [Int32.reduceToInt]; omega) (by simp only [Int32.reduceToInt]; omega)
          have e4 : (x4 + 1).toInt = x4.toInt + 1 := zadd1 (by simp only [Int32.reduceToInt]; omega) (by simp only [Int32.reduceToInt]; omega)
          refine ih J0 e0 J1 A B C D g8 g9 (x5 + 1) (x4 + 1) ?_ (q1.trans hl) (by omega) ?_ (by omega) (by omega) ⟨q3, by omega⟩
          · rw [e4]; rw [q2, h21] at hR2; exact hR2
          · rw [e4, e5, show (x4.toInt + 1).toNat = x4.toInt.toNat + 1 by omega]
            rw [hl] at hyS
            exact ⟨x3.toInt, x5.toInt, hF, hyS, by omega, rfl⟩
        have ps : ∀ e0 : Nat, Z1 x5 (J0, J1, A, B, C, D, g8, g9, e0) → Z2 x5 (J0, J1, A, B, C, D, g8, g9, e0) := fun e0 => hN x5 _ b0
        refine x_Reader_read_49v1 (fI_ite (fun _ => fI_ite (fun c => ?_) (fun c => hB J0 J1 A B C D g8 g9 j hR2 (by omega) (by omega))) (fun c => absurd rfl c))
        rw [zle_lt] at c
        exact fI_4 (fun _ => fI_ite (fun _ => ps 0) (fun _ => fI_ite' (fun d => nx 0 c d) (fun _ => ps 0))) (fun _ => fI_ite (fun _ => ps 1) (fun _ => fI_ite' (fun d => nx 1 c d) (fun _ => ps 1))) (fun _ => fI_ite (fun _ => ps 2) (fun _ => fI_ite' (fun d => nx 2 c d) (fun _ => ps 2))) (fun _ => fI_ite (fun _ => ps 3) (fun _ => fI_ite' (fun d => nx 3 c d) (fun _ => ps 3)))
  have lp0 : ∀ (N : Nat) (I0 I2 I4 I5 I6 I7 f8 f9 : Nat → Int32) (x3 x4 : Int32), rdI f1 x2.toInt x4.toInt (I2 4).toInt I4 I5 I6 I7 f8 f9 → (I0 1).toInt = x2.toInt → (I2 1).toInt = x4.toInt → kFt f1 x2.toInt x4.toInt.toNat x3.toInt → (0 ≤ x4.toInt ∧ x4.toInt ≤ 3) → (0 ≤ x3.toInt ∧ x3.toInt ≤ x2.toInt) → (0 ≤ (I2 4).toInt ∧ (I2 4).toInt ≤ x3.toInt) → v_Reader_read_27 64 f1 64 64 Z1 N I0 I2 I4 I5 I6 I7 f8 f9 x3 x4 → v_Reader_read_27 64 f1 64 64 Z2 N I0 I2 I4 I5 I6 I7 f8 f9 x3 x4 := by
    intro N
    cases N with
    | zero => intro _ _ _ _ _ _ _ _ _ _ _ _ _ _ _ _ _ h; exact h.elim
    | succ N =>
      intro I0 I2 I4 I5 I6 I7 f8 f9 x3 x4 hR hl h21 hF h4 h3 hn
      refine x_Reader_read_27 (fI_ite (fun c => ?_) (fun c => h_Reader_sectionEnd ⟨hc, h3.1, by omega, by omega⟩ (fun x5 u hx5 => x_Reader_read_38 (g_readSection hc hx5.2 h3.1 hx5.1.2.1 hx5.1.2.2 (by omega) h4 h21 hn.1 hn.2 (fun r u hr => x_Reader_read_49 (fI_ite (fun c => ?_) (fun _ => hN r _ hr))) (fun j J0 J1 A B C D g8 g9 j4 hj hD ho q1 q2 q3 q4 => ?_)))))
      · exact fun q => q
      · have : r.toInt = -1 := by rw [c]; decide
        exact absurd hr (by omega)
      · have hR2 := st I0 I2 I4 I5 I6 I7 f8 f9 J0 J1 A B C D g8 g9 x3 x4 x5 j hR hl h21 hF hx5.2 j4 hj hD ho q2
        obtain ⟨⟨b0, b1, b2⟩, hyS⟩ := hx5
        have nx : ∀ e0 : Nat, x5.toInt < (J0 1).toInt → ¬ x4 = 3 → (∃ N, v_Reader_read_27v1 64 f1 64 64 Z1 N J0 e0 J1 A B C D g8 g9 (x5 + 1) (x4 + 1)) → ∃ N, v_Reader_read_27v1 64 f1 64 64 Z2 N J0 e0 J1 A B C D g8 g9 (x5 + 1) (x4 + 1) := fun e0 c c3 => fI_ex (fun N => by
          have c3 : ¬ x4.toInt = 3 := fun q => c3 (zle_eq.2 (q.trans (by decide)))
          have e5 : (x5 + 1).toInt = x5.toInt + 1 := zadd1 (by simp only [Int32.reduceToInt]; omega) (by simp only [Int32.reduceToInt]; omega)
          have e4 : (x4 + 1).toInt = x4.toInt + 1 := zadd1 (by simp only [Int32.reduceToInt]; omega) (by simp only [Int32.reduceToInt]; omega)
          refine lp N J0 e0 J1 A B C D g8 g9 (x5 + 1) (x4 + 1) ?_ (q1.trans hl) (by omega) ?_ (by omega) (by omega) ⟨q3, by omega⟩
          · rw [e4]; rw [q2, h21] at hR2; exact hR2
          · rw [e4, e5, show (x4.toInt + 1).toNat = x4.toInt.toNat + 1 by omega]
            rw [hl] at hyS
            exact ⟨x3.toInt, x5.toInt, hF, hyS, by omega, rfl⟩)
        have ps : ∀ e0 : Nat, Z1 x5 (J0, J1, A, B, C, D, g8, g9, e0) → Z2 x5 (J0, J1, A, B, C, D, g8, g9, e0) := fun e0 => hN x5 _ b0
        refine x_Reader_read_49 (fI_ite (fun _ => fI_ite (fun c => ?_) (fun c => hB J0 J1 A B C D g8 g9 j hR2 (by omega) (by omega))) (fun c => absurd rfl c))
        rw [zle_lt] at c
        exact fI_4 (fun _ => fI_ite (fun _ => ps 0) (fun _ => fI_ite' (fun d => nx 0 c d) (fun _ => ps 0))) (fun _ => fI_ite (fun _ => ps 1) (fun _ => fI_ite' (fun d => nx 1 c d) (fun _ => ps 1))) (fun _ => fI_ite (fun _ => ps 2) (fun _ => fI_ite' (fun d => nx 2 c d) (fun _ => ps 2))) (fun _ => fI_ite (fun _ => ps 3) (fun _ => fI_ite' (fun d => nx 3 c d) (fun _ => ps 3)))
  refine x_Reader_read_0 (x_Code_clear_0 (x_Reader_read_22 (fI_ex (fun N => lp0 N _ _ I4 I5 I6 I7 f8 f9 0 0 (fun k hk => ?_) eln z32_0 ?_ (by decide) ⟨by decide, by rw [z32_0]; exact hx0⟩ ⟨?_, ?_⟩))))
  · rw [z32_0] at hk; omega
  · rw [z32_0]; rfl
  · show (0 : Int) ≤ (0 : Int32).toInt; decide
  · show (0 : Int32).toInt ≤ (0 : Int32).toInt; decide
end
