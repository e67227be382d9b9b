/-! readSection of the reference, whole -/
section
variable {I0 f1 f2 f3 f4 f5 f6 f7 f8 : Nat → Int32} {J0 : Nat → Int64} {x1 x2 x3 : Int32}
theorem gm_readSection {Z1 Z2 : (Nat → Int32) × (Nat → Int32) × (Nat → Int32) × (Nat → Int32) × (Nat → Int32) × (Nat → Int32) × (Nat → Int32) × (Nat → Int32) → Prop} (h1 : 0 ≤ x1.toInt ∧ x1.toInt ≤ 3) (h2 : 0 ≤ x2.toInt ∧ x2.toInt ≤ x3.toInt) (h3 : x3.toInt ≤ (I0 3).toInt) (he : (I0 3).toInt ≤ 64) (h0 : 0 ≤ (I0 12).toInt ∧ (I0 12).toInt ≤ x2.toInt) (hw : (I0 13).toInt = -1) (hyS : yS f1 (I0 3).toInt x3.toInt x2.toInt)
    (hZ : ∀ I g2 g3 g4 g5 g6 g7 g8 : Nat → Int32, ((I 3).toInt = (I0 3).toInt ∧ kFm f2 g2 x1) → (0 ≤ (I 13).toInt ∨ ((I 13).toInt = -1 ∧ rFr (I0 12).toInt f4 f5 f6 f7 g4 g5 g6 g7 ∧ rEnd f1 (I0 3).toInt x1.toInt x2.toInt x3.toInt (I0 12).toInt (I 12).toInt (g2 (5 + x1).toNatClampNeg).toInt g4 g5 g6 g7)) → g3 = upd f3 (5 + x1).toNatClampNeg (160 + I0 12) → g8 = upd f8 (5 + x1).toNatClampNeg (160 + I 12) → Z1 (I, g2, g3, g4, g5, g6, g7, g8) → Z2 (I, g2, g3, g4, g5, g6, g7, g8)) :
    v_M_readSection_0 I0 J0 64 f1 10 f2 10 f3 320 f4 320 f5 320 f6 320 f7 10 f8 x1 x2 x3 Z1 → v_M_readSection_0 I0 J0 64 f1 10 f2 10 f3 320 f4 320 f5 320 f6 320 f7 10 f8 x1 x2 x3 Z2 := by
  refine x_M_readSection_0 (f_M_kindOf ⟨h2.1, h2.2, h3, he⟩ (fun x4 hK => ?_))
  have fr0 : kFm f2 (upd f2 (5 + x1).toNatClampNeg x4) x1 := fun j hj => pk_un hj
  have r0 : rFr (I0 12).toInt f4 f5 f6 f7 f4 f5 f6 f7 := fun _ _ => ⟨rfl, rfl, rfl, rfl⟩
  have g107 : ∀ (s0 : Int32), ((s0 = 0 ∧ ¬ x1.toInt = 3) ∨ (¬ s0 = 0 ∧ x1.toInt = 3)) → ∀ (I : Nat → Int32), (I 3).toInt = (I0 3).toInt → (0 ≤ (I 13).toInt ∨ ((I 13).toInt = -1 ∧ rsI f1 I (upd f2 (5 + x1).toNatClampNeg x4) f4 f5 f6 f7 (I0 3).toInt x1.toInt x2.toInt x3.toInt x4.toInt (I0 12).toInt (5 + x1).toNatClampNeg)) → ∀ N, v_M_readSection_107 J0 64 f1 10 10 (upd f3 (5 + x1).toNatClampNeg (160 + I0 12)) 320 320 320 320 10 f8 x1 x3 x4 s0 (I0 12) Z1 N I (upd f2 (5 + x1).toNatClampNeg x4) f4 f5 f6 f7 → v_M_readSection_107 J0 64 f1 10 10 (upd f3 (5 + x1).toNatClampNeg (160 + I0 12)) 320 320 320 320 10 f8 x1 x3 x4 s0 (I0 12) Z2 N I (upd f2 (5 + x1).toNatClampNeg x4) f4 f5 f6 f7 := fun s0 hs I e3 hI N => by
    refine gm_rsl (x2 := x2) (e := (I0 3).toInt) (F2 := f2) (F4 := f4) (F5 := f5) (F6 := f6) (F7 := f7) hs h1 he h3 h0.1 (fun J g2 g4 g5 g6 g7 q1 q2 => hZ J g2 _ g4 g5 g6 g7 _ q1 q2 rfl rfl) N I _ f4 f5 f6 f7 ⟨e3, fr0⟩ ?_
    rcases hI with q | ⟨q1, q2⟩
    · exact Or.inl q
    · exact Or.inr ⟨q1, r0, q2⟩
  have nz : ∀ z : Int32, ¬ z = 0 → ¬ z.toInt = 0 := fun z q w => q (zle_eq.2 (w.trans (by decide)))
  have g97 : ∀ (s0 : Int32), ((s0 = 0 ∧ ¬ x1.toInt = 3) ∨ (¬ s0 = 0 ∧ x1.toInt = 3)) → (x4 = 0 → s0 = 0) → v_M_readSection_97 (zu (zu (zu (zu (zu (zu I0 14 x2) 15 (0 : Int32)) 16 (0 : Int32)) 17 (0 : Int32)) 18 (0 : Int32)) 19 (0 : Int32)) J0 64 f1 10 (upd f2 (5 + x1).toNatClampNeg x4) 10 (upd f3 (5 + x1).toNatClampNeg (160 + I0 12)) 320 f4 320 f5 320 f6 320 f7 10 f8 x1 x3 x4 s0 (I0 12) Z1 → v_M_readSection_97 (zu (zu (zu (zu (zu (zu I0 14 x2) 15 (0 : Int32)) 16 (0 : Int32)) 17 (0 : Int32)) 18 (0 : Int32)) 19 (0 : Int32)) J0 64 f1 10 (upd f2 (5 + x1).toNatClampNeg x4) 10 (upd f3 (5 + x1).toNatClampNeg (160 + I0 12)) 320 f4 320 f5 320 f6 320 f7 10 f8 x1 x3 x4 s0 (I0 12) Z2 := fun s0 hs hx4 => by
    refine x_M_readSection_97 (fI_ite' (fun c => fI_ex (g107 s0 hs _ rfl (Or.inr ⟨hw, Or.inr ?_⟩))) (fun c => fI_ex (g107 s0 hs _ rfl (Or.inr ⟨hw, Or.inl ?_⟩))))
    · have hK := hK.resolve_left (fun q => nz x4 c q.1)
      show rY f1 f4 f5 _ _ _ _ x2.toInt (I0 12).toInt (I0 12).toInt _ (0 : Int32).toInt (upd f2 (5 + x1).toNatClampNeg x4 (5 + x1).toNatClampNeg).toInt (0 : Int32).toInt (0 : Int32).toInt (0 : Int32).toInt (0 : Int32).toInt ∧ rL f1 f4 f5 f6 f7 _ _ _ _ x2.toInt (I0 12).toInt (I0 12).toInt _ (upd f2 (5 + x1).toNatClampNeg x4 (5 + x1).toNatClampNeg).toInt (0 : Int32).toInt (0 : Int32).toInt (0 : Int32).toInt (0 : Int32).toInt
      rw [pk_us, z32_0]
      exact ⟨rY_0 hK.1 hK.2 hyS h2.1 (by omega) h0, rL_0 hK.1 hK.2⟩
    · have hG : x3.toInt - x2.toInt = 7 ∧ kW f1 (I0 3).toInt x2.toInt k_gen := by
        rcases hK with q | ⟨_, kp, q⟩
        · exact q.2
        · have r := kK_rng q
          rw [c, z32_0] at r; omega
      have n3 : ¬ x1.toInt = 3 := by
        rcases hs with q | q
        · exact q.2
        · exact absurd (hx4 c) q.1
      refine ⟨by rw [c]; decide, Int.le_refl _, ?_, rfl, by omega, Or.inl ⟨hG, Or.inr ⟨n3, rfl, rfl, rfl⟩⟩⟩
      rw [pk_us, c]; decide
  have g18 : ∀ (s0 : Int32), ((s0 = 0 ∧ ¬ x1.toInt = 3) ∨ (¬ s0 = 0 ∧ x1.toInt = 3)) → v_M_readSection_18 I0 J0 64 f1 10 f2 10 f3 320 f4 320 f5 320 f6 320 f7 10 f8 x1 x2 x3 x4 s0 Z1 → v_M_readSection_18 I0 J0 64 f1 10 f2 10 f3 320 f4 320 f5 320 f6 320 f7 10 f8 x1 x2 x3 x4 s0 Z2 := fun s0 hs => by
    refine x_M_readSection_18 (fI_and (fun _ => fI_and (fun _ => fI_ite' (fun c => g97 s0 hs (fun q => absurd q c)) (fun c => fI_ite (fun d => g97 s0 hs (fun _ => d)) (fun d => ?_)))))
    exact x_M_readSection_97 (fI_ite' (fun q => absurd c q) (fun _ => fI_ex (g107 s0 hs _ rfl (Or.inl h2.1))))
  exact x_M_readSection_6 (fI_ite' (fun c => g18 0 (Or.inl ⟨rfl, fun q => c (zle_eq.2 (q.trans (by decide)))⟩)) (fun c => g18 1 (Or.inr ⟨by decide, by rw [c]; decide⟩)))
end
