set_option maxRecDepth 10000 in
theorem p_M_code {I0 : Nat → Int32} {J0 : Nat → Int64} {f1 f2 f3 f4 f5 f6 f7 f8 f9 : Nat → Int32} {Z1 Z2 : Int32 → (Nat → Int32) × (Nat → Int32) × (Nat → Int32) × (Nat → Int32) × (Nat → Int32) × (Nat → Int32) × (Nat → Int32) × (Nat → Int32) × (Nat → Int32) → Prop} (hZ : ∀ (r : Int32) (gI g2 g3 g4 g5 g6 g7 g8 g9 : Nat → Int32), (r.toInt = -1 ∨ yF f8 g8 160) → Z1 r (gI, g2, g3, g4, g5, g6, g7, g8, g9) → Z2 r (gI, g2, g3, g4, g5, g6, g7, g8, g9)) : v_M_code_0 I0 J0 64 f1 2 f2 10 f3 10 f4 320 f5 320 f6 320 f7 320 f8 10 f9 Z1 → v_M_code_0 I0 J0 64 f1 2 f2 10 f3 10 f4 320 f5 320 f6 320 f7 320 f8 10 f9 Z2 := by
  have l209 : ∀ (I g2 g3 g4 g9 : Nat → Int32) (N : Nat) (g5 g6 g7 g8 : Nat → Int32) (x : Int32), v_M_code_209 I J0 64 f1 2 g2 10 g3 10 g4 320 320 320 320 10 g9 Z1 N g5 g6 g7 g8 x → v_M_code_209 I J0 64 f1 2 g2 10 g3 10 g4 320 320 320 320 10 g9 Z2 N g5 g6 g7 g8 x := by
    intro I g2 g3 g4 g9 N
    induction N with
    | zero => intro _ _ _ _ _ h; exact h.elim
    | succ N ih =>
      intro g5 g6 g7 g8 x
      exact x_M_code_209 (fI_ite (fun _ => hZ _ _ _ _ _ _ _ _ _ _ (Or.inl (by decide))) (fun _ => fI_and (fun _ => fI_and (fun _ => fI_and (fun _ => fI_and (fun _ => fI_and (fun _ => fI_and (fun _ => fI_and (fun _ => fI_and (fun _ => ih _ _ _ _ _))))))))))
  have l138 : ∀ (I g2 g5 g6 g7 g8 : Nat → Int32) (x1 : Int32) (N : Nat) (g3 g4 g9 : Nat → Int32) (x : Int32), v_M_code_138 I J0 64 f1 2 g2 10 10 320 g5 320 g6 320 g7 320 g8 10 x1 Z1 N g3 g4 g9 x → v_M_code_138 I J0 64 f1 2 g2 10 10 320 g5 320 g6 320 g7 320 g8 10 x1 Z2 N g3 g4 g9 x := by
    intro I g2 g5 g6 g7 g8 x1 N
    induction N with
    | zero => intro _ _ _ _ h; exact h.elim
    | succ N ih =>
      intro g3 g4 g9 x
      exact x_M_code_138 (fI_ite (fun _ => fI_ex (fun M => l209 _ _ _ _ _ M _ _ _ _ _)) (fun _ => fI_and (fun _ => fI_and (fun _ => fI_and (fun _ => fI_and (fun _ => fI_and (fun _ => fI_and (fun _ => ih _ _ _ _))))))))
  have lp : ∀ (N : Nat) (I g3 g4 g5 g6 g7 g8 g9 : Nat → Int32) (x1 x2 x3 : Int32), pI f8 I g8 → v_M_code_29 J0 64 f1 2 f2 10 10 320 320 320 320 10 Z1 N I g3 g4 g5 g6 g7 g8 g9 x1 x2 x3 → v_M_code_29 J0 64 f1 2 f2 10 10 320 320 320 320 10 Z2 N I g3 g4 g5 g6 g7 g8 g9 x1 x2 x3 := by
    intro N
    induction N with
    | zero => intro _ _ _ _ _ _ _ _ _ _ _ _ h; exact h.elim
    | succ N ih =>
      intro I g3 g4 g5 g6 g7 g8 g9 x1 x2 x3 hi
      have e116 : v_M_code_116 I J0 64 f1 2 f2 10 g3 10 g4 320 g5 320 g6 320 g7 320 g8 10 g9 x1 Z1 → v_M_code_116 I J0 64 f1 2 f2 10 g3 10 g4 320 g5 320 g6 320 g7 320 g8 10 g9 x1 Z2 := x_M_code_116 (fI_ite (fun _ => fI_and (fun _ => fI_ex (fun M => l138 _ _ _ _ _ _ _ M _ _ _ _))) (fun _ => hZ _ _ _ _ _ _ _ _ _ _ (Or.inr hi.2)))
      refine x_M_code_29 (fI_ite (fun _ => e116) (fun _ => fI_ite (fun _ => e116) (fun _ => mo_M_endOf (fun r u => x_M_code_45 (p_M_readSection (q := f8) hi (fun I' k3 k4 k5 k6 k7 k8 k9 hi => x_M_code_55 ?_))))))
      have e108 : ∀ (t : Int32), v_M_code_108 I' J0 64 f1 2 f2 10 k3 10 k4 320 k5 320 k6 320 k7 320 k8 10 k9 (x1 + 1) t r (v_M_code_29 J0 64 f1 2 f2 10 10 320 320 320 320 10 Z1 N) Z1 → v_M_code_108 I' J0 64 f1 2 f2 10 k3 10 k4 320 k5 320 k6 320 k7 320 k8 10 k9 (x1 + 1) t r (v_M_code_29 J0 64 f1 2 f2 10 10 320 320 320 320 10 Z2 N) Z2 := fun t => x_M_code_108 (ih _ _ _ _ _ _ _ _ _ _ _ hi)
      have e102 : ∀ (t : Int32), v_M_code_102 I' J0 64 f1 2 f2 10 k3 10 k4 320 k5 320 k6 320 k7 320 k8 10 k9 (x1 + 1) t r (v_M_code_29 J0 64 f1 2 f2 10 10 320 320 320 320 10 Z1 N) Z1 → v_M_code_102 I' J0 64 f1 2 f2 10 k3 10 k4 320 k5 320 k6 320 k7 320 k8 10 k9 (x1 + 1) t r (v_M_code_29 J0 64 f1 2 f2 10 10 320 320 320 320 10 Z2 N) Z2 := fun t => x_M_code_102 (x_M_code_108 (ih _ _ _ _ _ _ _ _ _ _ _ (pI_z (by decide) hi)))
      have e72 : ∀ (t : Int32), v_M_code_72 I' J0 64 f1 2 f2 10 k3 10 k4 320 k5 320 k6 320 k7 320 k8 10 k9 (x1 + 1) r t (v_M_code_29 J0 64 f1 2 f2 10 10 320 320 320 320 10 Z1 N) Z1 → v_M_code_72 I' J0 64 f1 2 f2 10 k3 10 k4 320 k5 320 k6 320 k7 320 k8 10 k9 (x1 + 1) r t (v_M_code_29 J0 64 f1 2 f2 10 10 320 320 320 320 10 Z2 N) Z2 := fun t => x_M_code_72 (fI_ite (fun _ => e108 t) (fun _ => fI_ite (fun _ => e108 t) (fun _ => fI_ite (fun _ => e102 t) (fun _ => fI_and (fun _ => fI_ite' (fun _ => e108 t) (fun _ => e102 t))))))
      dsimp only
      exact fI_ite (fun _ => e72 0) (fun _ => e72 1)
  refine x_M_code_0 (fI_ex (fun N => lp N _ _ _ _ _ _ _ _ _ _ _ ⟨?_, yF_refl⟩))
  show 0 ≤ (0 : Int32).toInt ∧ (0 : Int32).toInt ≤ 160
  decide
