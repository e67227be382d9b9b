/-! the code of the class, read -/
section
variable {I0 I1 I3 I5 I6 I7 I8 I11 I12 f2 f9 f10 : Nat → Int32}
theorem g_ND_code {Z1 Z2 : Int32 → Nat → ((Nat → Int32) × (Nat → Int32) × (Nat → Int32) × (Nat → Int32) × (Nat → Int32) × (Nat → Int32) × (Nat → Int32) × (Nat → Int32) × (Nat → Int32)) → Prop} (hc : qC f2) (h0 : 0 ≤ (I0 1).toInt) (h6 : (I0 1).toInt ≤ 64) (hZ : ∀ (r : Int32) (t : Nat) (u : (Nat → Int32) × (Nat → Int32) × (Nat → Int32) × (Nat → Int32) × (Nat → Int32) × (Nat → Int32) × (Nat → Int32) × (Nat → Int32) × (Nat → Int32)), (t = 0 ∨ (rdI f2 (I0 1).toInt (u.2.1 1).toInt (u.2.1 4).toInt u.2.2.1 u.2.2.2.1 u.2.2.2.2.1 u.2.2.2.2.2.1 u.2.2.2.2.2.2.1 u.2.2.2.2.2.2.2.1 ∧ (1 ≤ (u.2.1 1).toInt ∧ (u.2.1 1).toInt ≤ 4) ∧ (u.2.1 4).toInt ≤ 64)) → Z1 r t u → Z2 r t u) : v_ND_code_0 I0 I1 64 f2 I3 I5 I6 I7 I8 64 f9 64 f10 I11 I12 Z1 → v_ND_code_0 I0 I1 64 f2 I3 I5 I6 I7 I8 64 f9 64 f10 I11 I12 Z2 := by
  refine x_ND_code_0 (g_read hc h0 h6 (fun r u hr => x_ND_code_15 (fI_ite' (fun c => hZ r 0 _ (Or.inl rfl)) (fun c => ?_))) (fun J0 J1 A B C D g8 g9 j hR h1 h4 => x_ND_code_15 (fI_ite' (fun c => absurd rfl c) (fun _ => x_Reader_give_0 (x_ND_code_33 (hZ (-1) 1 _ (Or.inr ⟨hR, h1, h4⟩)))))))
  have : r.toInt = -1 := by rw [c]; decide
  exact absurd hr (by omega)
end
