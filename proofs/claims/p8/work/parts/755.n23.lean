/-! dress of a number: the sign -/
theorem twP_O {v s W d p : Int} {I3 : Nat → Int32} {J3 : Nat → Int64} {I4 : Nat → Int32} {J4 : Nat → Int64} (h : twP v s W d I3 J3 I4 J4 p) (h0 : 0 ≤ d) (h1 : d ≤ 64) : dgO I3 J3 ∧ dgO I4 J4 := by
  obtain ⟨nd, n0, _, _, a, b, _⟩ := h
  exact ⟨(dgO_i a h0 h1).1, (dgO_i b (by decide) (by decide)).1⟩
theorem dgO_p {I : Nat → Int32} {J : Nat → Int64} (h : dgO I J) : ((I 2).toInt = 0 → dgN I J = 0) ∧ (¬ (I 2).toInt = 0 → 0 < dgN I J) := by
  rcases h.1.2.2 with ⟨a, b⟩ | ⟨a, b, _⟩
  · exact ⟨fun _ => a, fun c => absurd b c⟩
  · exact ⟨fun c => by omega, fun _ => a⟩
theorem sgC_1 {b M : Int} {X : List Int} (h : ¬ b = 0) (hM : 0 < M) : [45] ++ X = sgn b M ++ X := by rw [sgn_1 h hM]
theorem sgC_0 {b M : Int} {X : List Int} (h : b = 0 ∨ M ≤ 0) : X = sgn b M ++ X := by rw [← sgn_0 h]; rfl
/-- how a number was taken: by its own power or by the largest that fits -/
def nTk (k v s W d x : Int) (I0 I4 : Nat → Int32) (J4 : Nat → Int64) (G0 G3 : Nat → Int32) (H3 : Nat → Int64) (G4 : Nat → Int32) (H4 : Nat → Int64) : Prop :=
  (¬ k = 3 ∧ dgM G3 H3 (rdM v (s + x) d) d ∧ G0 = I0 ∧ G4 = I4 ∧ H4 = J4) ∨ (k = 3 ∧ twP v s W d G3 H3 G4 H4 (G0 2).toInt)
theorem nTk_1 {k v s W d x : Int} {I0 I4 : Nat → Int32} {J4 : Nat → Int64} {G3 : Nat → Int32} {H3 : Nat → Int64} (h : ¬ k = 3) (hd : dgM G3 H3 (rdM v (s + x) d) d) : nTk k v s W d x I0 I4 J4 I0 G3 H3 I4 J4 := Or.inl ⟨h, hd, rfl, rfl, rfl⟩
theorem nTk_2 {k v s W d x : Int} {I0 I4 : Nat → Int32} {J4 : Nat → Int64} {G0 G3 : Nat → Int32} {H3 : Nat → Int64} {G4 : Nat → Int32} {H4 : Nat → Int64} (h : k = 3) (hd : twP v s W d G3 H3 G4 H4 (G0 2).toInt) : nTk k v s W d x I0 I4 J4 G0 G3 H3 G4 H4 := Or.inr ⟨h, hd⟩
theorem nXs {s a b : Int32} (hs : -350 ≤ s.toInt ∧ s.toInt ≤ 300) (ha : 0 ≤ a.toInt ∧ a.toInt ≤ 64) (hb : 0 ≤ b.toInt ∧ b.toInt ≤ 64) : (s + (2 * a - 3 * b)).toInt = s.toInt + (2 * a.toInt - 3 * b.toInt) := by
  have e1 : (2 * a : Int32).toInt = 2 * a.toInt := by rw [zmul1] <;> simp only [Int32.reduceToInt] <;> omega
  have e2 : (3 * b : Int32).toInt = 3 * b.toInt := by rw [zmul1] <;> simp only [Int32.reduceToInt] <;> omega
  have e3 : (2 * a - 3 * b).toInt = 2 * a.toInt - 3 * b.toInt := by rw [zsub1] <;> rw [e1, e2] <;> omega
  rw [zadd1] <;> rw [e3] <;> omega
