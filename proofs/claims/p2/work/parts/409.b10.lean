theorem yG_cast {kd fi se : Nat → Int32} {a b pt b' pt' : Int} (h : yG kd fi se a b pt) (hb : b' = b) (hp : pt ≤ pt') : yG kd fi se a b' pt' := by
  subst hb; exact ⟨h.1, Int.le_trans h.2 hp⟩
/-- what a section's items keep over one more item (or none), and what lies before the section -/
def yH (kd fi se kd' fi' se' : Nat → Int32) (a b b' pt pt' : Int) : Prop := (yG kd fi se a b pt → yG kd' fi' se' a b' pt') ∧ yF kd kd' a ∧ yF fi fi' a ∧ yF se se' a ∧ (∀ q : Nat, a ≤ (q : Int) → (q : Int) < b → (kd q).toInt = 10 → (kd' q).toInt = 10)
theorem yH_A {kd fi se kd' fi' se' : Nat → Int32} {a b b' c pt pt' : Int} (hA : yA kd fi se kd' fi' se' b b') (h0 : 0 ≤ a) (h1 : a ≤ b) (h2 : b ≤ b') (hc : c = b') (hp : pt ≤ pt') : yH kd fi se kd' fi' se' a b c pt pt' :=
  ⟨fun g => yG_cast (yG_A g hA h0 h1 h2) hc hp, (yF_A hA h1).1, (yF_A hA h1).2.1, (yF_A hA h1).2.2, fun q _ h4 h5 => by rw [(hA.1 q h4).1]; exact h5⟩
theorem yH_N {kd kd1 fi se kd' fi' se' : Nat → Int32} {a b b' c pt pt' : Int} (hN : yN kd kd1 a) (hA : yA kd1 fi se kd' fi' se' b b') (h0 : 0 ≤ a) (h1 : a ≤ b) (h2 : b ≤ b') (hc : c = b') (hp : pt ≤ pt') : yH kd fi se kd' fi' se' a b c pt pt' :=
  ⟨fun g => yG_cast (yG_A (yG_N g hN h0) hA h0 h1 h2) hc hp, yF_trans (yF_N hN) (yF_A hA h1).1, (yF_A hA h1).2.1, (yF_A hA h1).2.2, fun q _ h4 h5 => by
    rw [(hA.1 q h4).1]; rcases hN q with d | d; rw [d]; exact h5; omega⟩
theorem yH_pt {kd fi se kd' fi' se' : Nat → Int32} {a b c pt pt' : Int} {i v x y : Int32} (e1 : kd' = upd kd i.toNatClampNeg v) (e2 : fi' = upd fi i.toNatClampNeg x) (e3 : se' = upd se i.toNatClampNeg y) (hi : i.toInt = b) (h0 : 0 ≤ a) (h1 : a ≤ b) (hc : c = b + 1) (hp : pt + 1 ≤ pt') (hv : v.toInt = 4) (hy : 0 ≤ y.toInt ∧ y.toInt ≤ 5) : yH kd fi se kd' fi' se' a b c pt pt' :=
  ⟨fun g => yG_pt g hi h0 h1 hc hp hv hy e1 e2 e3, yF_upd e1 (by omega) (by omega), yF_upd e2 (by omega) (by omega), yF_upd e3 (by omega) (by omega), fun q _ h4 h5 => by
    subst e1; rw [pk_un]; exact h5; rw [← ztn]; omega⟩
def yM (fi fi' kd : Nat → Int32) (a : Int) : Prop := ∀ n : Nat, fi' n = fi n ∨ (kd n).toInt = 11 ∧ a ≤ (n : Int)
theorem yM_refl {fi kd : Nat → Int32} {a : Int} : yM fi fi kd a := fun _ => Or.inl rfl
theorem yM_step {fi fi' kd : Nat → Int32} {a : Int} {i v : Int32} (h : yM fi fi' kd a) (hk : (kd i.toNatClampNeg).toInt = 11) (ha : a ≤ i.toInt) (h0 : 0 ≤ i.toInt) : yM fi (upd fi' i.toNatClampNeg v) kd a := fun n => by
  by_cases e : n = i.toNatClampNeg
  · subst e; exact Or.inr ⟨hk, by rw [← ztn]; omega⟩
  · rw [pk_un e]; exact h n
theorem yG_M {kd fi fi' se : Nat → Int32} {a b pt c : Int} (h : yG kd fi se a b pt) (hM : yM fi fi' kd c) : yG kd fi' se a b pt := by
  refine ⟨fun n h1 h2 => ?_, h.2⟩
  have k := h.1 n h1 h2
  rcases hM n with d | d
  · rw [d]; exact k
  · exact ⟨fun q => by omega, k.2⟩
theorem yF_M {kd fi fi' : Nat → Int32} {a : Int} (hM : yM fi fi' kd a) : yF fi fi' a := fun n h1 => (hM n).resolve_right (fun c => by omega)
