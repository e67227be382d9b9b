theorem yS_id {f : Nat → Int32} {e a b : Int} (h : b = a) : ∀ to : Int, yS f e to a → yS f e to b := fun _ k => h ▸ k
theorem yS_q {f : Nat → Int32} {e a b q : Int} {x : Int32} (ha : a = x.toInt) (hb : b = q) (hf : (f x.toNatClampNeg).toInt = 34) (hQ : yQ f e x.toInt q) (hlt : x.toInt < q) (he : x.toInt < e) : ∀ to : Int, yS f e to a → yS f e to b := fun to h => by
  subst ha; subst hb
  exact yS_fwd h he (by rw [ztn]; omega) (ystep_q32 hf hQ hlt)
theorem yS_p {f : Nat → Int32} {e a b : Int} {x : Int32} (ha : a = x.toInt) (hb : b = x.toInt + 2) (hp : ((f x.toNatClampNeg).toInt = 92 ∨ (f x.toNatClampNeg).toInt = 95 ∨ (f x.toNatClampNeg).toInt = 42) ∧ x.toInt + 1 < e) : ∀ to : Int, yS f e to a → yS f e to b := fun to h => by
  subst ha
  exact yS_fwd h (by omega) (by rw [ztn]; omega) (ystep_p32 (by omega) hp hb)
theorem yS_P {f : Nat → Int32} {e a b c : Int} (hP : yP f a c) (hb : b = c) (h1 : a ≤ c) (h2 : c ≤ e) : ∀ to : Int, yS f e to a → yS f e to b := fun to h => by
  subst hb; exact yS_pl h1 h2 hP h
theorem yS_1 {f : Nat → Int32} {e a b : Int} {x : Int32} (ha : a = x.toInt) (hb : b = x.toInt + 1) (hp : ypl (f x.toNatClampNeg).toInt) (h2 : x.toInt < e) : ∀ to : Int, yS f e to a → yS f e to b := fun to h => by
  subst ha; subst hb; exact yS_pl (by omega) (by omega) (yP_one rfl (by omega) hp) h
theorem yA_mod {kd fi se kd' fi' se' se2 : Nat → Int32} {b b' : Int} {i y : Int32} (h : yA kd fi se kd' fi' se' b b') (e : se2 = upd se' i.toNatClampNeg y) (h1 : b ≤ i.toInt) (h0 : 0 ≤ i.toInt) (hy : 0 ≤ y.toInt ∧ y.toInt ≤ 5) : yA kd fi se kd' fi' se2 b b' := by
  subst e
  have hn : (i.toNatClampNeg : Int) = i.toInt := by rw [← ztn]; omega
  refine ⟨fun n h3 => ?_, fun n h3 h4 => ?_⟩
  · rw [pk_un (by omega)]; exact h.1 n h3
  · by_cases c : n = i.toNatClampNeg
    · subst c; rw [pk_us]; have := h.2 _ h3 h4; exact ⟨this.1, this.2.1, hy⟩
    · rw [pk_un c]; exact h.2 n h3 h4
