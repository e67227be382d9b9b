def yN (kd kd' : Nat → Int32) (a : Int) : Prop := ∀ n : Nat, kd' n = kd n ∨ (kd n).toInt = 2 ∧ (kd' n).toInt = 9 ∧ a ≤ (n : Int)
theorem yN_refl {kd : Nat → Int32} {a : Int} : yN kd kd a := fun _ => Or.inl rfl
theorem yN_step {kd kd' : Nat → Int32} {a : Int} {i : Int32} (h : yN kd kd' a) (hi : (kd' i.toNatClampNeg).toInt = 2) (ha : a ≤ i.toInt) (h0 : 0 ≤ i.toInt) : yN kd (upd kd' i.toNatClampNeg 9) a := fun n => by
  by_cases e : n = i.toNatClampNeg
  · subst e
    rw [pk_us]
    rcases h i.toNatClampNeg with c | c
    · rw [c] at hi; exact Or.inr ⟨hi, rfl, by rw [← ztn]; omega⟩
    · omega
  · rw [pk_un e]; exact h n
theorem yG_N {kd kd' fi se : Nat → Int32} {a b pt c : Int} (h : yG kd fi se a b pt) (hN : yN kd kd' c) (h0 : 0 ≤ a) : yG kd' fi se a b pt := by
  refine ⟨fun n h1 h2 => ?_, ?_⟩
  · have k := h.1 n h1 h2
    rcases hN n with d | d
    · rw [d]; exact k
    · exact ⟨fun q => by omega, k.2⟩
  · rw [← zrem_congr (f := kd) h0 (fun j _ _ => by rcases hN j with d | d; rw [d]; omega)]
    exact h.2
def yF (f g : Nat → Int32) (a : Int) : Prop := ∀ n : Nat, (n : Int) < a → g n = f n
theorem yF_A {kd fi se kd' fi' se' : Nat → Int32} {a b b' : Int} (h : yA kd fi se kd' fi' se' b b') (hab : a ≤ b) : yF kd kd' a ∧ yF fi fi' a ∧ yF se se' a := ⟨fun n h1 => (h.1 n (by omega)).1, fun n h1 => (h.1 n (by omega)).2.1, fun n h1 => (h.1 n (by omega)).2.2⟩
theorem yF_N {kd kd' : Nat → Int32} {a : Int} (h : yN kd kd' a) : yF kd kd' a := fun n h1 => (h n).resolve_right (fun c => by omega)
theorem yF_trans {f g k : Nat → Int32} {a : Int} (h : yF f g a) (h2 : yF g k a) : yF f k a := fun n h1 => (h2 n h1).trans (h n h1)
theorem yF_upd {f g : Nat → Int32} {a : Int} {i v : Int32} (e : g = upd f i.toNatClampNeg v) (h : a ≤ i.toInt) (h0 : 0 ≤ i.toInt) : yF f g a := fun n h1 => by
  subst e; rw [pk_un]; rw [← ztn]; omega
theorem yF_refl {f : Nat → Int32} {a : Int} : yF f f a := fun _ _ => rfl
theorem yA_cast {kd fi se kd' fi' se' : Nat → Int32} {b b' c : Int} (e : c = b') (h : yA kd fi se kd' fi' se' b b') : yA kd fi se kd' fi' se' b c := e ▸ h
theorem yP_cast {f : Nat → Int32} {a b a' b' : Int} (h1 : a' = a) (h2 : b' = b) (h : yP f a b) : yP f a' b' := by subst h1; subst h2; exact h
theorem yP_two {f : Nat → Int32} {a m b : Int} {x y : Int32} (h1 : a = x.toInt) (h2 : y.toInt = a + 1) (h3 : m = a + 2) (hx : ypl (f x.toNatClampNeg).toInt) (hy : ypl (f y.toNatClampNeg).toInt) (h : yP f m b) : yP f a b :=
  yP_cn (x := x) (b := a + 1) (yP_cn (x := y) (b := m) h (by omega) (by omega) hy) h1 rfl hx
theorem yP_on {f : Nat → Int32} {a m b : Int} {x : Int32} (h1 : a = x.toInt) (h3 : m = a + 1) (hx : ypl (f x.toNatClampNeg).toInt) (h : yP f m b) : yP f a b := yP_cn (x := x) (b := m) h h1 h3 hx
