theorem ztn (x : Int32) : x.toInt.toNat = x.toNatClampNeg := rfl
theorem yJ_nil {f : Nat → Int32} {p r : Int} (hr : r = p + 1) : ∀ j : Int, p < j → j < r → (f j.toNat).toInt ≠ 34 := fun j h1 h2 => by omega
theorem yJ_step {f : Nat → Int32} {p r : Int} {x : Int32} (hJ : ∀ j : Int, p < j → j < x.toInt → (f j.toNat).toInt ≠ 34) (hr : r = x.toInt + 1) (hf : ¬ (f x.toNatClampNeg).toInt = 34) : ∀ j : Int, p < j → j < r → (f j.toNat).toInt ≠ 34 := fun j h1 h2 => by
  rcases Int.lt_or_le j x.toInt with c | c
  · exact hJ j h1 c
  · rw [show j = x.toInt by omega]; exact hf
theorem yQ_none {f : Nat → Int32} {e p x : Int} (hx : e ≤ x) (hJ : ∀ j : Int, p < j → j < x → (f j.toNat).toInt ≠ 34) : yQ f e p p := Or.inl ⟨rfl, fun j h1 h2 => hJ j h1 (by omega)⟩
theorem yQ_hit {f : Nat → Int32} {e p r : Int} {x : Int32} (hr : r = x.toInt + 1) (h1 : p < x.toInt) (h2 : x.toInt < e) (hf : (f x.toNatClampNeg).toInt = 34) (hJ : ∀ j : Int, p < j → j < x.toInt → (f j.toNat).toInt ≠ 34) : yQ f e p r :=
  Or.inr ⟨by omega, by omega, by rw [show r - 1 = x.toInt by omega]; exact hf, fun j a b => hJ j a (by omega)⟩
theorem yS_semi32 {f : Nat → Int32} {e : Int} {x : Int32} (h : x.toInt < e) (hf : (f x.toNatClampNeg).toInt = 59) : yS f e x.toInt x.toInt := yS_semi h hf
theorem yS_comp {f : Nat → Int32} {e x1 q : Int} {x : Int32} (hS : ∀ r : Int, yS f e r x.toInt → yS f e r x1) (hlt : x.toInt < e) (h59 : ¬ (f x.toNatClampNeg).toInt = 59) (hs : ystep f e x.toInt q) : ∀ r : Int, yS f e r q → yS f e r x1 := fun r h => hS r (yS_back hlt h59 hs h)
theorem ystep_q32 {f : Nat → Int32} {e q : Int} {x : Int32} (hf : (f x.toNatClampNeg).toInt = 34) (hQ : yQ f e x.toInt q) (hlt : x.toInt < q) : ystep f e x.toInt q := Or.inl ⟨hf, hQ, hlt⟩
theorem ystep_p32 {f : Nat → Int32} {e q : Int} {x : Int32} (hf : ¬ (f x.toNatClampNeg).toInt = 34) (hp : ((f x.toNatClampNeg).toInt = 92 ∨ (f x.toNatClampNeg).toInt = 95 ∨ (f x.toNatClampNeg).toInt = 42) ∧ x.toInt + 1 < e) (hq : q = x.toInt + 2) : ystep f e x.toInt q := Or.inr (Or.inl ⟨Or.inl hf, hp, hq⟩)
theorem ystep_o32 {f : Nat → Int32} {e q : Int} {x : Int32} (hf : ¬ (f x.toNatClampNeg).toInt = 34) (hp : ¬ (((f x.toNatClampNeg).toInt = 92 ∨ (f x.toNatClampNeg).toInt = 95 ∨ (f x.toNatClampNeg).toInt = 42) ∧ x.toInt + 1 < e)) (hq : q = x.toInt + 1) : ystep f e x.toInt q := Or.inr (Or.inr ⟨Or.inl hf, hp, hq⟩)
theorem ystep_n32 {f : Nat → Int32} {e q r : Int} {x : Int32} (hQ : yQ f e x.toInt r) (hr : r = x.toInt) (hf : (f x.toNatClampNeg).toInt = 34) (hq : q = x.toInt + 1) : ystep f e x.toInt q := Or.inr (Or.inr ⟨Or.inr (hr ▸ hQ), fun c => by
  have h := c.1; rw [ztn] at h; omega, hq⟩)
theorem yP_end {f : Nat → Int32} {a b : Int} (h : b ≤ a) : yP f a b := fun j h1 h2 => by omega
theorem yP_one {f : Nat → Int32} {a b : Int} {x : Int32} (ha : a = x.toInt) (hb : b ≤ a + 1) (h : ypl (f x.toNatClampNeg).toInt) : yP f a b := fun j h1 h2 => by
  rw [show j = x.toInt by omega]; exact h
theorem yP_sn {f : Nat → Int32} {a b c : Int} {x : Int32} (h1 : yP f a b) (hb : b = x.toInt) (hc : c = b + 1) (h : ypl (f x.toNatClampNeg).toInt) : yP f a c := by
  subst hc; subst hb; exact yP_snoc h1 h
theorem yP_cn {f : Nat → Int32} {a b c : Int} {x : Int32} (h1 : yP f b c) (ha : a = x.toInt) (hb : b = a + 1) (h : ypl (f x.toNatClampNeg).toInt) : yP f a c := by
  subst hb; subst ha; exact yP_cons h h1
theorem ySt_step {f : Nat → Int32} {e p r : Int} {w : Int64} {n x : Int32} (h : ∀ k : Int32, 0 ≤ k.toInt → k.toInt < x.toInt → ysm (ych f e (p + k.toInt)) = zby8 w n k) (hr : r = x.toInt + 1) (hx : ysm (ych f e (p + x.toInt)) = zby8 w n x) : ∀ k : Int32, 0 ≤ k.toInt → k.toInt < r → ysm (ych f e (p + k.toInt)) = zby8 w n k := fun k h0 h1 => by
  rcases Int.lt_or_le k.toInt x.toInt with c | c
  · exact h k h0 c
  · rw [show k = x from Int32.toInt_inj.mp (by omega)]; exact hx
theorem yU_step {w : Int64} {r : Int} {x : Int32} (h : ∀ m : Int32, 0 ≤ m.toInt → m.toInt < x.toInt → ¬ zup w m) (hr : r = x.toInt + 1) (hx : ¬ zup w x) : ∀ m : Int32, 0 ≤ m.toInt → m.toInt < r → ¬ zup w m := fun k h0 h1 => by
  rcases Int.lt_or_le k.toInt x.toInt with c | c
  · exact h k h0 c
  · rw [show k = x from Int32.toInt_inj.mp (by omega)]; exact hx
theorem zmac (x a : Int32) (h1 : -2900000 ≤ x.toInt) (h2 : x.toInt ≤ 2900000) (h3 : 0 ≤ a.toInt) (h4 : a.toInt ≤ 255) : ((10 : Int32) * x + a - (48 : Int32)).toInt = 10 * x.toInt + a.toInt - 48 := by
  have e1 : ((10 : Int32) * x).toInt = 10 * x.toInt := by
    rw [zmul1 (by simp only [Int32.reduceToInt]; omega) (by simp only [Int32.reduceToInt]; omega)]; rfl
  have e2 : ((10 : Int32) * x + a).toInt = 10 * x.toInt + a.toInt := by rw [zadd1 (by omega) (by omega), e1]
  rw [zsub1 (by simp only [Int32.reduceToInt]; omega) (by simp only [Int32.reduceToInt]; omega), e2]
  rfl
theorem ySt_use {f : Nat → Int32} {e p r : Int} {w : Int64} (N : Nat) (k : Int32) (q : Int) (h : r = 0 ∨ ySt f e p w) (hw : zwok w N = true) (hN : 0 < N) (hk : k.toInt = N) (hq : p = q) : r = 0 ∨ (q + k.toInt ≤ e ∧ yP f q (q + k.toInt)) := by
  rcases h with h | h
  · exact Or.inl h
  · have := ySt_lit N h hw
    rw [hk, ← hq]
    exact Or.inr ⟨this.2.1 hN, this.2.2⟩
theorem yW1 {f : Nat → Int32} {e p r : Int} (q : Int) (h : r = 0 ∨ ySt f e p 422725116779) (hq : p = q) : r = 0 ∨ (q + (5 : Int32).toInt ≤ e ∧ yP f q (q + (5 : Int32).toInt)) := ySt_use 5 5 q h zw1 (by decide) (by rfl) hq
theorem yW2 {f : Nat → Int32} {e p r : Int} (q : Int) (h : r = 0 ∨ ySt f e p 444300879214) (hq : p = q) : r = 0 ∨ (q + (5 : Int32).toInt ≤ e ∧ yP f q (q + (5 : Int32).toInt)) := ySt_use 5 5 q h zw2 (by decide) (by rfl) hq
theorem yW3 {f : Nat → Int32} {e p r : Int} (q : Int) (h : r = 0 ∨ ySt f e p 512852849765) (hq : p = q) : r = 0 ∨ (q + (5 : Int32).toInt ≤ e ∧ yP f q (q + (5 : Int32).toInt)) := ySt_use 5 5 q h zw3 (by decide) (by rfl) hq
theorem yW4 {f : Nat → Int32} {e p r : Int} (q : Int) (h : r = 0 ∨ ySt f e p 1651275109) (hq : p = q) : r = 0 ∨ (q + (4 : Int32).toInt ≤ e ∧ yP f q (q + (4 : Int32).toInt)) := ySt_use 4 4 q h zw4 (by decide) (by rfl) hq
theorem yW5 {f : Nat → Int32} {e p r : Int} (q : Int) (h : r = 0 ∨ ySt f e p 1668899182) (hq : p = q) : r = 0 ∨ (q + (4 : Int32).toInt ≤ e ∧ yP f q (q + (4 : Int32).toInt)) := ySt_use 4 4 q h zw5 (by decide) (by rfl) hq
theorem yW6 {f : Nat → Int32} {e p r : Int} (q : Int) (h : r = 0 ∨ ySt f e p 7497060) (hq : p = q) : r = 0 ∨ (q + (3 : Int32).toInt ≤ e ∧ yP f q (q + (3 : Int32).toInt)) := ySt_use 3 3 q h zw6 (by decide) (by rfl) hq
theorem yW7 {f : Nat → Int32} {e p r : Int} (q : Int) (h : r = 0 ∨ ySt f e p 133476517703543) (hq : p = q) : r = 0 ∨ (q + (6 : Int32).toInt ≤ e ∧ yP f q (q + (6 : Int32).toInt)) := ySt_use 6 6 q h zw7 (by decide) (by rfl) hq
theorem yW8 {f : Nat → Int32} {e p r : Int} (q : Int) (h : r = 0 ∨ ySt f e p 30787869172724833) (hq : p = q) : r = 0 ∨ (q + (7 : Int32).toInt ≤ e ∧ yP f q (q + (7 : Int32).toInt)) := ySt_use 7 7 q h zw8 (by decide) (by rfl) hq
theorem zw9 : zwok 418443653229 5 = true := by decide +kernel
theorem yW9 {f : Nat → Int32} {e p r : Int} (q : Int) (h : r = 0 ∨ ySt f e p 418443653229) (hq : p = q) : r = 0 ∨ (q + (5 : Int32).toInt ≤ e ∧ yP f q (q + (5 : Int32).toInt)) := ySt_use 5 5 q h zw9 (by decide) (by rfl) hq
theorem zw10 : zwok 6369136 3 = true := by decide +kernel
theorem yW10 {f : Nat → Int32} {e p r : Int} (q : Int) (h : r = 0 ∨ ySt f e p 6369136) (hq : p = q) : r = 0 ∨ (q + (3 : Int32).toInt ≤ e ∧ yP f q (q + (3 : Int32).toInt)) := ySt_use 3 3 q h zw10 (by decide) (by rfl) hq
theorem ySt_no {f : Nat → Int32} {e p : Int} {w : Int64} {n k : Int32} (hA : 8 ≤ n.toInt ∨ zup w n) (hB : ∀ m : Int32, 0 ≤ m.toInt → m.toInt < n.toInt → ¬ zup w m) (h0 : 0 ≤ n.toInt) (h8 : n.toInt ≤ 8) (k0 : 0 ≤ k.toInt) (k1 : k.toInt < n.toInt) (hne : ¬ ysm (ych f e (p + k.toInt)) = zby8 w n k) : ¬ ySt f e p w := by
  rintro ⟨n', g0, g8, gA, gB, gC⟩
  have e : n' = n := by
    apply Int32.toInt_inj.mp
    rcases Int.lt_trichotomy n'.toInt n.toInt with c | c | c
    · rcases gA with d | d
      · omega
      · exact absurd d (hB n' g0 c)
    · exact c
    · rcases hA with d | d
      · omega
      · exact absurd d (gB n h0 c)
  subst e
  exact hne (gC k k0 k1)
noncomputable def ycn (f : Nat → Int32) (e p : Int) : Int := by
  classical exact if ¬ ych f e p = 91 then 0 else if ySt f e (p + 1) 422725116779 then 5 else if ySt f e (p + 1) 444300879214 then 5 else if ySt f e (p + 1) 512852849765 then 5 else if ySt f e (p + 1) 1651275109 then 4 else if ySt f e (p + 1) 1668899182 then 4 else if ySt f e (p + 1) 7497060 then 3 else if ySt f e (p + 1) 133476517703543 then 6 else if ySt f e (p + 1) 30787869172724833 then 7 else 0
noncomputable def ycol (f : Nat → Int32) (e p : Int) : Int := if 0 < ycn f e p ∧ ych f e (p + 1 + ycn f e p) = 93 then ycn f e p + 2 else 0
