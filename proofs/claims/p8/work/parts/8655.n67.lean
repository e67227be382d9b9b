theorem nm_193 {I0 : Nat → Int32} {J0 : Nat → Int64} {x4 : Int32} {V : Int} {NG : Int → Prop} {Z1 Z2 : (Nat → Int32) × (Nat → Int32) → Prop} (fin : ∀ (K g : Nat → Int32), zfr [0, 20, 23, 24, 25] I0 K → (K 20).toInt = 0 → NG (K 23).toInt → vR V x4.toInt g (K 24).toInt (K 25).toInt → ((K 24).toInt = 0 → (K 25).toInt = 0) → Z1 (K, g) → Z2 (K, g)) {K g : Nat → Int32} {n : Int} {x7 : Int32} (hf : zfr [0, 20, 23, 24, 25] I0 K) (h20 : (K 20).toInt = 0) (h23 : NG (K 23).toInt) (hD : nmD g V n) (hV0 : 0 ≤ V) (h25 : (K 25).toInt = n + x4.toInt) (s0 : -350 ≤ x4.toInt) (s1 : x4.toInt ≤ 300) (x0 : 0 ≤ x7.toInt) (xn : x7.toInt ≤ n) (hz : ∀ j : Nat, x7.toInt ≤ (j : Int) → (j : Int) < n → (g j).toInt = 0) (hl : x7.toInt = 0 ∨ ¬ (g (x7.toInt - 1).toNat).toInt = 0) : v_M_number0_193 K J0 20 g x7 Z1 → v_M_number0_193 K J0 20 g x7 Z2 := by
  refine x_M_number0_193 (fI_ite' (fun h => ?_) (fun h => ?_))
  · have h : ¬ x7.toInt = 0 := fun c => h (zle_eq.2 (c.trans (by decide)))
    exact x_M_number0_213 (fin (zu (zu K 24 x7) 25 (K 25)) g (zfr_zu (by decide) (zfr_zu (by decide) hf)) h20 h23 (nm_vR hD hV0 x0 xn hz hl (Or.inr ⟨h, h25⟩) s0 s1) (fun c => absurd c h))
  · have h : x7.toInt = 0 := (congrArg Int32.toInt h).trans (by decide)
    exact x_M_number0_213 (fin (zu (zu K 24 x7) 25 0) g (zfr_zu (by decide) (zfr_zu (by decide) hf)) h20 h23 (nm_vR hD hV0 x0 xn hz hl (Or.inl ⟨h, z32_0⟩) s0 s1) (fun _ => z32_0))
theorem nm_z1 {g : Nat → Int32} {x : Int32} {n a : Int} (hz : ∀ j : Nat, x.toInt ≤ (j : Int) → (j : Int) < n → (g j).toInt = 0) (h0 : ¬ x.toInt ≤ 0) (h2 : (g (x.toInt - 1).toNat).toInt = 0) (ha : a = x.toInt - 1) : ∀ j : Nat, a ≤ (j : Int) → (j : Int) < n → (g j).toInt = 0 := fun j q b => by
  by_cases c : (j : Int) = x.toInt - 1
  · rw [show j = (x.toInt - 1).toNat by omega]; exact h2
  · exact hz j (by omega) b
theorem nm_170 {I0 : Nat → Int32} {J0 : Nat → Int64} {x4 : Int32} {V : Int} {NG : Int → Prop} {Z1 Z2 : (Nat → Int32) × (Nat → Int32) → Prop} (fin : ∀ (K g : Nat → Int32), zfr [0, 20, 23, 24, 25] I0 K → (K 20).toInt = 0 → NG (K 23).toInt → vR V x4.toInt g (K 24).toInt (K 25).toInt → ((K 24).toInt = 0 → (K 25).toInt = 0) → Z1 (K, g) → Z2 (K, g)) {K g : Nat → Int32} {n : Int} (hf : zfr [0, 20, 23, 24, 25] I0 K) (h20 : (K 20).toInt = 0) (h23 : NG (K 23).toInt) (hD : nmD g V n) (hV0 : 0 ≤ V) (h25 : (K 25).toInt = n + x4.toInt) (s0 : -350 ≤ x4.toInt) (s1 : x4.toInt ≤ 300) : ∀ (N : Nat) (x7 : Int32), 0 ≤ x7.toInt → x7.toInt ≤ n → (∀ j : Nat, x7.toInt ≤ (j : Int) → (j : Int) < n → (g j).toInt = 0) → v_M_number0_170 K J0 20 g Z1 N x7 → v_M_number0_170 K J0 20 g Z2 N x7 := by
  intro N
  induction N with
  | zero => intro x7 _ _ _ h; exact h.elim
  | succ N ih =>
    intro x7 x0 xn hz
    have hn := hD.1
    have go := fun hl => nm_193 (J0 := J0) fin hf h20 h23 hD hV0 h25 s0 s1 x0 xn hz hl
    refine x_M_number0_170 (fI_ite (fun h => ?_) (fun h => ?_))
    · rw [zle_le] at h
      exact go (Or.inl (Int.le_antisymm h x0))
    rw [zle_le] at h
    have h : ¬ x7.toInt ≤ 0 := h
    have e1 : (x7 - 1).toInt = x7.toInt - 1 := zsub1 (by simp only [Int32.reduceToInt]; omega) (by simp only [Int32.reduceToInt]; omega)
    have e2 : (x7 + -1).toInt = x7.toInt - 1 := by rw [zadd1] <;> simp only [Int32.reduceToInt] <;> omega
    have e3 : (x7 - 1).toNatClampNeg = (x7.toInt - 1).toNat := by rw [zcl, e1]
    refine fI_and (fun _ => fI_ite' (fun h2 => ?_) (fun h2 => ?_))
    · rw [e3] at h2
      exact go (Or.inr (fun c => h2 (zle_eq.2 (c.trans (by decide)))))
    · rw [e3] at h2
      have h2 : (g (x7.toInt - 1).toNat).toInt = 0 := (congrArg Int32.toInt h2).trans (by decide)
      exact ih _ (by rw [e2]; omega) (by rw [e2]; omega) (nm_z1 hz h h2 e2)
theorem nm_128 {I0 : Nat → Int32} {J0 : Nat → Int64} {x4 : Int32} {V : Int} {NG : Int → Prop} {Z1 Z2 : (Nat → Int32) × (Nat → Int32) → Prop} (fin : ∀ (K g : Nat → Int32), zfr [0, 20, 23, 24, 25] I0 K → (K 20).toInt = 0 → NG (K 23).toInt → vR V x4.toInt g (K 24).toInt (K 25).toInt → ((K 24).toInt = 0 → (K 25).toInt = 0) → Z1 (K, g) → Z2 (K, g)) (hV0 : 0 ≤ V) (s0 : -350 ≤ x4.toInt) (s1 : x4.toInt ≤ 300) (x7 : Int32) : ∀ (N : Nat) (K g : Nat → Int32) (x5 : Int64) (x8 : Int32), zfr [0, 20, 23, 24, 25] I0 K → (K 20).toInt = 0 → NG (K 23).toInt → nmF g V x7.toInt x8.toInt x5.toInt → v_M_number0_128 J0 20 x4 x7 Z1 N K g x5 x8 → v_M_number0_128 J0 20 x4 x7 Z2 N K g x5 x8 := by
  intro N
  induction N with
  | zero => intro K g x5 x8 _ _ _ _ h; exact h.elim
  | succ N ih =>
    intro K g x5 x8 hf h20 h23 hF
    have hb1 := hF.1
    refine x_M_number0_128 (fI_ite (fun h => ?_) (fun h => ?_))
    · rw [zle_lt] at h
      have e : (x7 + x4).toInt = x7.toInt + x4.toInt := zadd1 (by omega) (by omega)
      exact fI_ex (fun N => nm_170 (J0 := J0) fin (K := zu K 25 (x7 + x4)) (g := g) (n := x7.toInt) (zfr_zu (by decide) hf) h20 h23 (nmF_x hF h) hV0 e s0 s1 N x7 (by omega) (Int.le_refl _) (fun j a b => by omega))
    · rw [zle_lt] at h
      have h : ¬ x8.toInt < 0 := h
      have hy := nmF_b hF hV0
      exact fI_and (fun _ => ih K _ _ _ hf h20 h23 (nmF_s hF h (zl_m10 hy) (zl_d10 hy) (by rw [zadd1] <;> simp only [Int32.reduceToInt] <;> omega)))
theorem nm_101 {I0 : Nat → Int32} {J0 : Nat → Int64} {x4 : Int32} {V : Int} {NG : Int → Prop} {Z1 Z2 : (Nat → Int32) × (Nat → Int32) → Prop} (fin : ∀ (K g : Nat → Int32), zfr [0, 20, 23, 24, 25] I0 K → (K 20).toInt = 0 → NG (K 23).toInt → vR V x4.toInt g (K 24).toInt (K 25).toInt → ((K 24).toInt = 0 → (K 25).toInt = 0) → Z1 (K, g) → Z2 (K, g)) (hV0 : 0 ≤ V) (hV1 : V < 100000000000000000) (s0 : -350 ≤ x4.toInt) (s1 : x4.toInt ≤ 300) {K g : Nat → Int32} {x5 : Int64} (hf : zfr [0, 20, 23, 24, 25] I0 K) (h20 : (K 20).toInt = 0) (h23 : NG (K 23).toInt) (h5 : x5.toInt = V) : ∀ (N : Nat) (x7 : Int32) (x8 : Int64), nmC0 V x7.toInt x8.toInt → v_M_number0_101 K J0 20 g x4 x5 Z1 N x7 x8 → v_M_number0_101 K J0 20 g x4 x5 Z2 N x7 x8 := by
  intro N
  induction N with
  | zero => intro x7 x8 _ h; exact h.elim
  | succ N ih =>
    intro x7 x8 hC
    have hcb := hC.1
    refine x_M_number0_101 (fI_ite (fun h => ?_) (fun h => ?_))
    · rw [zl_le] at h
      simp only [Int64.reduceToInt] at h
      exact fI_ex (fun N => nm_128 (J0 := J0) fin hV0 s0 s1 x7 N K g x5 _ hf h20 h23 (nmF_i hC hV0 h (by rw [zsub1] <;> simp only [Int32.reduceToInt] <;> omega) h5))
    · rw [zl_le] at h
      simp only [Int64.reduceToInt] at h
      exact ih _ _ (nmC0_s hC hV1 h (by rw [zadd1] <;> simp only [Int32.reduceToInt] <;> omega) (zl_d10 (nmC0_b hC hV0)))
theorem nm_86 {I0 : Nat → Int32} {J0 : Nat → Int64} {x4 : Int32} {V : Int} {NG : Int → Prop} {Z1 Z2 : (Nat → Int32) × (Nat → Int32) → Prop} (fin : ∀ (K g : Nat → Int32), zfr [0, 20, 23, 24, 25] I0 K → (K 20).toInt = 0 → NG (K 23).toInt → vR V x4.toInt g (K 24).toInt (K 25).toInt → ((K 24).toInt = 0 → (K 25).toInt = 0) → Z1 (K, g) → Z2 (K, g)) (hV0 : 0 ≤ V) (hV1 : V < 100000000000000000) (s0 : -350 ≤ x4.toInt) (s1 : x4.toInt ≤ 300) {K g : Nat → Int32} {x5 : Int64} {q : Int32} (hf : zfr [0, 20, 23, 24, 25] I0 K) (h20 : (K 20).toInt = 0) (h23 : NG q.toInt) (h5 : x5.toInt = V) : v_M_number0_86 K J0 20 g x4 x5 q Z1 → v_M_number0_86 K J0 20 g x4 x5 q Z2 :=
  x_M_number0_86 (fI_and (fun _ => fI_ex (fun N => nm_101 (J0 := J0) fin hV0 hV1 s0 s1 (K := zu (zu K 23 q) 24 0) (g := g) (zfr_zu (by decide) (zfr_zu (by decide) hf)) h20 h23 h5 N 0 x5 (nmC0_i (by decide) h5))))
