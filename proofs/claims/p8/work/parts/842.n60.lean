/-! a date's items put, of the class -/
theorem dd_lp {B : Nat → (((Nat → Int32) × (Nat → Int64) × (Nat → Int64) × (Nat → Int32) × (Nat → Int64) × (Nat → Int32) × Nat × (Nat → Int32) → Prop) → Prop) → Prop} {I0 : Nat → Int32} {J0 J1 : Nat → Int64} {I2 : Nat → Int32} {J2 : Nat → Int64} {I3 : Nat → Int32} {J3 : Nat → Int64} {I6 I7 f8 f9 : Nat → Int32} {c : Nat} {f : Nat → Int32} {n : Int} {T : List Int} (hws : wsO I6 f8 f9 (I7 4).toInt)
    (hJ : 0 ≤ (J0 1).toInt ∧ (J0 1).toInt ≤ 3000000 ∧ 0 ≤ (J0 2).toInt ∧ (J0 2).toInt ≤ 86400 ∧ 0 ≤ (J0 3).toInt ∧ (J0 3).toInt ≤ 1000) (hI : 0 ≤ (I0 4).toInt ∧ 0 ≤ (I0 5).toInt ∧ 0 ≤ (I0 6).toInt)
    (hB : ∀ (K : Nat → Int32) (m : Nat) (g : Nat → Int32), qR m g → pC c f n m g (K 1).toInt T → qN m B (fun NF Z => m = NF ∧ Z (I0, J0, J1, I3, J3, K, m, g))) :
    ∀ (N : Nat) (K : Nat → Int32) (m : Nat) (g : Nat → Int32) (x : Int32), qR m g → (I6 1).toInt ≤ x.toInt → x.toInt ≤ (I6 2).toInt → dG c f n m g (K 1).toInt (dvE (I0 4).toInt (I0 5).toInt (I0 6).toInt (J0 1).toInt (J0 2).toInt (J0 3).toInt (I6 14).toInt) (cs f8 f9 x.toInt (I6 2).toInt) T → ((I6 2).toInt - x.toInt).toNat < N → qN m B (fun NF Z => v_DateDresser_dress_78 I0 J0 J1 I2 J2 I3 J3 I6 I7 64 f8 64 f9 NF Z N K m g x) := by
  have hwb := wsO_b hws
  intro N
  induction N with
  | zero => intro K m g x _ _ _ _ h; exact absurd h (Nat.not_lt_zero _)
  | succ N ih =>
    intro K m g x hR hx0 hx2 hX hN
    refine w_DateDresser_dress_78 (qN_ite (fun h0 => ?_) (fun h0 => ?_))
    · rw [zle_le] at h0
      exact hB K m g hR (dG_x hX (cs_x h0))
    rw [zle_le] at h0
    have hx1 : (x + 1).toInt = x.toInt + 1 := zadd1 (by simp only [Int32.reduceToInt]; omega) (by simp only [Int32.reduceToInt]; omega)
    have ih2 := fun (K : Nat → Int32) (m : Nat) (g : Nat → Int32) (a : qR m g) b => ih K m g (x + 1) a (by omega) (by omega) b (by omega)
    refine cn_Code_kind True.intro (fun r hk => ?_)
    have hk := (hk.resolve_left (fun q => q.1 ⟨by omega, by omega, by omega⟩)).2
    rw [cs_s (by omega) (by omega) hx1 hk rfl] at hX
    have hmb := dG_m hX
    refine w_DateDresser_dress_93 (qN_ite' (fun h1 => ?_) (fun h1 => ?_))
    · simp only [zle_eq, Int32.reduceToInt] at h1
      refine qN_ite (fun h2 => ?_) (fun h2 => ?_)
      · simp only [zle_lt, Int32.reduceToInt] at h2
        refine qN_ite (fun h3 => ?_) (fun h3 => ?_)
        · simp only [zle_lt, Int32.reduceToInt] at h3
          exact w_DateDresser_dress_164 (ih2 K m g hR (dG_n hX (dvE_n h1 h3)))
        · simp only [zle_lt, Int32.reduceToInt] at h3
          refine cn_Code_mark True.intro (fun r2 hm => ?_)
          have hm := (hm.resolve_left (fun q => q.1 ⟨by omega, by omega, by omega⟩)).2
          rw [← hm] at hX hmb
          exact w_DateDresser_dress_159 (cn_DateDresser_putDay ⟨hR, hJ.1, hJ.2.1, hI⟩ (fun gI gn gf hn h5 => w_DateDresser_dress_164 (ih2 gI gn gf h5.1 (dG_s hX h5.2 (dvE_d h2 h3)))))
      · simp only [zle_lt, Int32.reduceToInt] at h2
        refine cn_Code_mark True.intro (fun r2 hm => ?_)
        have hm := (hm.resolve_left (fun q => q.1 ⟨by omega, by omega, by omega⟩)).2
        rw [← hm] at hX hmb
        exact w_DateDresser_dress_131 (cn_DateDresser_putTime ⟨hR, hJ.1, hJ.2.1, hJ.2.2.1, hJ.2.2.2.1, hJ.2.2.2.2.1, hJ.2.2.2.2.2, hmb⟩ (fun gI gn gf hn h5 => w_DateDresser_dress_140 (w_DateDresser_dress_164 (ih2 gI gn gf h5.1 (dG_s hX h5.2 (dvE_t h2))))))
    · simp only [zle_eq, Int32.reduceToInt] at h1
      refine cn_Code_mark True.intro (fun r2 hm => ?_)
      have hm := (hm.resolve_left (fun q => q.1 ⟨by omega, by omega, by omega⟩)).2
      rw [← hm] at hX hmb
      exact w_DateDresser_dress_109 (cn_Look_put hR (fun gI gn gf hn h5 => w_DateDresser_dress_112 (w_DateDresser_dress_164 (ih2 gI gn gf h5.1 (dG_s hX (pCc_a h5.2 hmb.1 hmb.2) (dvE_1 h1))))))
theorem k35 : (35 : Int32).toInt = 35 := by decide
theorem pC_35 {c d : Nat} {f g : Nat → Int32} {n m : Int} (h : pCc c f n d g m (35 : Int32).toInt) : pC c f n d g m [35] := by
  have := pCc_a h (by decide) (by decide)
  rw [k35] at this
  exact this
