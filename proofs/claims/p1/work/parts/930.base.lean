theorem mn_193 {I0 : Nat → Int32} {J0 : Nat → Int64} {n1 : Nat} {f1 : Nat → Int32} {x7 : Int32} {Z : (Nat → Int32) × (Nat → Int32) → Prop} (hZ : ∀ (I f : Nat → Int32), I 0 = I0 0 → Z (I, f)) : v_M_number0_193 I0 J0 n1 f1 x7 Z :=
  And.intro (fun _ => hZ _ _ rfl) (fun _ => hZ _ _ rfl)
theorem mn_170 {I0 : Nat → Int32} {J0 : Nat → Int64} {f1 : Nat → Int32} {Z : (Nat → Int32) × (Nat → Int32) → Prop} (hZ : ∀ (I f : Nat → Int32), I 0 = I0 0 → Z (I, f)) : ∀ k : Nat, k ≤ 20 → v_M_number0_170 I0 J0 20 f1 Z (k + 1) (nI k) := by
  intro k
  induction k with
  | zero => exact fun _ => And.intro (fun _ => mn_193 hZ) (fun c => absurd (by decide) c)
  | succ k ih =>
    intro h
    refine And.intro (fun c => absurd c (nI_nle (by omega) (by omega))) (fun _ => And.intro ?_ (And.intro (fun _ => mn_193 hZ) (fun _ => ?_)))
    · rw [nI_pred]
      exact nI_in (by omega) (by omega)
    · rw [pk_m1]
      exact ih (by omega)
theorem mn_128 {J0 : Nat → Int64} {x4 : Int32} {d : Nat} (hd : d ≤ 20) {Z : (Nat → Int32) × (Nat → Int32) → Prop} {t : Int32} (hZ : ∀ (I f : Nat → Int32), I 0 = t → Z (I, f)) : ∀ (k : Nat) (I0 f1 : Nat → Int32) (x5 : Int64), k ≤ 20 → I0 0 = t → v_M_number0_128 J0 20 x4 (nI d) Z (k + 1) I0 f1 x5 (nI k - 1) := by
  intro k
  induction k with
  | zero => exact fun I0 f1 x5 _ e => And.intro (fun _ => Exists.intro (d + 1) (mn_170 (I0 := zu I0 25 (nI d + x4)) (fun I f h => hZ I f (h.trans (by exact e))) d hd)) (fun c => absurd (by decide) c)
  | succ k ih =>
    intro I0 f1 x5 h e
    rw [nI_pred]
    refine And.intro (fun c => absurd c (nI_pos (by omega))) (fun _ => And.intro (nI_in (by omega) (by omega)) ?_)
    have e1 : nI k + (-1) = nI k - 1 := (Int32.sub_eq_add_neg (nI k) 1).symm
    rw [e1]
    exact ih I0 _ _ (by omega) e
theorem mn_101 {I0 : Nat → Int32} {J0 : Nat → Int64} {f1 : Nat → Int32} {x4 : Int32} {x5 : Int64} {Z : (Nat → Int32) × (Nat → Int32) → Prop} (hZ : ∀ (I f : Nat → Int32), I 0 = I0 0 → Z (I, f)) : ∀ (k a j : Nat), a < 10 ^ k → k + j ≤ 18 → v_M_number0_101 I0 J0 20 f1 x4 x5 Z (k + 1) (nI j) (lN a) := by
  intro k
  induction k with
  | zero =>
    intro a j ha hj
    have e : a = 0 := by simpa using ha
    subst e
    exact And.intro (fun _ => Exists.intro (j + 1) (mn_128 (by omega) hZ j I0 f1 x5 (by omega) rfl)) (fun c => absurd (by decide) c)
  | succ k ih =>
    intro a j ha hj
    have h18 : (10 : Nat) ^ (k + 1) ≤ 10 ^ 18 := Nat.pow_le_pow_right (by omega) (by omega)
    have hb : a < 2 ^ 63 := by omega
    refine And.intro (fun _ => Exists.intro (j + 1) (mn_128 (by omega) hZ j I0 f1 x5 (by omega) rfl)) (fun _ => ?_)
    have e1 : lN a / (10 : Int64) = lN (a / 10) := pk_lDiv (b := 10) hb (by omega) (by omega)
    rw [nI_1, e1]
    exact ih (a / 10) (j + 1) (by rw [Nat.pow_succ] at ha; omega) (by omega)
theorem mn_0 {I0 : Nat → Int32} {J0 : Nat → Int64} {f1 : Nat → Int32} {x1 x2 x3 x4 : Int32} {Z : (Nat → Int32) × (Nat → Int32) → Prop} (a1 : ¬ x2 < 0) (a2 : ¬ (99999999 : Int32) < x2) (a3 : ¬ x3 < 0) (a4 : ¬ (999999999 : Int32) < x3) (a5 : ¬ x4 < (-350 : Int32)) (a6 : x4 ≤ (300 : Int32)) (hZ : ∀ (I f : Nat → Int32), I 0 = 0 → Z (I, f)) : v_M_number0_0 I0 J0 20 f1 x1 x2 x3 x4 Z := by
  refine And.intro (fun c => absurd c a1) (fun _ => And.intro (fun c => absurd c a2) (fun _ => And.intro (fun c => absurd c a3) (fun _ => And.intro (fun c => absurd c a4) (fun _ => And.intro (fun c => absurd c a5) (fun _ => And.intro (fun _ => ?_) (fun c => absurd a6 c))))))
  refine And.intro (fun _ y hy => ?_) (fun c => absurd (by decide) c)
  obtain ⟨a, ha, rfl⟩ := nI_of2 (n := 99999999) (M := 99999999) (by decide) a1 (Int32.not_lt.mp a2)
  obtain ⟨b, hb, rfl⟩ := nI_of2 (n := 999999999) (M := 999999999) (by decide) a3 (Int32.not_lt.mp a4)
  have e : y = lN (1000000000 * a + b) := by
    rw [hy, nI_l (by omega), nI_l (by omega), show (1000000000 : Int64) = lN 1000000000 from rfl, lN_mul, lN_add]
  have h17 : 1000000000 * a + b < 10 ^ 17 := by omega
  have go : ∀ (I : Nat → Int32) (s1 : Int32), I 0 = 0 → zb s1 → v_M_number0_86 I J0 20 f1 x4 y s1 Z := fun I s1 hI hs => And.intro hs (Exists.intro 18 (by
    rw [e]
    have q := mn_101 (I0 := zu (zu I 23 s1) 24 0) (J0 := J0) (f1 := f1) (x4 := x4) (x5 := lN (1000000000 * a + b)) (Z := Z) (fun I2 f h => hZ I2 f (h.trans (by exact hI))) 17 _ 0 h17 (by omega)
    rw [nI_0] at q
    exact q))
  refine And.intro (fun _ => go _ _ rfl (Or.inl rfl)) (fun _ => And.intro (fun _ => go _ _ rfl (Or.inl rfl)) (fun _ => go _ _ rfl (Or.inr rfl)))
theorem mn_bad {I0 : Nat → Int32} {J0 : Nat → Int64} {f1 : Nat → Int32} {x1 x2 x3 x4 : Int32} {Z : (Nat → Int32) × (Nat → Int32) → Prop} (b : ¬ (¬ x2 < 0 ∧ ¬ (99999999 : Int32) < x2 ∧ ¬ x3 < 0 ∧ ¬ (999999999 : Int32) < x3 ∧ ¬ x4 < (-350 : Int32) ∧ x4 ≤ (300 : Int32))) (hZ : ∀ (I f : Nat → Int32), I 0 = 1 → Z (I, f)) : v_M_number0_0 I0 J0 20 f1 x1 x2 x3 x4 Z := by
  have go : v_M_number0_37 I0 J0 20 f1 x1 x2 x3 x4 Z := And.intro (fun c => absurd c (by decide)) (fun _ => hZ _ _ rfl)
  exact And.intro (fun _ => go) (fun a1 => And.intro (fun _ => go) (fun a2 => And.intro (fun _ => go) (fun a3 => And.intro (fun _ => go) (fun a4 => And.intro (fun _ => go) (fun a5 => And.intro (fun a6 => absurd ⟨a1, a2, a3, a4, a5, a6⟩ b) (fun _ => go))))))
theorem nd_bad {I0 I1 : Nat → Int32} {J1 : Nat → Int64} {I2 : Nat → Int32} {x1 x2 x3 x4 : Int32} {Z : Unit → Prop} (b : ¬ (¬ x2 < 0 ∧ ¬ (99999999 : Int32) < x2 ∧ ¬ x3 < 0 ∧ ¬ (999999999 : Int32) < x3 ∧ ¬ x4 < (-350 : Int32) ∧ x4 ≤ (300 : Int32))) : v_ND_numberT1_0 I0 I1 J1 I2 x1 x2 x3 x4 Z :=
  And.intro (fun _ => True.intro) (fun a1 => And.intro (fun _ => True.intro) (fun a2 => And.intro (fun _ => True.intro) (fun a3 => And.intro (fun _ => True.intro) (fun a4 => And.intro (fun _ => True.intro) (fun a5 => And.intro (fun a6 => absurd ⟨a1, a2, a3, a4, a5, a6⟩ b) (fun _ => True.intro))))))
/-! a word's bytes, by both shifts -/
theorem zy_eq (w s : Int32) (k : Nat) (hk : k = 24 ∨ k = 16 ∨ k = 8 ∨ k = 0) (h1 : ((s &&& 31).toBitVec.smod 32).toNat = k) (h2 : ((s.toUInt32 &&& Int32.toUInt32 31).toBitVec % 32).toNat = k) : (w >>> (s &&& 31)) &&& (255 : Int32) = (w.toUInt32 >>> (s.toUInt32 &&& Int32.toUInt32 31)).toInt32 &&& (255 : Int32) := by
  have m : (255 : Int32).toBitVec.toNat = 2 ^ 8 - 1 := by decide
  rw [pk_and _ 8 m, pk_and _ 8 m, pk_ushr w s k h2]
  have a := pk_shr w (s &&& 31) k h1
  have n1 : w.toInt = w.toBitVec.toInt := rfl
  have n2 : (w >>> (s &&& 31)).toInt = (w >>> (s &&& 31)).toBitVec.toInt := rfl
  rw [n1, n2, Int.shiftRight_eq_div_pow, BitVec.toInt_eq_toNat_cond, BitVec.toInt_eq_toNat_cond] at a
  have l1 := w.toBitVec.isLt
  have l2 := (w >>> (s &&& 31)).toBitVec.isLt
  generalize (w >>> (s &&& 31)).toBitVec.toNat = A at a l2 ⊢
  generalize w.toBitVec.toNat = B at a l1 ⊢
  have e : A % 2 ^ 8 = B / 2 ^ k % 2 ^ 8 := by
    rcases hk with rfl | rfl | rfl | rfl <;> split at a <;> split at a <;> omega
  rw [e]
theorem zcls {c x m : Int32} (hm : m.toBitVec.toNat = 2 ^ 8 - 1) (hc : c = x &&& m) : c = 0 ∨ (¬ c = 0 ∧ ¬ c ≤ 0 ∧ (c < 32 ∨ (¬ c < 32 ∧ ¬ c ≤ 126))) ∨ (¬ c = 0 ∧ ¬ c ≤ 0 ∧ ¬ c < 32 ∧ c ≤ 126) := by
  obtain ⟨j, hj, e⟩ := pk_andE x 8 hm
  rw [hc, e]
  have h0 : (0 : Int32) = nI 0 := by decide
  have h32 : (32 : Int32) = nI 32 := by decide
  have h126 : (126 : Int32) = nI 126 := by decide
  have b1 := nI_eq (a := j) (b := 0) (by omega) (by omega)
  have b2 := nI_leI (a := j) (b := 0) (by omega) (by omega)
  have b3 := nI_ltI (a := j) (b := 32) (by omega) (by omega)
  have b4 := nI_leI (a := j) (b := 126) (by omega) (by omega)
  rw [h0, h32, h126, b1, b2, b3, b4]
  omega

