/-! the code of the reference, read -/
def secX (K A B Q : Nat → Int32) (a n k : Int) (L : List (Int × Int)) (pc : Int) : Prop := fR (rvs K A B Q a n) = exR L ∧ (k = 0 ∨ rOk k (rvs K A B Q a n)) ∧ c7 (rvs K A B Q a n) = pc
theorem secX_g {K A B Q K2 A2 B2 Q2 : Nat → Int32} {a n k pc : Int} {L : List (Int × Int)} (h : secX K A B Q a n k L pc) (e : ∀ R, rvs K A B Q a n = R → rvs K2 A2 B2 Q2 a n = R) : secX K2 A2 B2 Q2 a n k L pc := by
  unfold secX
  rw [e _ rfl]; exact h
def rdS (f : Nat → Int32) (e i m : Int) (s : Nat) (o : Int) (S D E K A B Q : Nat → Int32) : Prop := ∀ k : Nat, (k : Int) < i → ∃ (L : List (Int × Int)) (pc a n : Int), kLs f e k (S (s + k)).toInt L pc ∧ ((D (s + k)).toInt = o + a ∧ (E (s + k)).toInt = o + n) ∧ (0 ≤ a ∧ a ≤ n ∧ n ≤ m) ∧ secX K A B Q (o + a) (o + n) (S (s + k)).toInt L pc
theorem rv_sh {K A B Q K2 A2 B2 Q2 : Nat → Int32} : ∀ (n i j : Nat), (∀ q : Nat, q < n → K2 (i + q) = K (j + q) ∧ A2 (i + q) = A (j + q) ∧ B2 (i + q) = B (j + q) ∧ Q2 (i + q) = Q (j + q)) → rv K2 A2 B2 Q2 i n = rv K A B Q j n
  | 0, _, _, _ => rfl
  | n + 1, i, j, h => by
    obtain ⟨a, b, c, d⟩ := h 0 (by omega)
    rw [Nat.add_zero, Nat.add_zero] at a b c d
    show ((K2 i).toInt, (A2 i).toInt, (B2 i).toInt, Q2 i) :: rv K2 A2 B2 Q2 (i + 1) n = ((K j).toInt, (A j).toInt, (B j).toInt, Q j) :: rv K A B Q (j + 1) n
    rw [a, b, c, d, rv_sh n (i + 1) (j + 1) (fun q hq => by have := h (q + 1) (by omega); rw [show i + 1 + q = i + (q + 1) by omega, show j + 1 + q = j + (q + 1) by omega]; exact this)]
section
variable {f1 : Nat → Int32} {J0 : Nat → Int64} {I0 f2 f3 f4 f9 F3 F4 F5 F6 F7 F8 F9 : Nat → Int32} {x1 : Int32} {e : Int} {n2 : Nat}
/-- the items move down -/
theorem gm_code209 {Z1 Z2 : Int32 → (Nat → Int32) × (Nat → Int32) × (Nat → Int32) × (Nat → Int32) × (Nat → Int32) × (Nat → Int32) × (Nat → Int32) × (Nat → Int32) × (Nat → Int32) → Prop} (h0 : 0 ≤ (I0 12).toInt ∧ (I0 12).toInt ≤ 64) (hB : ∀ g5 g6 g7 g8 : Nat → Int32, (∀ j : Nat, (j : Int) < (I0 12).toInt → g5 j = F5 (160 + j) ∧ g6 j = F6 (160 + j) ∧ g7 j = F7 (160 + j) ∧ g8 j = F8 (160 + j)) → Z1 (-1) (I0, f2, f3, f4, g5, g6, g7, g8, f9) → Z2 (-1) (I0, f2, f3, f4, g5, g6, g7, g8, f9)) :
    ∀ (N : Nat) (g5 g6 g7 g8 : Nat → Int32) (x : Int32), (0 ≤ x.toInt ∧ x.toInt ≤ (I0 12).toInt) → (∀ j : Nat, (j : Int) < x.toInt → g5 j = F5 (160 + j) ∧ g6 j = F6 (160 + j) ∧ g7 j = F7 (160 + j) ∧ g8 j = F8 (160 + j)) → (∀ j : Nat, 160 ≤ j → g5 j = F5 j ∧ g6 j = F6 j ∧ g7 j = F7 j ∧ g8 j = F8 j) → v_M_code_209 I0 J0 64 f1 n2 f2 10 f3 10 f4 320 320 320 320 10 f9 Z1 N g5 g6 g7 g8 x → v_M_code_209 I0 J0 64 f1 n2 f2 10 f3 10 f4 320 320 320 320 10 f9 Z2 N g5 g6 g7 g8 x := by
  intro N
  induction N with
  | zero => intro g5 g6 g7 g8 x _ _ _ h; exact h.elim
  | succ N ih =>
    intro g5 g6 g7 g8 x hx hl hh
    refine x_M_code_209 (fI_ite (fun c => hB g5 g6 g7 g8 (fun j hj => hl j (by rw [zle_le] at c; omega))) (fun c => fI_and (fun _ => fI_and (fun _ => fI_and (fun _ => fI_and (fun _ => fI_and (fun _ => fI_and (fun _ => fI_and (fun _ => fI_and (fun _ => ?_))))))))))
    rw [zle_le] at c
    have e1 : (x + 1).toInt = x.toInt + 1 := zadd1 (by simp only [Int32.reduceToInt]; omega) (by simp only [Int32.reduceToInt]; omega)
    have e2 : (160 + x).toNatClampNeg = 160 + x.toInt.toNat := by
      rw [zcl, zadd1 (by simp only [Int32.reduceToInt]; omega) (by simp only [Int32.reduceToInt]; omega)]; simp only [Int32.reduceToInt]; omega
    have e3 : x.toNatClampNeg = x.toInt.toNat := zcl x
    have hq := hh (160 + x.toInt.toNat) (by omega)
    rw [e2]
    refine ih _ _ _ _ (x + 1) (by omega) (fun j hj => ?_) (fun j hj => ?_)
    · by_cases y : j = x.toInt.toNat
      · subst y
        rw [e3, pk_us, pk_us, pk_us, pk_us]; exact hq
      · rw [pk_un (by rw [e3]; exact y), pk_un (by rw [e3]; exact y), pk_un (by rw [e3]; exact y), pk_un (by rw [e3]; exact y)]
        exact hl j (by omega)
    · rw [pk_un (by rw [e3]; omega), pk_un (by rw [e3]; omega), pk_un (by rw [e3]; omega), pk_un (by rw [e3]; omega)]
      exact hh j hj
end
