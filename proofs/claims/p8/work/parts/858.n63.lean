/-! what the reference shows of a value by a section -/
theorem pR_L {f g : Nat → Int32} {m n : Int} {X : List Int} (h : pR f n g m X) (hn : n = 0) : lkR g m X := by
  subst hn
  exact h [] ⟨rfl, fun i hi => absurd hi (Nat.not_lt_zero _)⟩
theorem dnc_ex0 {M : Int} (h0 : 0 ≤ M) : ∀ k : Nat, M < 10 ^ k → ∃ n : Int, dnc M n
  | 0, h => ⟨0, Or.inl ⟨by have h : M < 1 := h; omega, rfl⟩⟩
  | k + 1, h => by
    by_cases c : M < 10 ^ k
    · exact dnc_ex0 h0 k c
    · have p := p10 k
      refine ⟨(k : Int) + 1, Or.inr ⟨by omega, by omega, ?_, ?_⟩⟩
      · rw [show ((k : Int) + 1 - 1).toNat = k by omega]; omega
      · rw [show ((k : Int) + 1).toNat = k + 1 by omega]; exact h
theorem p10_big : ∀ n : Nat, (n : Int) < 10 ^ n
  | 0 => by decide
  | n + 1 => by
    have := p10_big n
    rw [Int.pow_succ]; omega
theorem dnc_ex {M : Int} (h0 : 0 ≤ M) : ∃ n : Int, dnc M n := dnc_ex0 h0 M.toNat (by have := p10_big M.toNat; omega)
theorem rdM_p {v p d : Int} (h0 : 0 ≤ v) : 0 ≤ rdM v p d := by
  unfold rdM
  split
  · exact Int.mul_nonneg h0 (Int.le_of_lt (p10 _))
  split
  · exact Int.le_refl _
  · unfold rnd
    have a := Int.ediv_nonneg h0 (Int.le_of_lt (p10 ((-p - d - 1).toNat + 1)))
    split <;> omega
def rSec (k : Int) (K A B Q : Nat → Int32) (x e : Int) (g : Nat → Int32) (c p ng sx b : Int) (TX T : List Int) : Prop :=
  (k = 2 ∧ ∃ n : Int, dnc (rdM (dV g c.toNat) (p + (2 * zrem K 7 x e - 3 * zrem K 5 x e) - c) (zrem K 3 x e)) n ∧ T = nLk (rdM (dV g c.toNat) (p + (2 * zrem K 7 x e - 3 * zrem K 5 x e) - c) (zrem K 3 x e)) n (zrem K 3 x e) 0 b (rs K A B Q x e))
  ∨ (k = 3 ∧ ∃ n0 n : Int, dnc (rdM (dV g c.toNat) (p + -(pE c p (pW (zrem K 2 x e))) - c) (zrem K 3 x e)) n0 ∧ dnc (rdM (dV g c.toNat) (p + -(pF c p (pW (zrem K 2 x e)) n0 (zrem K 3 x e)) - c) (zrem K 3 x e)) n ∧ T = nLk (rdM (dV g c.toNat) (p + -(pF c p (pW (zrem K 2 x e)) n0 (zrem K 3 x e)) - c) (zrem K 3 x e)) n (zrem K 3 x e) (pF c p (pW (zrem K 2 x e)) n0 (zrem K 3 x e)) b (rs K A B Q x e))
  ∨ (k = 4 ∧ fcP (dV g c.toNat) (p - c) (cK 2 (rs K A B Q x e)) (cK 9 (rs K A B Q x e)) (gvF 0 (rs K A B Q x e)) (cK 11 (rs K A B Q x e)) b (rs K A B Q x e) T)
  ∨ (k = 5 ∧ rdP ng sx p (dV g c.toNat) (p - c) (pmA 0 (rs K A (fun _ => 0) (fun _ => 0) x e)) (hdR K x e) (rs K A B (fun _ => 0) x e) T)
  ∨ ((¬ k = 2 ∧ ¬ k = 3 ∧ ¬ k = 4 ∧ ¬ k = 5) ∧ T = wls K A TX x e)
def rscP (k : Int) (K A B Q : Nat → Int32) (x e : Int) : Prop := (0 ≤ x ∧ x ≤ e ∧ e ≤ 64) ∧ ((k = 2 ∨ k = 3) → pwo K B x e (cK 8 (rs K A B Q x e))) ∧ (k = 4 → stF K A B Q x e (cK 11 (rs K A B Q x e)) (gvF 0 (rs K A B Q x e))) ∧ (k = 5 → (0 ≤ pmA 0 (rs K A (fun _ => 0) (fun _ => 0) x e) ∧ pmA 0 (rs K A (fun _ => 0) (fun _ => 0) x e) ≤ 3) ∧ dtK K A B x e)
def gbR (ng sx b : Int) : Prop := (¬ ng = 0 ∧ ¬ sx = 1 ∧ b = 1) ∨ ((ng = 0 ∨ sx = 1) ∧ b = 0)
def nbR (ng sx b : Int) : Prop := (¬ ng = 0 ∧ sx = 0 ∧ b = 1) ∨ ((ng = 0 ∨ ¬ sx = 0) ∧ b = 0)
def rsP (n k0 k1 k2 it ng : Int) (sk si se K A B Q g : Nat → Int32) (c p : Int) (TX T : List Int) : Prop :=
  ∃ sx : Int, kTr n k0 k1 k2 it ng c sx ∧ ((sx = -1 ∧ ¬ it = 0 ∧ T = TX)
    ∨ (((sx = -1 ∧ it = 0) ∨ (0 ≤ sx ∧ (sk sx.toNat).toInt = 0)) ∧ ∃ (b : Int) (r : Nat → Int32) (m t : Int), gbR ng sx b ∧ tkO r g m c t p ∧ T = gnr r m t b)
    ∨ ((0 ≤ sx ∧ ¬ (sk sx.toNat).toInt = 0) ∧ ∃ b : Int, nbR ng sx b ∧ rSec (sk sx.toNat).toInt K A B Q (si sx.toNat).toInt (se sx.toNat).toInt g c p ng sx b TX T))
