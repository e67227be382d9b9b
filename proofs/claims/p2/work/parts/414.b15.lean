/-! the bytes of a word, the highest first: how many are not 0, and whether one is bad -/
def ybM (w k : Int32) : Int := ((w >>> (k &&& 31)) &&& (255 : Int32)).toInt
theorem ybM_bd (w k : Int32) : 0 ≤ ybM w k ∧ ybM w k ≤ 255 := zand255 _
def ycB (B : Int32 → Int) : Nat → Int
  | 0 => 0
  | i + 1 => ycB B i + (if B (nI (24 - 8 * i)) = 0 then 0 else 1)
def ybB (B : Int32 → Int) : Nat → Int
  | 0 => 0
  | i + 1 => if ¬ B (nI (24 - 8 * i)) = 0 ∧ (B (nI (24 - 8 * i)) < 32 ∨ 126 < B (nI (24 - 8 * i))) then 1 else ybB B i
theorem ycB_le (B : Int32 → Int) : ∀ i : Nat, i < 4 → ycB B (i + 1) ≤ ycB B 4
  | 0, _ => by simp only [ycB]; split <;> split <;> split <;> split <;> omega
  | 1, _ => by simp only [ycB]; split <;> split <;> split <;> split <;> omega
  | 2, _ => by simp only [ycB]; split <;> split <;> split <;> split <;> omega
  | 3, _ => Int.le_refl _
  | n + 4, h => by omega
theorem ycB_bd (B : Int32 → Int) : ∀ i : Nat, 0 ≤ ycB B i ∧ ycB B i ≤ i
  | 0 => ⟨Int.le_refl _, Int.le_refl _⟩
  | i + 1 => by
    have := ycB_bd B i
    simp only [ycB]
    split <;> omega
theorem ybB_01 (B : Int32 → Int) : ∀ i : Nat, ybB B i = 0 ∨ ybB B i = 1
  | 0 => Or.inl rfl
  | i + 1 => by
    have := ybB_01 B i
    simp only [ybB]
    split <;> omega
theorem ybB_up (B : Int32 → Int) (i : Nat) : ybB B i = 1 → ybB B (i + 1) = 1 := fun h => by simp only [ybB]; split <;> omega
theorem ybX {x : Int32} {i : Nat} (h : x.toInt = 24 - 8 * (i : Int)) (hi : i ≤ 3) : x = nI (24 - 8 * i) := by
  rw [zle_eq, znI (by omega)]; omega
theorem ybM_s {w x : Int32} {i : Nat} (h : x.toInt = 24 - 8 * (i : Int)) (hi : i ≤ 3) : ycB (ybM w) (i + 1) = ycB (ybM w) i + (if ((w >>> (x &&& 31)) &&& (255 : Int32)).toInt = 0 then 0 else 1) ∧ ybB (ybM w) (i + 1) = (if ¬ ((w >>> (x &&& 31)) &&& (255 : Int32)).toInt = 0 ∧ (((w >>> (x &&& 31)) &&& (255 : Int32)).toInt < 32 ∨ 126 < ((w >>> (x &&& 31)) &&& (255 : Int32)).toInt) then 1 else ybB (ybM w) i) := by
  rw [ybX h hi]; exact ⟨rfl, rfl⟩
