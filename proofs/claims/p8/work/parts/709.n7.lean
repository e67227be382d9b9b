/-- all digits from place q down to 0 are 0 -/
def dz (M q : Int) : Prop := ∀ j : Int, 0 ≤ j → j ≤ q → dgt M j = 0
theorem dz_e {M q : Int} (h : q < 0) : dz M q := fun j h0 h1 => by omega
theorem dz_no {M q p : Int} (h0 : 0 ≤ p) (hp : p ≤ q) (h : ¬ dgt M p = 0) : ¬ dz M q := fun c => h (c p h0 hp)
theorem dz_st {M q p : Int} (h : ∀ j : Int, p < j → j ≤ q → dgt M j = 0) (hp : dgt M p = 0) {r : Int} (hr : r = p - 1) : ∀ j : Int, r < j → j ≤ q → dgt M j = 0 := fun j h0 h1 => by
  by_cases c : j = p
  · rw [c]; exact hp
  · exact h j (by omega) h1
theorem dz_y {M q p : Int} (h : ∀ j : Int, p < j → j ≤ q → dgt M j = 0) (hp : p < 0) : dz M q := fun j h0 h1 => h j (by omega) h1
theorem dz_0 {M q p : Int} (hp : p = q) : ∀ j : Int, p < j → j ≤ q → dgt M j = 0 := fun j h0 h1 => by omega
