/-! what a date puts for an item -/
def dvT (N s t hd k c : Int) : List Int :=
  if k = 23 then fig (if hd = 0 then s / 3600 else (s / 3600 + 11) % 12 + 1) c
  else if k = 24 then fig (s / 60 % 60) c else if k = 25 then fig (s % 60) c
  else if k = 26 then fig (N * 24 + s / 3600) c else if k = 27 then fig (N * 1440 + s / 60) c else if k = 28 then fig (N * 86400 + s) c
  else if k = 29 then [46] ++ fig (t / 10 ^ (3 - c).toNat) c
  else [if s / 3600 < 12 then 65 else 80] ++ (if c = 2 then [77] else [])
def dvD (y m d N k c : Int) : List Int :=
  if k = 20 then fig (if c = 2 then y % 100 else y) c
  else if 2 < c then nmC (if k = 21 then mnI m else wdI ((N + 6) % 7)) c else fig (if k = 21 then m else d) c
def dvE (y m d N s t hd k c : Int) : List Int := if k = 1 then [c] else if 23 ≤ k then dvT N s t hd k c else if 20 ≤ k then dvD y m d N k c else []
def drun (e : Int → Int → List Int) : List (Int × Int) → List Int
  | [] => []
  | p :: r => e p.1 p.2 ++ drun e r
theorem zl_dn {x y : Int64} {a b : Int} (hx : x.toInt = a) (hy : y.toInt = b) (h : 0 ≤ a) (hb : 1 ≤ b) : (x / y).toInt = a / b := by subst hx; subst hy; exact zl_divp h (by omega)
theorem zl_mn {x y : Int64} {a b : Int} (hx : x.toInt = a) (hy : y.toInt = b) (h : 0 ≤ a) (hb : 1 ≤ b) (h9 : b ≤ 1000000) : (x - x / y * y).toInt = a % b := by subst hx; subst hy; exact zl_rem h (by omega) (by omega)
theorem zl_an {x y : Int64} {a b : Int} (hx : x.toInt = a) (hy : y.toInt = b) (h0 : 0 ≤ a) (h1 : a ≤ 1000000000000000) (h2 : 0 ≤ b) (h3 : b ≤ 1000000000000000) : (x + y).toInt = a + b := by subst hx; subst hy; exact zl_add1 (by omega) (by omega)
theorem zl_xn {x y : Int64} {a b : Int} (hx : x.toInt = a) (hy : y.toInt = b) (h0 : 0 ≤ a * b) (h1 : a * b ≤ 1000000000000000) : (x * y).toInt = a * b := by subst hx; subst hy; exact zl_mul1 (by omega) (by omega)
theorem lk_24 : (24 : Int64).toInt = 24 := by simp only [Int64.reduceToInt]
theorem lk_60 : (60 : Int64).toInt = 60 := by simp only [Int64.reduceToInt]
theorem lk_11 : (11 : Int64).toInt = 11 := by simp only [Int64.reduceToInt]
theorem lk_12 : (12 : Int64).toInt = 12 := by simp only [Int64.reduceToInt]
theorem lk_1 : (1 : Int64).toInt = 1 := by simp only [Int64.reduceToInt]
theorem lk_6 : (6 : Int64).toInt = 6 := by simp only [Int64.reduceToInt]
theorem lk_7 : (7 : Int64).toInt = 7 := by simp only [Int64.reduceToInt]
theorem lk_3600 : (3600 : Int64).toInt = 3600 := by simp only [Int64.reduceToInt]
theorem lk_1440 : (1440 : Int64).toInt = 1440 := by simp only [Int64.reduceToInt]
theorem lk_86400 : (86400 : Int64).toInt = 86400 := by simp only [Int64.reduceToInt]
section
variable {x y : Int64} {N s : Int}
theorem tm_h (hy : y.toInt = s) (h0 : 0 ≤ s) : (y / 3600).toInt = s / 3600 := zl_dn hy lk_3600 h0 (by decide)
theorem tm_1 (hy : y.toInt = s) (h0 : 0 ≤ s) (h1 : s ≤ 86400) : (((y / 3600 + 11) - (y / 3600 + 11) / 12 * 12) + 1).toInt = (s / 3600 + 11) % 12 + 1 := by
  have a := tm_h hy h0
  generalize y / 3600 = h at *
  have b := zl_an a lk_11 (by omega) (by omega) (by omega) (by omega)
  generalize h + 11 = g at *
  have c := zl_mn b lk_12 (by omega) (by decide) (by decide)
  generalize g - g / 12 * 12 = f at *
  exact zl_an c lk_1 (by omega) (by omega) (by omega) (by omega)
theorem tm_2 (hy : y.toInt = s) (h0 : 0 ≤ s) : (y / 60 - y / 60 / 60 * 60).toInt = s / 60 % 60 := zl_mn (zl_dn hy lk_60 h0 (by decide)) lk_60 (by omega) (by decide) (by decide)
theorem tm_3 (hy : y.toInt = s) (h0 : 0 ≤ s) : (y - y / 60 * 60).toInt = s % 60 := zl_mn hy lk_60 h0 (by decide) (by decide)
theorem tm_4 (hx : x.toInt = N) (hy : y.toInt = s) (n0 : 0 ≤ N) (n1 : N ≤ 3000000) (h0 : 0 ≤ s) (h1 : s ≤ 86400) : (x * 24 + y / 3600).toInt = N * 24 + s / 3600 := zl_an (zl_xn hx lk_24 (by omega) (by omega)) (tm_h hy h0) (by omega) (by omega) (by omega) (by omega)
theorem tm_5 (hx : x.toInt = N) (hy : y.toInt = s) (n0 : 0 ≤ N) (n1 : N ≤ 3000000) (h0 : 0 ≤ s) (h1 : s ≤ 86400) : (x * 1440 + y / 60).toInt = N * 1440 + s / 60 := zl_an (zl_xn hx lk_1440 (by omega) (by omega)) (zl_dn hy lk_60 h0 (by decide)) (by omega) (by omega) (by omega) (by omega)
theorem tm_6 (hx : x.toInt = N) (hy : y.toInt = s) (n0 : 0 ≤ N) (n1 : N ≤ 3000000) (h0 : 0 ≤ s) (h1 : s ≤ 86400) : (x * 86400 + y).toInt = N * 86400 + s := zl_an (zl_xn hx lk_86400 (by omega) (by omega)) hy (by omega) (by omega) (by omega) (by omega)
theorem tm_7 (hx : x.toInt = N) (n0 : 0 ≤ N) (n1 : N ≤ 3000000) : (((x + 6) - (x + 6) / 7 * 7).toInt32).toInt = (N + 6) % 7 := by
  have a := zl_an hx lk_6 (by omega) (by omega) (by omega) (by omega)
  generalize x + 6 = g at *
  have c := zl_mn a lk_7 (by omega) (by decide) (by decide)
  rw [zl_i32 (by omega) (by omega), c]
end
section
variable {N s t hd k c : Int}
theorem dvT_23a (hk : k = 23) (h : hd = 0) : fig (s / 3600) c = dvT N s t hd k c := by unfold dvT; rw [if_pos hk, if_pos h]
theorem dvT_23b (hk : k = 23) (h : ¬ hd = 0) : fig ((s / 3600 + 11) % 12 + 1) c = dvT N s t hd k c := by unfold dvT; rw [if_pos hk, if_neg h]
theorem dvT_24 (hk : k = 24) : fig (s / 60 % 60) c = dvT N s t hd k c := by subst hk; rfl
theorem dvT_25 (hk : k = 25) : fig (s % 60) c = dvT N s t hd k c := by subst hk; rfl
theorem dvT_26 (hk : k = 26) : fig (N * 24 + s / 3600) c = dvT N s t hd k c := by subst hk; rfl
theorem dvT_27 (hk : k = 27) : fig (N * 1440 + s / 60) c = dvT N s t hd k c := by subst hk; rfl
theorem dvT_28 (hk : k = 28) : fig (N * 86400 + s) c = dvT N s t hd k c := by subst hk; rfl
theorem dvT_29 {v : Int} (hk : k = 29) (hv : v = t / 10 ^ (3 - c).toNat) : [46] ++ fig v c = dvT N s t hd k c := by subst hk; subst hv; rfl
theorem dvT_30 {X : List Int} (h1 : hN k 23) (h2 : hN k 24) (h3 : hN k 25) (h4 : hN k 26) (h5 : hN k 27) (h6 : hN k 28) (h7 : hN k 29) (hX : X = [if s / 3600 < 12 then 65 else 80] ++ (if c = 2 then [77] else [])) : X = dvT N s t hd k c := by
  unfold dvT; rw [if_neg h1, if_neg h2, if_neg h3, if_neg h4, if_neg h5, if_neg h6, if_neg h7, hX]
end
theorem dv_30 {s c a : Int} (h : (s / 3600 < 12 ∧ a = 65) ∨ (¬ s / 3600 < 12 ∧ a = 80)) (hc : ¬ c = 2) : [a] = [if s / 3600 < 12 then (65 : Int) else 80] ++ (if c = 2 then [(77 : Int)] else []) := by
  rw [if_neg hc]
  rcases h with ⟨p, q⟩ | ⟨p, q⟩
  · rw [if_pos p, q]; rfl
  · rw [if_neg p, q]; rfl
theorem dv_31 {s c a : Int} (h : (s / 3600 < 12 ∧ a = 65) ∨ (¬ s / 3600 < 12 ∧ a = 80)) (hc : c = 2) : [a] ++ [77] = [if s / 3600 < 12 then (65 : Int) else 80] ++ (if c = 2 then [(77 : Int)] else []) := by
  rw [if_pos hc]
  rcases h with ⟨p, q⟩ | ⟨p, q⟩
  · rw [if_pos p, q]
  · rw [if_neg p, q]
section
variable {y m d N k c : Int}
theorem dvD_1 (hk : k = 20) (h : c = 2) : fig (y % 100) c = dvD y m d N k c := by unfold dvD; rw [if_pos hk, if_pos h]
theorem dvD_2 (hk : k = 20) (h : ¬ c = 2) : fig y c = dvD y m d N k c := by unfold dvD; rw [if_pos hk, if_neg h]
theorem dvD_3 (h0 : ¬ k = 20) (hk : k = 21) (h : ¬ 2 < c) : fig m c = dvD y m d N k c := by unfold dvD; rw [if_neg h0, if_neg h, if_pos hk]
theorem dvD_4 (h0 : ¬ k = 20) (hk : ¬ k = 21) (h : ¬ 2 < c) : fig d c = dvD y m d N k c := by unfold dvD; rw [if_neg h0, if_neg h, if_neg hk]
theorem dvD_5 {i : Nat} (h0 : ¬ k = 20) (hk : k = 21) (h : 2 < c) (hi : i = mnI m) : nmC i c = dvD y m d N k c := by unfold dvD; rw [if_neg h0, if_pos h, if_pos hk, hi]
theorem dvD_6 {i : Nat} {w : Int} (h0 : ¬ k = 20) (hk : ¬ k = 21) (h : 2 < c) (hi : i = wdI w) (hw : w = (N + 6) % 7) : nmC i c = dvD y m d N k c := by unfold dvD; rw [if_neg h0, if_pos h, if_neg hk, hi, hw]
end
theorem mnI_b {m : Int} : 13 ≤ mnI m ∧ mnI m ≤ 24 := by unfold mnI; (repeat' split) <;> omega
theorem wdI_b {m : Int} : 25 ≤ wdI m ∧ wdI m ≤ 31 := by unfold wdI; (repeat' split) <;> omega
theorem zsb_ok : ∀ i : Fin 32, 13 ≤ i.1 → ∀ j : Fin 10, j.1 < zsn i.1 → 0 ≤ (zsb i.1 j.1).toInt ∧ (zsb i.1 j.1).toInt < 256 := by decide
theorem zsn_ok : ∀ i : Fin 32, 13 ≤ i.1 → i.1 < nZS ∧ zsn i.1 ≤ 10 := by decide
theorem nm_ok {i : Nat} (h0 : 13 ≤ i) (h1 : i ≤ 31) : i < nZS ∧ ∀ j : Nat, j < zsn i → 0 ≤ (zsb i j).toInt ∧ (zsb i j).toInt < 256 := by
  have a := zsn_ok ⟨i, by omega⟩ h0
  exact ⟨a.1, fun j hj => zsb_ok ⟨i, by omega⟩ h0 ⟨j, by have := a.2; simp only at this; omega⟩ hj⟩
theorem t10_d {x r : Int} (h : ((0 ≤ 3 - x ∧ 3 - x ≤ 18) ∧ r = 10 ^ (3 - x).toNat) ∨ (¬ (0 ≤ 3 - x ∧ 3 - x ≤ 18) ∧ r = 1)) (h0 : 0 ≤ x) : r = 10 ^ (3 - x).toNat := by
  rcases h with ⟨_, b⟩ | ⟨a, b⟩
  · exact b
  · rw [b, show (3 - x).toNat = 0 by omega]; rfl
theorem dvt_30 {s hh t N hd k c a : Int} (h1 : hN k 23) (h2 : hN k 24) (h3 : hN k 25) (h4 : hN k 26) (h5 : hN k 27) (h6 : hN k 28) (h7 : hN k 29) (hh3 : hh = s / 3600) (h : (hh < 12 ∧ a = 65) ∨ (¬ hh < 12 ∧ a = 80)) (hc : ¬ c = 2) : [a] = dvT N s t hd k c := by
  subst hh3; exact dvT_30 h1 h2 h3 h4 h5 h6 h7 (dv_30 h hc)
theorem dvt_31 {s hh t N hd k c a : Int} (h1 : hN k 23) (h2 : hN k 24) (h3 : hN k 25) (h4 : hN k 26) (h5 : hN k 27) (h6 : hN k 28) (h7 : hN k 29) (hh3 : hh = s / 3600) (h : (hh < 12 ∧ a = 65) ∨ (¬ hh < 12 ∧ a = 80)) (hc : c = 2) : [a] ++ [77] = dvT N s t hd k c := by
  subst hh3; exact dvT_30 h1 h2 h3 h4 h5 h6 h7 (dv_31 h hc)
theorem mnI_k (m : Int) : 13 ≤ mnI m ∧ mnI m ≤ 31 := by have := mnI_b (m := m); omega
theorem wdI_k (m : Int) : 13 ≤ wdI m ∧ wdI m ≤ 31 := by have := wdI_b (m := m); omega
