/-! places of a whole number: digit D p at place p, w digits in all -/
def plo (D : Int → Int) (w c t p : Int) : List Int := (if p < w then [48 + D p] else blk c) ++ (if ¬ t = 0 ∧ (p < w ∨ c = 48) ∧ 0 < p ∧ p % 3 = 0 then [44] else [])
def plr (D : Int → Int) (w c t b : Int) : Nat → List Int
  | 0 => []
  | k + 1 => plo D w c t (b + k) ++ plr D w c t b k
def pck (fst m : Int) : Nat := if fst = 0 then 1 else (if m < 1 then 1 else (m + 1).toNat)
/-- one of the places; the first one takes what is left over -/
def pls (D : Int → Int) (w c t b fst : Int) : List Int := plr D w c t b (pck fst (w - 1 - b))
theorem plo_c {D E : Int → Int} {w c t p : Int} (h0 : 0 ≤ p) (h : ∀ q : Int, 0 ≤ q → q < w → D q = E q) : plo D w c t p = plo E w c t p := by
  unfold plo
  by_cases k : p < w
  · rw [if_pos k, if_pos k, h p h0 k]
  · rw [if_neg k, if_neg k]
theorem plr_c {D E : Int → Int} {w c t b : Int} (h0 : 0 ≤ b) (h : ∀ q : Int, 0 ≤ q → q < w → D q = E q) : ∀ k : Nat, plr D w c t b k = plr E w c t b k
  | 0 => rfl
  | k + 1 => by
    show plo D w c t (b + k) ++ plr D w c t b k = plo E w c t (b + k) ++ plr E w c t b k
    rw [plr_c h0 h k, plo_c (by omega) h]
theorem pls_c {D E : Int → Int} {w c t b fst : Int} (h0 : 0 ≤ b) (h : ∀ q : Int, 0 ≤ q → q < w → D q = E q) : pls D w c t b fst = pls E w c t b fst := plr_c h0 h _
theorem plr_s {D : Int → Int} {w c t b x y : Int} {X : List Int} (hx : b ≤ x) (hy : y = x - 1) (e : plo D w c t x = X) : plr D w c t b (x - b + 1).toNat = X ++ plr D w c t b (y - b + 1).toNat := by
  subst hy
  rw [show (x - b + 1).toNat = (x - b).toNat + 1 by omega, show (x - 1 - b + 1).toNat = (x - b).toNat by omega]
  show plo D w c t (b + ((x - b).toNat : Nat)) ++ _ = _
  rw [show b + (((x - b).toNat : Nat) : Int) = x by omega, e]
theorem plr_n {D : Int → Int} {w c t b x y : Int} (hx : b ≤ x) (hy : y = x - 1) (e : plo D w c t x = []) : plr D w c t b (x - b + 1).toNat = plr D w c t b (y - b + 1).toNat := plr_s hx hy e
theorem plo_1 {D : Int → Int} {w c t p : Int} (h : p < w) (ht : t = 0 ∨ p ≤ 0 ∨ ¬ p % 3 = 0) : plo D w c t p = [48 + D p] := by
  unfold plo; rw [if_pos h, if_neg (by omega)]; rfl
theorem plo_2 {D : Int → Int} {w c t p : Int} (h : p < w) (ht : ¬ t = 0) (hp : 0 < p) (h3 : p % 3 = 0) : plo D w c t p = [48 + D p] ++ [44] := by
  unfold plo; rw [if_pos h, if_pos ⟨ht, Or.inl h, hp, h3⟩]
theorem plo_3 {D : Int → Int} {w c t p : Int} (h : ¬ p < w) (hc : c = 48) (ht : t = 0 ∨ p ≤ 0 ∨ ¬ p % 3 = 0) : plo D w c t p = [48] := by
  unfold plo; rw [if_neg h, if_neg (by omega), ← blk_a hc]; rfl
theorem plo_4 {D : Int → Int} {w c t p : Int} (h : ¬ p < w) (hc : c = 48) (ht : ¬ t = 0) (hp : 0 < p) (h3 : p % 3 = 0) : plo D w c t p = [48] ++ [44] := by
  unfold plo; rw [if_neg h, if_pos ⟨ht, Or.inr hc, hp, h3⟩, ← blk_a hc]
theorem plo_5 {D : Int → Int} {w c t p : Int} (h : ¬ p < w) (hc : ¬ c = 48) : plo D w c t p = blk c := by
  unfold plo; rw [if_neg h, if_neg (by omega), List.append_nil]
theorem plo_g1 {D : Int → Int} {w c t p r : Int} (hr : r = D p) (h : p < w ∨ (c = 48 ∧ D p = 0)) (ht : t = 0 ∨ p ≤ 0 ∨ ¬ p % 3 = 0) : plo D w c t p = [48 + r] := by
  subst hr
  by_cases k : p < w
  · exact plo_1 k ht
  · have h := h.resolve_left k
    rw [plo_3 k h.1 ht, h.2]; rfl
theorem plo_g2 {D : Int → Int} {w c t p r : Int} (hr : r = D p) (h : p < w ∨ (c = 48 ∧ D p = 0)) (ht : ¬ t = 0) (hp : ¬ p ≤ 0) (h3 : p % 3 = 0) : plo D w c t p = [48 + r] ++ [44] := by
  subst hr
  by_cases k : p < w
  · exact plo_2 k ht (by omega) h3
  · have h := h.resolve_left k
    rw [plo_4 k h.1 ht (by omega) h3, h.2]; rfl
theorem plo_g3 {D : Int → Int} {w c t p : Int} (h : ¬ p < w) (hc : ¬ c = 48) (hc : c = 63) : plo D w c t p = [32] := by rw [plo_5 h (by omega), ← blk_b hc]
theorem plo_g4 {D : Int → Int} {w c t p : Int} (h : ¬ p < w) (hc : ¬ c = 48) (hc2 : ¬ c = 63) : plo D w c t p = [] := by rw [plo_5 h hc, ← blk_n hc hc2]
theorem dgt_b {M q : Int} : 0 ≤ dgt M q ∧ dgt M q ≤ 9 := by unfold dgt; split <;> omega
theorem dgt_up {M n q : Int} (h : dnc M n) (hq : n ≤ q) : dgt M q = 0 := by
  unfold dgt
  split
  · rfl
  · rcases h with ⟨a, _⟩ | ⟨a, b, _, d⟩
    · rw [a, Int.zero_ediv]; rfl
    · have := p10_le (show n.toNat ≤ q.toNat by omega)
      rw [Int.ediv_eq_zero_of_lt (by omega) (by omega)]; rfl
/-- what a Digits holds: number, digits by place, how many whole ones -/
def dgN (I : Nat → Int32) (J : Nat → Int64) : Int := (J 0).toInt * 10 ^ (I 1).toInt.toNat
def dgD (I : Nat → Int32) (J : Nat → Int64) (p : Int) : Int := dgt (dgN I J) (p + (I 3).toInt)
def dgW (I : Nat → Int32) : Int := if (I 2).toInt ≤ (I 3).toInt then 0 else (I 2).toInt - (I 3).toInt
def dgO (I : Nat → Int32) (J : Nat → Int64) : Prop := dgM I J (dgN I J) (I 3).toInt ∧ 0 ≤ (I 3).toInt ∧ (I 3).toInt ≤ 64
theorem dgM_n {I : Nat → Int32} {J : Nat → Int64} {M d : Int} (h : dgM I J M d) : 0 ≤ (I 2).toInt ∧ (I 2).toInt ≤ 2018 := by
  obtain ⟨⟨a, b, c, e, _⟩, f, g⟩ := h
  rcases g with ⟨_, q⟩ | ⟨q1, q2, q3, q4⟩
  · omega
  · refine ⟨by omega, ?_⟩
    rcases Int.lt_or_le 2018 (I 2).toInt with k | k
    · have e18 : (10 : Int) ^ 18 = 1000000000000000000 := by decide
      have h1 := p10_le (show 18 + (I 1).toInt.toNat ≤ ((I 2).toInt - 1).toNat by omega)
      rw [Int.pow_add, e18] at h1
      have h2 : (J 0).toInt * 10 ^ (I 1).toInt.toNat < 1000000000000000000 * 10 ^ (I 1).toInt.toNat := Int.mul_lt_mul_of_pos_right b (p10 _)
      omega
    · exact k
theorem dgO_i {I : Nat → Int32} {J : Nat → Int64} {M d : Int} (h : dgM I J M d) (h0 : 0 ≤ d) (h1 : d ≤ 64) : dgO I J ∧ dgN I J = M := by
  have e : dgN I J = M := h.2.1
  have e3 : (I 3).toInt = d := h.1.2.2.2.2
  refine ⟨⟨?_, by omega, by omega⟩, e⟩
  rw [e, e3]; exact h
theorem dgO_b {I : Nat → Int32} {J : Nat → Int64} (h : dgO I J) : (0 ≤ (J 0).toInt ∧ (J 0).toInt < 1000000000000000000 ∧ 0 ≤ (I 1).toInt ∧ (I 1).toInt ≤ 2000 ∧ 0 ≤ (I 3).toInt ∧ (I 3).toInt ≤ 64) ∧ 0 ≤ (I 2).toInt ∧ (I 2).toInt ≤ 2018 := by
  have n := dgM_n h.1
  obtain ⟨⟨⟨a, b, c, e, _⟩, _⟩, f, g⟩ := h
  omega
theorem dgW_v {I : Nat → Int32} {r : Int} (h : (r = (I 2).toInt - (I 3).toInt ∧ 0 ≤ r) ∨ (r = 0 ∧ (I 2).toInt ≤ (I 3).toInt)) : dgW I = r := by
  unfold dgW; split <;> omega
theorem dgD_up {I : Nat → Int32} {J : Nat → Int64} (h : dgO I J) {p : Int} (h0 : 0 ≤ p) (hp : ¬ p < dgW I) : dgD I J p = 0 := by
  unfold dgD
  refine dgt_up h.1.2.2 ?_
  unfold dgW at hp
  split at hp <;> omega
theorem dgD_i {I : Nat → Int32} {J : Nat → Int64} {r p : Int} (h : r = dgt ((J 0).toInt * 10 ^ (I 1).toInt.toNat) (p + (I 3).toInt)) : r = dgD I J p := h
theorem dgD_b {I : Nat → Int32} {J : Nat → Int64} {p : Int} : 0 ≤ dgD I J p ∧ dgD I J p ≤ 9 := dgt_b
/-- a row's digits by place -/
def whD (f : Nat → Int32) (p : Int) : Int := (f p.toNat).toInt
theorem pls_0 {D : Int → Int} {w c t b x fst : Int} (hf : ¬ fst = 0) (hx : (w - 1 ≤ b ∧ x = b) ∨ (b < w - 1 ∧ x = w - 1)) : plr D w c t b (x - b + 1).toNat = pls D w c t b fst := by
  unfold pls pck
  rw [if_neg hf]
  split
  · rw [show (x - b + 1).toNat = 1 by omega]
  · rw [show x = w - 1 by omega]
theorem pls_1 {D : Int → Int} {w c t b x fst : Int} (hf : fst = 0) (hx : x = b) : plr D w c t b (x - b + 1).toNat = pls D w c t b fst := by
  unfold pls pck
  rw [if_pos hf, show (x - b + 1).toNat = 1 by omega]
theorem plr_x {D : Int → Int} {w c t b x : Int} (hx : x < b) : plr D w c t b (x - b + 1).toNat = [] := by rw [show (x - b + 1).toNat = 0 by omega]; rfl
theorem zrm {x y : Int32} (h : 0 ≤ x.toInt) (hy : 1 ≤ y.toInt) : (x - x / y * y).toInt = x.toInt % y.toInt := by
  have e := zdivp h hy
  have m := zmw (m := x.toInt) hy
  have hx := zhi x
  have hm : x.toInt % y.toInt ≤ x.toInt := by
    rcases Int.lt_or_le x.toInt y.toInt with k | k
    · rw [Int.emod_eq_of_lt h k]; exact Int.le_refl _
    · omega
  have e2 : (x / y * y).toInt = x.toInt / y.toInt * y.toInt := by rw [zmul1 (by rw [e]; omega) (by rw [e]; omega), e]
  rw [zsub1 (by rw [e2]; omega) (by rw [e2]; omega), e2]; omega
theorem zm3 {x : Int32} (h : 0 ≤ x.toInt) : (x - x / 3 * 3).toInt = x.toInt % 3 := zrm h (by decide)
/-- in the first place's run of the reference: places x down to b + 1 and then b -/
theorem plw_s {D : Int → Int} {w c t b x y fst : Int} {X : List Int} (hf : ¬ fst = 0) (hx : b < x) (hy : y = x - 1) (e : plo D w c t x = X) : plr D w c t b (pck fst (x - b)) = X ++ plr D w c t b (pck fst (y - b)) := by
  have h := plr_s (D := D) (w := w) (c := c) (t := t) (b := b) (x := x) (y := y) (by omega) hy e
  unfold pck
  rw [if_neg hf, if_neg hf, if_neg (by omega), h]
  split
  · rw [show (y - b + 1).toNat = 1 by omega]
  · rfl
theorem plw_x {D : Int → Int} {w c t b x fst : Int} (h : fst = 0 ∨ x ≤ b) : plr D w c t b (pck fst (x - b)) = plo D w c t b := by
  have e : pck fst (x - b) = 1 := by
    unfold pck; split
    · rfl
    · rw [if_pos (by omega)]
  rw [e]
  show plo D w c t (b + (0 : Nat)) ++ [] = _
  rw [List.append_nil, show b + ((0 : Nat) : Int) = b by omega]
theorem plo_6 {D : Int → Int} {w c t p : Int} (h : ¬ p < w) (hc : ¬ c = 48 ∨ t = 0 ∨ p ≤ 0 ∨ ¬ p % 3 = 0) : plo D w c t p = blk c := by
  unfold plo; rw [if_neg h, if_neg (by omega), List.append_nil]
theorem plo_7 {D : Int → Int} {w c t p : Int} (h : ¬ p < w) (hc : c = 48) (ht : ¬ t = 0) (hp : 0 < p) (h3 : p % 3 = 0) : plo D w c t p = blk c ++ [44] := by
  unfold plo; rw [if_neg h, if_pos ⟨ht, Or.inr hc, hp, h3⟩]
theorem whD_n {f : Nat → Int32} {x : Int32} : (f x.toNatClampNeg).toInt = whD f x.toInt := by unfold whD; rw [zcl]
/-- a rounded row's digit by place -/
def rwD (g : Nat → Int32) (t m k : Int) : Int := if 0 ≤ t - 1 - k ∧ t - 1 - k < m then (g (t - 1 - k).toNat).toInt else 0
theorem wh_st {g h : Nat → Int32} {x r : Int32} {t m y : Int} (hJ : ∀ j : Nat, (j : Int) < x.toInt → (h j).toInt = rwD g t m j) (h0 : 0 ≤ x.toInt) (hr : r.toInt = rwD g t m x.toInt) (hy : y = x.toInt + 1) : ∀ j : Nat, (j : Int) < y → (upd h x.toNatClampNeg r j).toInt = rwD g t m j := fun j hj => by
  by_cases c : j = x.toNatClampNeg
  · subst c; rw [pk_us, hr, zcl]; congr 1; omega
  · rw [pk_un c]; exact hJ j (by rw [zcl] at c; omega)
theorem wq {f : Nat → Int32} {x : Int32} {w : Int} (hw : ∀ j : Nat, (j : Int) < w → 0 ≤ (f j).toInt ∧ (f j).toInt ≤ 9) (h0 : 0 ≤ x.toInt) (h1 : x.toInt < w) : (48 + f x.toNatClampNeg).toInt = 48 + whD f x.toInt := by
  have b := hw x.toNatClampNeg (by rw [zcl]; omega)
  rw [zadd1 (by simp only [Int32.reduceToInt]; omega) (by simp only [Int32.reduceToInt]; omega), whD_n]; rfl
theorem plo_h1 {D : Int → Int} {w c t p q : Int} (hq : q = 48 + D p) (h : p < w) (ht : t = 0 ∨ p ≤ 0 ∨ ¬ p % 3 = 0) : plo D w c t p = [q] := by subst hq; exact plo_1 h ht
theorem plo_h2 {D : Int → Int} {w c t p q : Int} (hq : q = 48 + D p) (h : p < w) (ht : ¬ t = 0) (hp : 0 < p) (h3 : p % 3 = 0) : plo D w c t p = [q] ++ [44] := by subst hq; exact plo_2 h ht hp h3
/-- the last place of the reference's run -/
theorem plw_e {f g h : Nat → Int32} {n m k k2 : Int} {D : Int → Int} {w c t b x fst : Int} {X T : List Int} (hX : gR f n g m (plr D w c t b (pck fst (x - b))) T) (hA : pR g m h k X) (hx : fst = 0 ∨ x ≤ b) (e : plo D w c t b = X) (hk : k2 = k) : pR f n h k2 T := by
  subst hk
  rw [plw_x hx, e] at hX
  exact gR_x (gR_s hX hA (List.append_nil _).symm) rfl
theorem pls_i {D : Int → Int} {w c t b a fst : Int} (e : a = w - 1) : plr D w c t b (pck fst (a - b)) = pls D w c t b fst := by rw [e]; rfl
