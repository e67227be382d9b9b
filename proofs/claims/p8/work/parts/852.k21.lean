/-! which section a value takes; what about says -/
def kTt (n k0 k1 k2 : Int) : Prop := n = 4 ∨ (n = 1 ∧ k0 = 6) ∨ (n = 2 ∧ k1 = 6) ∨ (n = 3 ∧ k2 = 6)
def kTr (n k0 k1 k2 it ng z r : Int) : Prop :=
  (¬ it = 0 ∧ ((kTt n k0 k1 k2 ∧ r = n - 1) ∨ (¬ kTt n k0 k1 k2 ∧ r = -1))) ∨ (it = 0 ∧ ∃ m : Int, ((kTt n k0 k1 k2 ∧ m = n - 1) ∨ (¬ kTt n k0 k1 k2 ∧ m = n)) ∧ ((m = 0 ∧ r = -1) ∨ (¬ m = 0 ∧ ((2 ≤ m ∧ ¬ ng = 0) ∧ r = 1 ∨ ¬ (2 ≤ m ∧ ¬ ng = 0) ∧ ((m = 3 ∧ z = 0) ∧ r = 2 ∨ ¬ (m = 3 ∧ z = 0) ∧ r = 0)))))
theorem kTr_det {n k0 k1 k2 it ng z z' r r' : Int} (h : kTr n k0 k1 k2 it ng z r) (k : kTr n k0 k1 k2 it ng z' r') (hz : z = 0 ↔ z' = 0) : r = r' := by
  unfold kTr at h k
  by_cases t : kTt n k0 k1 k2 <;> simp only [t, not_true_eq_false, not_false_eq_true, true_and, false_and, or_false, false_or] at h k
  · rcases h with ⟨a, h⟩ | ⟨a, m, hm, h⟩ <;> rcases k with ⟨b, k⟩ | ⟨b, m', hm', k⟩ <;> omega
  · rcases h with ⟨a, h⟩ | ⟨a, m, hm, h⟩ <;> rcases k with ⟨b, k⟩ | ⟨b, m', hm', k⟩ <;> omega
def kAb (n k0 k1 k2 k3 it ng z w r : Int) : Prop := (w = 0 ∧ r = n) ∨ (w = 5 ∧ ∃ s : Int, kTr n k0 k1 k2 it ng z s ∧ r = s + 1) ∨ (¬ w = 0 ∧ ¬ w = 5 ∧ ((w ≤ n ∧ ((w = 1 ∧ r = k0) ∨ (w = 2 ∧ r = k1) ∨ (w = 3 ∧ r = k2) ∨ (w = 4 ∧ r = k3))) ∨ (n < w ∧ r = -1)))
theorem kAb_det {n k0 k1 k2 k3 l0 l1 l2 l3 it ng z z' w r r' : Int} (h : kAb n k0 k1 k2 k3 it ng z w r) (k : kAb n l0 l1 l2 l3 it ng z' w r') (hn : 1 ≤ n ∧ n ≤ 4) (hz : z = 0 ↔ z' = 0) (h0 : k0 = l0) (h1 : n ≤ 1 ∨ k1 = l1) (h2 : n ≤ 2 ∨ k2 = l2) (h3 : n ≤ 3 ∨ k3 = l3) : r = r' := by
  rcases h with ⟨a, h⟩ | ⟨a, s, hs, h⟩ | ⟨a, a2, h⟩ <;> rcases k with ⟨b, k⟩ | ⟨b, s', hs', k⟩ | ⟨b, b2, k⟩ <;> (try (exfalso; omega))
  · omega
  · have ht : kTr n k0 k1 k2 it ng z' s' := by
      unfold kTr at hs' ⊢
      have e : kTt n k0 k1 k2 ↔ kTt n l0 l1 l2 := by clear hs hs'; unfold kTt; omega
      rw [e]; exact hs'
    have := kTr_det hs ht hz
    omega
  · omega
theorem kTr_t {n k0 k1 k2 it ng z r : Int} (hi : ¬ it = 0) (h : ((n = 4 ∨ (n = 1 ∧ k0 = 6) ∨ (n = 2 ∧ k1 = 6) ∨ (n = 3 ∧ k2 = 6)) ∧ r = n - 1) ∨ (¬ (n = 4 ∨ (n = 1 ∧ k0 = 6) ∨ (n = 2 ∧ k1 = 6) ∨ (n = 3 ∧ k2 = 6)) ∧ r = -1)) : kTr n k0 k1 k2 it ng z r := Or.inl ⟨hi, h⟩
theorem kTr_n {n k0 k1 k2 it ng z r m : Int} (hi : it = 0) (hm : ((n = 4 ∨ (n = 1 ∧ k0 = 6) ∨ (n = 2 ∧ k1 = 6) ∨ (n = 3 ∧ k2 = 6)) ∧ m = n - 1) ∨ (¬ (n = 4 ∨ (n = 1 ∧ k0 = 6) ∨ (n = 2 ∧ k1 = 6) ∨ (n = 3 ∧ k2 = 6)) ∧ m = n)) (h : (m = 0 ∧ r = -1) ∨ (¬ m = 0 ∧ ((2 ≤ m ∧ ¬ ng = 0) ∧ r = 1 ∨ ¬ (2 ≤ m ∧ ¬ ng = 0) ∧ ((m = 3 ∧ z = 0) ∧ r = 2 ∨ ¬ (m = 3 ∧ z = 0) ∧ r = 0)))) : kTr n k0 k1 k2 it ng z r := Or.inr ⟨hi, m, hm, h⟩
theorem kSs {r : Option Nat} {j : Nat} {x : Int32} {n : Int} (h : r = some j) (h2 : (r = none ∧ ¬ (0 ≤ x.toInt ∧ x.toInt < n ∧ x.toInt < 4)) ∨ (r = some x.toNatClampNeg ∧ 0 ≤ x.toInt ∧ x.toInt < n ∧ x.toInt < 4)) : (j : Int) = x.toInt ∧ 0 ≤ x.toInt ∧ x.toInt < n ∧ x.toInt < 4 := by
  subst h
  rcases h2 with ⟨h, _⟩ | ⟨h, a⟩
  · exact absurd h (by simp)
  · have e := Option.some.inj h
    rw [zcl] at e; omega
theorem kSn {r : Option Nat} {x : Int32} {n : Int} (h : r = none) (h2 : (r = none ∧ ¬ (0 ≤ x.toInt ∧ x.toInt < n ∧ x.toInt < 4)) ∨ (r = some x.toNatClampNeg ∧ 0 ≤ x.toInt ∧ x.toInt < n ∧ x.toInt < 4)) : ¬ (0 ≤ x.toInt ∧ x.toInt < n ∧ x.toInt < 4) := by
  subst h
  rcases h2 with ⟨_, h⟩ | ⟨h, a⟩
  · exact h
  · exact absurd h (by simp)
/-! a number's value: how many times ten goes -/
def kdv : Nat → Int → Int
  | 0, v => v
  | n + 1, v => kdv n (v / 10)
theorem kdv_s : ∀ (n : Nat) (v : Int), kdv (n + 1) v = kdv n v / 10
  | 0, _ => rfl
  | n + 1, v => kdv_s n (v / 10)
/-! what type leaves in the row -/
def kBy (w : Int32) (i : Nat) : Int32 := (w >>> ((Int32.ofNat (24 - 8 * i)) &&& 31)) &&& 255
theorem kBy_x {w x : Int32} {i : Nat} (hx : x.toInt = 24 - 8 * (i : Int)) (hi : i ≤ 3) : (w >>> (x &&& 31)) &&& 255 = kBy w i := by
  have : x = Int32.ofNat (24 - 8 * i) := zle_eq.2 (by rw [hx, Int32.toInt_ofNat_of_lt (by omega)]; omega)
  unfold kBy; rw [← this]
def kTf (w : Int32) (f : Nat → Int32) (l : Int) : Nat → (Nat → Int32)
  | 0 => f
  | i + 1 => if kBy w i = 0 then kTf w f l i else upd (kTf w f l i) (l + ycB (ybM w) i).toNat (kBy w i)
theorem kX4 {f : Nat → Int32} {x : Int32} (h0 : 0 ≤ x.toInt) (h1 : x.toInt ≤ 4) : (x.toInt = 0 ∧ f x.toNatClampNeg = f 0) ∨ (x.toInt = 1 ∧ f x.toNatClampNeg = f 1) ∨ (x.toInt = 2 ∧ f x.toNatClampNeg = f 2) ∨ (x.toInt = 3 ∧ f x.toNatClampNeg = f 3) ∨ x.toInt = 4 := by
  rw [zcl]
  have : x.toInt = 0 ∨ x.toInt = 1 ∨ x.toInt = 2 ∨ x.toInt = 3 ∨ x.toInt = 4 := by omega
  rcases this with h | h | h | h | h
  · exact Or.inl ⟨h, by rw [h]; rfl⟩
  · exact Or.inr (Or.inl ⟨h, by rw [h]; rfl⟩)
  · exact Or.inr (Or.inr (Or.inl ⟨h, by rw [h]; rfl⟩))
  · exact Or.inr (Or.inr (Or.inr (Or.inl ⟨h, by rw [h]; rfl⟩)))
  · exact Or.inr (Or.inr (Or.inr (Or.inr h)))
theorem kX3 {f : Nat → Int32} {x : Int32} (h0 : 1 ≤ x.toInt) (h1 : x.toInt ≤ 4) : (x.toInt = 1 ∧ (f (x - 1).toNatClampNeg).toInt = (f 0).toInt) ∨ (x.toInt = 2 ∧ (f (x - 1).toNatClampNeg).toInt = (f 1).toInt) ∨ (x.toInt = 3 ∧ (f (x - 1).toNatClampNeg).toInt = (f 2).toInt) ∨ (x.toInt = 4 ∧ (f (x - 1).toNatClampNeg).toInt = (f 3).toInt) := by
  have e : (x - 1).toInt = x.toInt - 1 := zsub1 (by simp only [Int32.reduceToInt]; omega) (by simp only [Int32.reduceToInt]; omega)
  rcases kX4 (f := f) (x := x - 1) (by omega) (by omega) with ⟨h, q⟩ | ⟨h, q⟩ | ⟨h, q⟩ | ⟨h, q⟩ | h
  · exact Or.inl ⟨by omega, by rw [q]⟩
  · exact Or.inr (Or.inl ⟨by omega, by rw [q]⟩)
  · exact Or.inr (Or.inr (Or.inl ⟨by omega, by rw [q]⟩))
  · exact Or.inr (Or.inr (Or.inr ⟨by omega, by rw [q]⟩))
  · omega
theorem kdv_z : ∀ (k : Nat) (v : Int), 0 ≤ v → v < 10 ^ k → kdv k v = 0
  | 0, v, h0, h => by
    have h : v < 1 := h
    show v = 0
    omega
  | k + 1, v, h0, h => by
    show kdv k (v / 10) = 0
    refine kdv_z k _ (by omega) ?_
    rw [Int.pow_succ] at h; omega
theorem kdv_0 : ∀ (k : Nat) (v : Int), 0 ≤ v → 0 ≤ kdv k v
  | 0, _, h => h
  | k + 1, v, h => kdv_0 k (v / 10) (by omega)
theorem kp17 : (10 : Int) ^ 17 = 100000000000000000 := by decide
theorem kdv_17 {v : Int} (h0 : 0 ≤ v) (h1 : v ≤ 99999999999999999) {x : Int32} (hx : x.toInt = 17) : kdv x.toInt.toNat v = 0 := by
  rw [hx]; refine kdv_z 17 v h0 ?_
  rw [kp17]; omega
def kNw (g : Nat → Int32) (a b : Int) : Prop := ∃ j : Int, a < j ∧ j < b ∧ 0 ≤ j ∧ ¬ (g j.toNat).toInt = 0
theorem kNw_p {g : Nat → Int32} {a b : Int} (h : kNw g a b) : 0 < b := by obtain ⟨j, _, h1, h0, _⟩ := h; omega
theorem kNw_st {g : Nat → Int32} {x : Int32} {b : Int} (h : kNw g (-1) x.toInt) (h0 : 0 < x.toInt) (hz : (g (x - 1).toNatClampNeg).toInt = 0) (hb : b = x.toInt - 1) : kNw g (-1) b := by
  obtain ⟨j, h1, h2, h3, h4⟩ := h
  have hh := zhi x
  have e : (x - 1).toNatClampNeg = (x.toInt - 1).toNat := by
    rw [zcl, zsub1 (by simp only [Int32.reduceToInt]; omega) (by simp only [Int32.reduceToInt]; omega)]; simp only [Int32.reduceToInt]
  rw [e] at hz
  refine ⟨j, h1, ?_, h3, h4⟩
  by_cases c : j = x.toInt - 1
  · subst c; exact absurd hz h4
  · omega
theorem kNw_up {g : Nat → Int32} {x v : Int32} {a b : Int} (h : kNw g x.toInt b) (h0 : 0 ≤ x.toInt) (ha : a = x.toInt - 1) : kNw (upd g x.toNatClampNeg v) a b := by
  obtain ⟨j, h1, h2, h3, h4⟩ := h
  refine ⟨j, by omega, h2, h3, ?_⟩
  rw [pk_un (show j.toNat ≠ x.toNatClampNeg by rw [zcl]; omega)]; exact h4
theorem kNw_d {g : Nat → Int32} {x v : Int32} {a b : Int} (hv : ¬ v.toInt = 0) (h0 : 0 ≤ x.toInt) (hb : x.toInt < b) (ha : a = x.toInt - 1) : kNw (upd g x.toNatClampNeg v) a b := by
  refine ⟨x.toInt, by omega, hb, h0, ?_⟩
  rw [show x.toInt.toNat = x.toNatClampNeg by rw [zcl], pk_us]; exact hv
theorem kdg {v : Int64} (h0 : 0 < v.toInt) (h1 : v.toInt < 10) : ¬ ((v - v / 10 * 10).toInt32).toInt = 0 := by
  have e1 : (v / 10).toInt = 0 := by rw [zl_div10p (by omega)]; omega
  have e2 : v / 10 * 10 = 0 := by
    have : v / 10 = 0 := zl_eq.2 (by rw [e1]; rfl)
    rw [this]; rfl
  rw [e2]
  have e3 : v - 0 = v := by apply zl_eq.2; rw [zl_sub1] <;> (simp only [Int64.reduceToInt]; omega)
  rw [e3]
  have : v = (Int32.ofInt v.toInt).toInt64 := zl_eq.2 (by rw [zi64, Int32.toInt_ofInt_of_le (by omega) (by omega)])
  rw [this, Int32.toInt32_toInt64, Int32.toInt_ofInt_of_le (by omega) (by omega)]
  omega
theorem kdv_nx {V a b x : Int} (hk : x = kdv (a - 1 - b).toNat V) (h : b < a) : kdv (a - 1 - (b - 1)).toNat V = x / 10 := by
  rw [show (a - 1 - (b - 1)).toNat = (a - 1 - b).toNat + 1 by omega, kdv_s, ← hk]
theorem kdv_e {V a b b' q r : Int} (h : kdv (a - 1 - (b - 1)).toNat V = q) (hr : r = q) (hb : b' = b - 1) : r = kdv (a - 1 - b').toNat V := by
  rw [hr, hb, h]
theorem kdv_l {V q r b : Int} {x : Int32} (hk : q = kdv x.toInt.toNat V) (hb : b = x.toInt + 1) (h0 : 0 ≤ x.toInt) (hr : r = q / 10) : r = kdv b.toNat V := by
  rw [hb, show (x.toInt + 1).toNat = x.toInt.toNat + 1 by omega, kdv_s, ← hk, hr]
theorem kNw_n {g : Nat → Int32} {x : Int32} {v : Int64} {V a b q : Int} (hz : (V = 0 ∧ a = 0) ∨ (¬ V = 0 ∧ (0 < v.toInt ∨ kNw g x.toInt a))) (h0 : 0 ≤ x.toInt) (hx : x.toInt < a) (h5 : 0 ≤ v.toInt) (hq : q = v.toInt / 10) (hb : b = x.toInt - 1) : (V = 0 ∧ a = 0) ∨ (¬ V = 0 ∧ (0 < q ∨ kNw (upd g x.toNatClampNeg (v - v / 10 * 10).toInt32) b a)) := by
  rcases hz with ⟨_, h⟩ | ⟨hV, h⟩
  · omega
  · refine Or.inr ⟨hV, ?_⟩
    rcases h with h | h
    · by_cases c : v.toInt < 10
      · exact Or.inr (kNw_d (kdg h c) h0 hx hb)
      · exact Or.inl (by omega)
    · exact Or.inr (kNw_up h h0 hb)
theorem kNw_x {g : Nat → Int32} {V a x v : Int} (hz : (V = 0 ∧ a = 0) ∨ (¬ V = 0 ∧ (0 < v ∨ kNw g x a))) (hv : v = 0) (hx : x = -1) : (V = 0 ∧ a = 0) ∨ (¬ V = 0 ∧ kNw g (-1) a) := by
  rcases hz with h | ⟨hV, h⟩
  · exact Or.inl h
  · rw [hx] at h; exact Or.inr ⟨hV, h.resolve_left (by omega)⟩
theorem kdv_m {g : Nat → Int32} {V q b v : Int} {x : Int32} (hk : q = kdv x.toInt.toNat V) (h0 : 0 ≤ x.toInt) (hq : q = 0) (hb : b = x.toInt - 1) (hv : v = V) (hz : (V = 0 ∧ x.toInt = 0) ∨ ¬ V = 0) (hV : 0 ≤ V) : kdv x.toInt.toNat V = 0 ∧ v = kdv (x.toInt - 1 - b).toNat V ∧ ((V = 0 ∧ x.toInt = 0) ∨ (¬ V = 0 ∧ (0 < v ∨ kNw g b x.toInt))) := by
  refine ⟨by omega, ?_, ?_⟩
  · rw [hb, show (x.toInt - 1 - (x.toInt - 1)).toNat = 0 by omega]; exact hv
  · rcases hz with h | h
    · exact Or.inl h
    · exact Or.inr ⟨h, Or.inl (by omega)⟩
theorem kBy_z {w x : Int32} {i : Nat} (hx : x.toInt = 24 - 8 * (i : Int)) (hi : i ≤ 3) : (kBy w i = 0 ∧ ((w >>> (x &&& 31)) &&& (255 : Int32)).toInt = 0) ∨ (¬ kBy w i = 0 ∧ 0 < ((w >>> (x &&& 31)) &&& (255 : Int32)).toInt) := by
  rw [kBy_x hx hi]
  have h := zand255 (w >>> ((Int32.ofNat (24 - 8 * i)) &&& 31))
  have h0 : 0 ≤ (kBy w i).toInt := h.1
  by_cases c : kBy w i = 0
  · exact Or.inl ⟨c, by rw [c]; rfl⟩
  · refine Or.inr ⟨c, ?_⟩
    have : ¬ (kBy w i).toInt = 0 := fun q => c (zle_eq.2 q)
    omega
theorem kTf_n {w x : Int32} {f g : Nat → Int32} {l : Int} {i : Nat} (hf : g = kTf w f l i) (hx : x.toInt = 24 - 8 * (i : Int)) (hi : i ≤ 3) (hz : ((w >>> (x &&& 31)) &&& (255 : Int32)).toInt ≤ 0) : g = kTf w f l (i + 1) := by
  have e : kBy w i = 0 := by rcases kBy_z (w := w) hx hi with h | h <;> first | exact h.1 | omega
  show g = if kBy w i = 0 then kTf w f l i else _
  rw [if_pos e]; exact hf
theorem kTf_y {w x L : Int32} {f g : Nat → Int32} {l : Int} {i : Nat} (hf : g = kTf w f l i) (hl : L.toInt = l + ycB (ybM w) i) (hx : x.toInt = 24 - 8 * (i : Int)) (hi : i ≤ 3) (hz : ¬ ((w >>> (x &&& 31)) &&& (255 : Int32)).toInt ≤ 0) : upd g L.toNatClampNeg ((w >>> (x &&& 31)) &&& (255 : Int32)) = kTf w f l (i + 1) := by
  have e : ¬ kBy w i = 0 := by rcases kBy_z (w := w) hx hi with h | h <;> first | exact h.1 | omega
  show _ = if kBy w i = 0 then kTf w f l i else upd (kTf w f l i) (l + ycB (ybM w) i).toNat (kBy w i)
  rw [if_neg e, kBy_x hx hi, hf, zcl, hl]
theorem kTl_n {w x : Int32} {L l : Int} {i : Nat} (hl : L = l + ycB (ybM w) i) (hx : x.toInt = 24 - 8 * (i : Int)) (hi : i ≤ 3) (hz : ((w >>> (x &&& 31)) &&& (255 : Int32)).toInt ≤ 0) : L = l + ycB (ybM w) (i + 1) := by
  have := (zand255 (w >>> (x &&& 31))).1
  rw [(ybM_s (w := w) hx hi).1, if_pos (by omega)]; omega
theorem kTl_y {w x : Int32} {L M l : Int} {i : Nat} (hl : L = l + ycB (ybM w) i) (hx : x.toInt = 24 - 8 * (i : Int)) (hi : i ≤ 3) (hz : ¬ ((w >>> (x &&& 31)) &&& (255 : Int32)).toInt ≤ 0) (hM : M = L + 1) : M = l + ycB (ybM w) (i + 1) := by
  rw [(ybM_s (w := w) hx hi).1, if_neg (by omega)]; omega
