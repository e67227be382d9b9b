/-! the reference's zeros, whole numbers and packed places -/
def zI (D : Int → Int) (T b j : Int) (n : Nat) : Prop := (b = 0 ∧ T = 0) ∨ (b = 1 ∧ T = zf D j n)
theorem zI_b {D : Int → Int} {T b j : Int} {n : Nat} (h : zI D T b j n) : b = 0 ∨ b = 1 := by
  rcases h with ⟨a, _⟩ | ⟨a, _⟩
  · exact Or.inl a
  · exact Or.inr a
theorem zI_i {D : Int → Int} {T b j : Int} {n : Nat} (hb : b = 1) (hT : T = zf D j n) : zI D T b j n := Or.inr ⟨hb, hT⟩
theorem zI_x {D : Int → Int} {T b j d : Int} (h : zI D T b j (d - j + 1).toNat) (hd : d < j) : b = T := by
  rcases h with ⟨a, c⟩ | ⟨a, c⟩
  · omega
  · rw [show (d - j + 1).toNat = 0 by omega] at c
    have c : T = 1 := c
    omega
theorem zI_0 {D : Int → Int} {T b c j k d : Int} (h : zI D T b j (d - j + 1).toNat) (hb : b = 0) (hc : c = 0) : zI D T c k (d - k + 1).toNat := by
  rcases h with ⟨_, e⟩ | ⟨a, _⟩
  · exact Or.inl ⟨hc, e⟩
  · omega
theorem zI_s {D : Int → Int} {T b c j k d r : Int} (h : zI D T b j (d - j + 1).toNat) (hb : ¬ b = 0) (hd : ¬ d < j) (hr : r = D (-j)) (hk : k = j + 1) (hc : (c = 0 ∧ ¬ r = 0) ∨ (c = 1 ∧ r = 0)) : zI D T c k (d - k + 1).toNat := by
  rcases h with ⟨a, _⟩ | ⟨_, e⟩
  · omega
  · rw [show (d - j + 1).toNat = (d - k + 1).toNat + 1 by omega] at e
    have e : T = if D (-j) = 0 then zf D (j + 1) (d - k + 1).toNat else 0 := e
    rcases hc with ⟨c0, q⟩ | ⟨c1, q⟩
    · rw [if_neg (by omega)] at e; exact Or.inl ⟨c0, e⟩
    · rw [if_pos (by omega), ← hk] at e; exact Or.inr ⟨c1, e⟩
theorem rwD_i {g : Nat → Int32} {t m k r : Int} (h : r = (if 0 ≤ t - 1 - k ∧ t - 1 - k < m then (g (t - 1 - k).toNat).toInt else 0)) : r = rwD g t m k := h
/-- the digits of v, the last one first -/
def wI (v : Int) (f : Nat → Int32) (k x : Int) : Prop := 0 ≤ k ∧ x = v / 10 ^ k.toNat ∧ (∀ j : Nat, (j : Int) < k → (f j).toInt = dgt v j) ∧ (k = 0 ∨ 1 ≤ v / 10 ^ (k - 1).toNat)
theorem wI_i {v x k : Int} {f : Nat → Int32} (hx : x = v) (hk : k = 0) : wI v f k x := by
  subst hx; subst hk
  refine ⟨Int.le_refl _, ?_, fun j hj => by omega, Or.inl rfl⟩
  show x = x / 1
  rw [Int.ediv_one]
theorem wI_b {v x k : Int} {f : Nat → Int32} (h : wI v f k x) (hv : 0 ≤ v) : 0 ≤ x := by
  rw [h.2.1]; exact Int.ediv_nonneg hv (Int.le_of_lt (p10 _))
theorem wI_x {v x k : Int} {f : Nat → Int32} (h : wI v f k x) (hv : 0 ≤ v) (hx : x ≤ 0) : dnc v k ∧ ∀ j : Nat, (j : Int) < k → (f j).toInt = dgt v j := by
  have h0 := wI_b h hv
  obtain ⟨k0, e, d, l⟩ := h
  refine ⟨?_, d⟩
  have hp := p10 k.toNat
  have e1 : v < 10 ^ k.toNat := by
    have := Int.lt_mul_ediv_self_add (x := v) (k := 10 ^ k.toNat) hp
    rw [← e, show x = 0 by omega, Int.mul_zero] at this; omega
  rcases l with l | l
  · subst l
    have e2 : (10 : Int) ^ (0 : Int).toNat = 1 := by decide
    rw [e2] at e1
    exact Or.inl ⟨by omega, rfl⟩
  · have hp2 := p10 (k - 1).toNat
    have e3 : 10 ^ (k - 1).toNat ≤ v := by
      have := Int.mul_le_mul_of_nonneg_left l (Int.le_of_lt hp2)
      have m := Int.mul_ediv_self_le (x := v) (k := 10 ^ (k - 1).toNat) (by omega)
      omega
    have k1 : 1 ≤ k := by
      rcases Int.lt_or_le 0 k with q | q
      · omega
      · have : k = 0 := by omega
        subst this
        have e2 : (10 : Int) ^ (0 : Int).toNat = 1 := by decide
        rw [e2] at e1
        have e4 : v = 0 := by omega
        rw [e4, Int.zero_ediv] at l; omega
    exact Or.inr ⟨by omega, k1, e3, e1⟩
theorem wI_s {v : Int} {f : Nat → Int32} {x r k : Int32} {y2 k2 : Int} (h : wI v f k.toInt x.toInt) (hv : 0 ≤ v) (hx : ¬ x.toInt ≤ 0) (hr : r.toInt = x.toInt % 10) (hy : y2 = x.toInt / 10) (hk : k2 = k.toInt + 1) : wI v (upd f k.toNatClampNeg r) k2 y2 := by
  obtain ⟨k0, e, d, l⟩ := h
  have hq : (k.toInt + 1).toNat = k.toInt.toNat + 1 := by omega
  subst hk
  refine ⟨by omega, ?_, fun j hj => ?_, Or.inr ?_⟩
  · rw [hy, e, hq, Int.pow_succ, Int.ediv_ediv_of_nonneg (Int.le_of_lt (p10 _))]
  · by_cases c : j = k.toNatClampNeg
    · subst c
      rw [pk_us, hr, e]
      unfold dgt
      rw [if_neg (by omega), zcl, Int.toNat_natCast]
    · rw [pk_un c]; exact d j (by rw [zcl] at c; omega)
  · rw [show (k.toInt + 1 - 1).toNat = k.toInt.toNat by omega, ← e]; omega
/-- character k of a packed word -/
def pch (q : Int32) (k : Int) : Int := ((q >>> (((8 : Int32) * Int32.ofInt k) &&& 31)) &&& (255 : Int32)).toInt
theorem pch_x {q x : Int32} : ((q >>> (((8 : Int32) * x) &&& 31)) &&& (255 : Int32)).toInt = pch q x.toInt := by unfold pch; rw [Int32.ofInt_toInt]
theorem pch_b {q : Int32} {k : Int} : 0 ≤ pch q k ∧ pch q k ≤ 255 := zand255 _
def pkl (D : Int → Int) (w : Int) (q : Int32) (n : Int) : Nat → List Int
  | 0 => []
  | k + 1 => pls D w (pch q k) 0 k (if (k : Int) = n - 1 then 1 else 0) ++ pkl D w q n k
theorem pkl_s {D : Int → Int} {w n x y c z fst : Int} {q : Int32} (h0 : 0 ≤ x) (hy : y = x - 1) (hc : c = pch q x) (hz : z = 0) (hf : (¬ x = n - 1 ∧ fst = 0) ∨ (x = n - 1 ∧ fst = 1)) : pkl D w q n (x + 1).toNat = pls D w c z x fst ++ pkl D w q n (y + 1).toNat := by
  subst hy; subst hc; subst hz
  rw [show (x + 1).toNat = x.toNat + 1 by omega, show (x - 1 + 1).toNat = x.toNat by omega]
  show pls D w (pch q (x.toNat : Nat)) 0 (x.toNat : Nat) (if ((x.toNat : Nat) : Int) = n - 1 then 1 else 0) ++ _ = _
  rw [show ((x.toNat : Nat) : Int) = x by omega]
  congr 2
  rcases hf with ⟨a, b⟩ | ⟨a, b⟩
  · rw [if_neg a, b]
  · rw [if_pos a, b]
theorem pkl_x {D : Int → Int} {w n x : Int} {q : Int32} (h0 : x < 0) : pkl D w q n (x + 1).toNat = [] := by rw [show (x + 1).toNat = 0 by omega]; rfl
theorem pkl_i {D : Int → Int} {w n x : Int} {q : Int32} (h0 : x = n - 1) : pkl D w q n (x + 1).toNat = pkl D w q n n.toNat := by rw [show x + 1 = n by omega]
