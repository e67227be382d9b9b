/-! the reference's nearest fraction; one more in a row of digits -/
def frQ (r a : Int) : Nat → Int × Int × Int
  | 0 => (0, 0, 0)
  | k + 1 => frf r (a + k) (frQ r a k)
theorem frQ_R {r : Int} : ∀ k : Nat, frQ r 1 k = frR r k
  | 0 => rfl
  | k + 1 => by
    show frf r (1 + k) (frQ r 1 k) = frf r (k + 1) (frR r k)
    rw [frQ_R k, Int.add_comm]
def frX (r a t best n d : Int) : Prop := (best < 0 ∧ n = 0 ∧ d = 1 ∧ frQ r a (t - a).toNat = (0, 0, 0)) ∨ ((0 ≤ best ∧ best ≤ 1000000000000000 ∧ 1 ≤ d ∧ d ≤ 999 ∧ 0 ≤ n ∧ n ≤ d) ∧ frQ r a (t - a).toNat = (n, d, best))
theorem frX_b {r a t best n d : Int} (h : frX r a t best n d) : best ≤ 1000000000000000 ∧ 1 ≤ d ∧ d ≤ 999 ∧ 0 ≤ n ∧ n ≤ 999 := by
  rcases h with ⟨a, b, c, _⟩ | ⟨a, _⟩ <;> omega
theorem frX_i {r a t best n d : Int} (ht : t = a) (hb : best < 0) (hn : n = 0) (hd : d = 1) : frX r a t best n d := Or.inl ⟨hb, hn, hd, by rw [ht, Int.sub_self]; rfl⟩
theorem frX_y {r a t t2 best n d best2 n2 d2 : Int} (h : frX r a t best n d) (h0 : 0 ≤ r) (h1 : r ≤ 1000000000000000) (ha : a ≤ t) (ht0 : 1 ≤ t) (ht : t ≤ 999) (hc : best < 0 ∨ frD r t * d < best * t) (hb : best2 = frD r t) (hn : n2 = frN r t) (hd : d2 = t) (ht2 : t2 = t + 1) : frX r a t2 best2 n2 d2 := by
  have b := frD_b (r := r) (d := t)
  have c := frN_b (r := r) (d := t) h0 h1 (by omega)
  refine Or.inr ⟨⟨by omega, by omega, by omega, by omega, by omega, by omega⟩, ?_⟩
  rw [ht2, show (t + 1 - a).toNat = (t - a).toNat + 1 by omega]
  show frf r (a + ((t - a).toNat : Nat)) (frQ r a (t - a).toNat) = _
  rw [show a + (((t - a).toNat : Nat) : Int) = t by omega, hb, hn, hd]
  unfold frf
  rcases h with ⟨p1, p2, p3, p4⟩ | ⟨p1, p2⟩
  · rw [p4, if_pos (Or.inl rfl)]
  · rw [p2, if_pos (Or.inr (hc.resolve_left (by omega)))]
theorem frX_n {r a t t2 best n d : Int} (h : frX r a t best n d) (ha : a ≤ t) (hb : ¬ best < 0) (hc : ¬ frD r t * d < best * t) (ht2 : t2 = t + 1) : frX r a t2 best n d := by
  rcases h with ⟨p1, p2, p3, p4⟩ | ⟨p1, p2⟩
  · omega
  · refine Or.inr ⟨p1, ?_⟩
    rw [ht2, show (t + 1 - a).toNat = (t - a).toNat + 1 by omega]
    show frf r (a + ((t - a).toNat : Nat)) (frQ r a (t - a).toNat) = _
    rw [show a + (((t - a).toNat : Nat) : Int) = t by omega, p2]
    unfold frf
    rw [if_neg (fun q => q.elim (fun e => by have e : d = 0 := e; omega) hc)]
def frG (gv pl a t : Int) : Prop := (0 < gv ∧ gv ≤ 999 ∧ a = gv ∧ t = gv) ∨ (gv = 0 ∧ a = 1 ∧ t = 10 ^ pl.toNat - 1 ∧ 9 ≤ t ∧ t ≤ 999)
theorem frG_b {gv pl a t : Int} (h : frG gv pl a t) : 1 ≤ a ∧ a ≤ t ∧ t ≤ 999 := by
  rcases h with h | h <;> omega
theorem frX_E {r gv pl a t t2 best n d : Int} (h : frX r a t2 best n d) (hg : frG gv pl a t) (ht : t2 = t + 1) : n = (frE r gv pl).1 ∧ d = (frE r gv pl).2.1 := by
  unfold frE
  rcases hg with ⟨g1, g0, g2, g3⟩ | ⟨g1, g2, g3, _⟩
  · rw [if_pos g1]
    have ek : (t2 - a).toNat = 0 + 1 := by omega
    have eq : frQ r a (t2 - a).toNat = frf r gv (0, 0, 0) := by
      rw [ek]
      show frf r (a + (0 : Nat)) (0, 0, 0) = _
      rw [show a + ((0 : Nat) : Int) = gv by omega]
    rcases h with ⟨p1, p2, p3, p4⟩ | ⟨p1, p2⟩
    · rw [eq] at p4
      unfold frf at p4
      rw [if_pos (Or.inl rfl)] at p4
      have : gv = 0 := congrArg (fun s => s.2.1) p4
      omega
    · rw [← eq, p2]; exact ⟨rfl, rfl⟩
  · rw [if_neg (by omega)]
    have ek : (t2 - a).toNat = (10 ^ pl.toNat - 1 : Int).toNat := by omega
    unfold frX at h
    rw [ek, g2, frQ_R] at h
    rcases h with ⟨p1, p2, p3, p4⟩ | ⟨p1, p2⟩
    · rw [p4]; exact ⟨p2, p3⟩
    · rw [p2]
      unfold fFx
      rw [if_neg (show ¬ d = 0 by omega)]
      exact ⟨rfl, rfl⟩
/-- one more: nines up to k become zeros -/
def crI (f : Nat → Int32) (n M k : Int) : Prop := (0 ≤ k ∧ k ≤ n ∧ n ≤ 480) ∧ dnc M n ∧ (∃ q : Int, 0 ≤ q ∧ M + 1 = 10 ^ k.toNat * (q + 1)) ∧ ∀ j : Nat, (j : Int) < n → (f j).toInt = (if (j : Int) < k then 0 else dgt M j)
theorem crI_i {f : Nat → Int32} {n M k : Int} (h : whM f n M) (hk : k = 0) : crI f n M k := by
  subst hk
  refine ⟨⟨by decide, h.1.2.2⟩, h.1.1, ⟨M, h.1.2.1, ?_⟩, fun j hj => ?_⟩
  · show M + 1 = 1 * (M + 1); rw [Int.one_mul]
  · rw [if_neg (by omega)]; exact h.2 j hj
theorem dg_q {M q : Int} {k : Nat} (h : M + 1 = 10 ^ k * (q + 1)) : M / 10 ^ k = q := by
  have p := p10 k
  have e : M = (10 ^ k - 1) + 10 ^ k * q := by rw [Int.mul_add] at h; omega
  rw [e, Int.add_mul_ediv_left _ _ (by omega), Int.ediv_eq_zero_of_lt (by omega) (by omega), Int.zero_add]
theorem crI_s {f : Nat → Int32} {n M : Int} {k z : Int32} {k2 : Int} (h : crI f n M k.toInt) (hn : ¬ n ≤ k.toInt) (h9 : (f k.toNatClampNeg).toInt = 9) (hz : z.toInt = 0) (hk : k2 = k.toInt + 1) : crI (upd f k.toNatClampNeg z) n M k2 := by
  obtain ⟨a, b, ⟨q, q0, hq⟩, c⟩ := h
  subst hk
  have hc := c k.toNatClampNeg (by rw [zcl]; omega)
  rw [if_neg (by rw [zcl]; omega), h9, zcl, show ((k.toInt.toNat : Nat) : Int) = k.toInt by omega] at hc
  have eq := dg_q hq
  unfold dgt at hc
  rw [if_neg (by omega), eq] at hc
  refine ⟨by omega, b, ⟨q / 10, by omega, ?_⟩, fun j hj => ?_⟩
  · rw [show (k.toInt + 1).toNat = k.toInt.toNat + 1 by omega, Int.pow_succ, Int.mul_assoc, hq]
    congr 1; omega
  · by_cases e : j = k.toNatClampNeg
    · subst e; rw [pk_us, hz, if_pos (by rw [zcl]; omega)]
    · rw [pk_un e, c j hj]
      rw [zcl] at e
      by_cases l : (j : Int) < k.toInt
      · rw [if_pos l, if_pos (by omega)]
      · rw [if_neg l, if_neg (by omega)]
theorem dg_q1 {q : Int} (h : ¬ q % 10 = 9) : ∀ i : Nat, (q + 1) / 10 ^ (i + 1) = q / 10 ^ (i + 1)
  | 0 => by show (q + 1) / 10 = q / 10; omega
  | i + 1 => by
    rw [Int.pow_succ, ← Int.ediv_ediv_of_nonneg (Int.le_of_lt (p10 _)), ← Int.ediv_ediv_of_nonneg (Int.le_of_lt (p10 _)), dg_q1 h i]
theorem dg_up {M q : Int} {k : Nat} {j : Int} (h : M + 1 = 10 ^ k * (q + 1)) (h9 : ¬ q % 10 = 9) (hj : 0 ≤ j) : dgt (M + 1) j = (if j < k then 0 else if j = k then q % 10 + 1 else dgt M j) := by
  have eq := dg_q h
  rcases Int.lt_or_le j k with c | c
  · rw [if_pos c, h, Int.mul_comm]
    have := dgt_lo (H := q + 1) (z := (k : Int)) c
    exact this
  · rw [if_neg (by omega), h, Int.mul_comm]
    have := dgt_in (H := q + 1) (z := (k : Int)) (q := j) (b := j - k) (by omega) rfl (by omega)
    rw [show ((k : Int).toNat) = k from rfl] at this
    rw [this]
    by_cases e : j = k
    · rw [if_pos e, show (j - k).toNat = 0 by omega]
      show (q + 1) / 1 % 10 = _
      rw [Int.ediv_one]; omega
    · rw [if_neg e]
      unfold dgt
      rw [if_neg (by omega), show (j - k).toNat = (j - k).toNat - 1 + 1 by omega, dg_q1 h9, ← eq, Int.ediv_ediv_of_nonneg (Int.le_of_lt (p10 _)), ← Int.pow_add, show k + ((j - k).toNat - 1 + 1) = j.toNat by omega]
theorem crI_e {f : Nat → Int32} {n M : Int} {k v : Int32} (h : crI f n M k.toInt) (hn : ¬ n = k.toInt) (h9 : ¬ (f k.toNatClampNeg).toInt = 9) (hv : v.toInt = (f k.toNatClampNeg).toInt + 1) : whM (upd f k.toNatClampNeg v) n (M + 1) := by
  obtain ⟨a, b, ⟨q, q0, hq⟩, c⟩ := h
  have hc := c k.toNatClampNeg (by rw [zcl]; omega)
  rw [if_neg (by rw [zcl]; omega), show ((k.toNatClampNeg : Nat) : Int) = k.toInt by rw [zcl]; omega] at hc
  have eq := dg_q hq
  have hd : dgt M k.toInt = q % 10 := by unfold dgt; rw [if_neg (by omega), eq]
  rw [hd] at hc
  rw [hc] at h9 hv
  have M0 : 0 < M ∧ 1 ≤ n ∧ 10 ^ (n - 1).toNat ≤ M ∧ M < 10 ^ n.toNat := by
    rcases b with ⟨_, b2⟩ | b
    · omega
    · exact b
  have up : M + 1 < 10 ^ n.toNat := by
    rcases Int.lt_or_le (M + 1) (10 ^ n.toNat) with l | l
    · exact l
    · have e : 10 ^ k.toInt.toNat * (q + 1) = 10 ^ k.toInt.toNat * 10 ^ (n - k.toInt).toNat := by
        rw [← hq, ← Int.pow_add, show k.toInt.toNat + (n - k.toInt).toNat = n.toNat by omega]; omega
      have e2 := Int.eq_of_mul_eq_mul_left (by have := p10 k.toInt.toNat; omega) e
      rw [show (n - k.toInt).toNat = (n - k.toInt).toNat - 1 + 1 by omega, Int.pow_succ] at e2
      omega
  refine ⟨⟨Or.inr ⟨by omega, M0.2.1, by omega, up⟩, by omega, by omega, a.2.2⟩, fun j hj => ?_⟩
  rw [dg_up hq h9 (by omega)]
  by_cases e : j = k.toNatClampNeg
  · subst e
    rw [pk_us, hv, if_neg (by rw [zcl]; omega), if_pos (by rw [zcl])]
  · rw [pk_un e, c j hj]
    rw [zcl] at e
    by_cases l : (j : Int) < k.toInt
    · rw [if_pos l, if_pos (by omega)]
    · rw [if_neg l, if_neg (by omega), if_neg (by omega)]
theorem crI_x {f g : Nat → Int32} {n M : Int} {k v : Int32} {n2 : Int} (h : crI f n M k.toInt) (hn : n = k.toInt) (hg : ∀ j : Nat, (j : Int) < n → (g j).toInt = (f j).toInt) (hv : v.toInt = 1) (hn2 : n2 = n + 1) (hb : n ≤ 479) : whM (upd g k.toNatClampNeg v) n2 (M + 1) := by
  obtain ⟨a, b, ⟨q, q0, hq⟩, c⟩ := h
  have q00 : M + 1 = 10 ^ n.toNat := by
    rcases b with ⟨b1, b2⟩ | ⟨b1, b2, b3, b4⟩
    · rw [b1, b2]; rfl
    · have : M + 1 = 10 ^ n.toNat * (q + 1) := by rw [hn]; exact hq
      have p := p10 n.toNat
      have : 10 ^ n.toNat * (q + 1) = 10 ^ n.toNat * q + 10 ^ n.toNat := by rw [Int.mul_add, Int.mul_one]
      have := Int.mul_nonneg (Int.le_of_lt p) q0
      omega
  have p := p10 n.toNat
  have lt : (10 : Int) ^ n.toNat < 10 ^ (n + 1).toNat := by rw [show (n + 1).toNat = n.toNat + 1 by omega, Int.pow_succ]; omega
  subst hn2
  refine ⟨⟨Or.inr ⟨by omega, by omega, by rw [show n + 1 - 1 = n by omega]; omega, by omega⟩, by omega, by omega, by omega⟩, fun j hj => ?_⟩
  have e1 : M + 1 = 1 * 10 ^ n.toNat := by omega
  rw [e1]
  by_cases e : j = k.toNatClampNeg
  · subst e
    rw [pk_us, hv, dgt_in (b := 0) (by omega) (by rw [zcl]; omega) (by decide)]; decide
  · rw [pk_un e, hg j (by rw [zcl] at e; omega), c j (by rw [zcl] at e; omega), if_pos (by rw [zcl] at e; omega), dgt_lo (by rw [zcl] at e; omega)]
/-- digits of a number into a row, the last one first -/
theorem wI_s2 {v x : Int} {f : Nat → Int32} {r k : Int32} {y2 k2 : Int} (h : wI v f k.toInt x) (hv : 0 ≤ v) (hx : ¬ x ≤ 0) (hr : r.toInt = x % 10) (hy : y2 = x / 10) (hk : k2 = k.toInt + 1) : wI v (upd f k.toNatClampNeg r) k2 y2 := by
  obtain ⟨h1, h2, h3, h4⟩ := h
  subst hy; subst hk
  refine ⟨by omega, ?_, fun j hj => ?_, Or.inr ?_⟩
  · rw [h2, show (k.toInt + 1).toNat = k.toInt.toNat + 1 by omega, Int.pow_succ, Int.ediv_ediv_of_nonneg (Int.le_of_lt (p10 _))]
  · by_cases c : j = k.toNatClampNeg
    · subst c
      rw [pk_us, hr, h2, zcl]
      unfold dgt
      rw [if_neg (by omega)]
      rfl
    · rw [pk_un c]; exact h3 j (by rw [zcl] at c; omega)
  · rw [show k.toInt + 1 - 1 = k.toInt by omega, ← h2]; omega
/-- the given digits of a denominator -/
def gvF (a : Int) : List (Int × Int) → Int
  | [] => a
  | p :: r => gvF (if p.1 = 12 then 10 * a + p.2 - 48 else a) r
theorem gvF_s {x : Int32} {a a2 y gv : Int} {q : Int32} (h : gvF a (pkc 12 q (x.toInt + 1).toNat) = gv) (h0 : ¬ x.toInt < 0) (ha : a2 = 10 * a + pch q x.toInt - 48) (hy : y = x.toInt - 1) : gvF a2 (pkc 12 q (y + 1).toNat) = gv := by
  rw [show (x.toInt + 1).toNat = x.toInt.toNat + 1 by omega] at h
  have h : gvF (10 * a + pch q (x.toInt.toNat : Nat) - 48) (pkc 12 q x.toInt.toNat) = gv := h
  rw [show ((x.toInt.toNat : Nat) : Int) = x.toInt by omega, ← ha] at h
  rw [show (y + 1).toNat = x.toInt.toNat by omega]; exact h
theorem gvF_x {x a gv : Int} {q : Int32} (h : gvF a (pkc 12 q (x + 1).toNat) = gv) (h0 : x < 0) : a = gv := by
  rw [show (x + 1).toNat = 0 by omega] at h; exact h
/-- the strokes of a section with its denominator: given or of so many places -/
def stF (K A B Q : Nat → Int32) (x e pl gv : Int) : Prop := (∀ j : Nat, x ≤ (j : Int) → (j : Int) < e → ¬ (K j).toInt = 7 ∧ ((K j).toInt = 10 → ((A j).toInt = 1 ∧ pl = 0 ∧ gvF 0 (pkc 12 (Q j) (B j).toInt.toNat) = gv ∧ 1 ≤ gv ∧ gv ≤ 999 ∧ (B j).toInt = nd3 gv) ∨ (¬ (A j).toInt = 1 ∧ pl = (B j).toInt ∧ gv = 0 ∧ 1 ≤ pl ∧ pl ≤ 3))) ∧ ∃ j : Nat, x ≤ (j : Int) ∧ (j : Int) < e ∧ (K j).toInt = 10
theorem stF_k {K A B Q : Nat → Int32} {x e pl gv r : Int} (h : stF K A B Q x e pl gv) : stk K A B x e pl (frE r gv pl).2.1 := fun j h0 h1 => by
  have q := h.1 j h0 h1
  refine ⟨q.1, fun hk => ?_⟩
  rcases q.2 hk with ⟨a, b, c, d, d2, e⟩ | ⟨a, b, c, d⟩
  · have eu : (frE r gv pl).2.1 = gv := by
      unfold frE
      rw [if_pos (by omega)]
      unfold frf
      rw [if_pos (Or.inl rfl)]
    rw [eu]
    have : nd3 gv ≤ 3 := by unfold nd3; (repeat' split) <;> omega
    have := nd3_p (u := gv)
    exact ⟨by omega, Or.inl ⟨a, b, e⟩⟩
  · exact ⟨by omega, Or.inr ⟨a, b⟩⟩
/-- no stroke before x -/
def stN (K : Nat → Int32) (x y : Int) : Prop := ∀ j : Nat, x ≤ (j : Int) → (j : Int) < y → ¬ (K j).toInt = 10
theorem stN_i {K : Nat → Int32} {x : Int} : stN K x x := fun j h0 h1 => by omega
theorem stN_s {K : Nat → Int32} {x : Int} {y : Int32} {z : Int} (h : stN K x y.toInt) (h0 : 0 ≤ y.toInt) (hk : ¬ (K y.toNatClampNeg).toInt = 10) (hz : z = y.toInt + 1) : stN K x z := fun j a b => by
  by_cases c : j = y.toNatClampNeg
  · subst c; exact hk
  · exact h j a (by rw [zcl] at c; omega)
theorem stN_b {K A B Q : Nat → Int32} {x y e pl gv : Int} (h : stN K x y) (hF : stF K A B Q x e pl gv) : y < e := by
  obtain ⟨j, a, b, c⟩ := hF.2
  rcases Int.lt_or_le y e with q | q
  · exact q
  · exact absurd c (h j a (by omega))
def stX (K A B Q : Nat → Int32) (x e pl gv : Int) (y : Int32) : Prop := (x ≤ y.toInt ∧ y.toInt < e) ∧ (((A y.toNatClampNeg).toInt = 1 ∧ pl = 0 ∧ gvF 0 (pkc 12 (Q y.toNatClampNeg) (B y.toNatClampNeg).toInt.toNat) = gv ∧ 1 ≤ gv ∧ gv ≤ 999 ∧ 1 ≤ (B y.toNatClampNeg).toInt ∧ (B y.toNatClampNeg).toInt ≤ 3) ∨ (¬ (A y.toNatClampNeg).toInt = 1 ∧ pl = (B y.toNatClampNeg).toInt ∧ gv = 0 ∧ 1 ≤ pl ∧ pl ≤ 3))
theorem stX_i {K A B Q : Nat → Int32} {x e pl gv : Int} {y : Int32} (hF : stF K A B Q x e pl gv) (h : stN K x y.toInt) (h0 : 0 ≤ x) (hx : x ≤ y.toInt) (hk : (K y.toNatClampNeg).toInt = 10) : stX K A B Q x e pl gv y := by
  have hb := stN_b h hF
  refine ⟨⟨hx, hb⟩, ?_⟩
  rcases (hF.1 y.toNatClampNeg (by rw [zcl]; omega) (by rw [zcl]; omega)).2 hk with ⟨a, b, c, d, d2, e⟩ | r
  · have : 1 ≤ nd3 gv ∧ nd3 gv ≤ 3 := by unfold nd3; (repeat' split) <;> omega
    exact Or.inl ⟨a, b, c, d, d2, by omega, by omega⟩
  · exact Or.inr r
theorem stX_b {K A B Q : Nat → Int32} {x e pl gv : Int} {y : Int32} (h : stX K A B Q x e pl gv y) : (x ≤ y.toInt ∧ y.toInt < e) ∧ 1 ≤ (B y.toNatClampNeg).toInt ∧ (B y.toNatClampNeg).toInt ≤ 3 := by
  rcases h with ⟨a, b | b⟩ <;> exact ⟨a, by omega⟩
theorem p10_3 {b k : Int} (h : 0 ≤ b) (h3 : b ≤ 3) (hk : k = 10 ^ b.toNat) : 1 ≤ k ∧ k ≤ 1000 ∧ (1 ≤ b → 10 ≤ k) := by
  have l := p10_le (show b.toNat ≤ 3 by omega)
  have p := p10 b.toNat
  have e : (10 : Int) ^ 3 = 1000 := by decide
  refine ⟨by omega, by omega, fun q => ?_⟩
  have l := p10_le (show 1 ≤ b.toNat by omega)
  have e : (10 : Int) ^ 1 = 10 := by decide
  omega
theorem p10_s {k k2 x y : Int} (h : k = 10 ^ x.toNat) (h0 : 0 ≤ x) (hk : k2 = 10 * k) (hy : y = x + 1) : k2 = 10 ^ y.toNat := by
  rw [hy, show (x + 1).toNat = x.toNat + 1 by omega, Int.pow_succ, hk, h, Int.mul_comm]
theorem frG_1 {K A B Q : Nat → Int32} {x e pl gv : Int} {y : Int32} {a t : Int} (h : stX K A B Q x e pl gv y) (hA : (A y.toNatClampNeg).toInt = 1) (ha : a = gv) (ht : t = gv) : frG gv pl a t := by
  rcases h.2 with ⟨_, b, c, d, d2, _⟩ | ⟨n, _⟩
  · exact Or.inl ⟨by omega, by omega, ha, ht⟩
  · exact absurd hA n
theorem frG_0 {K A B Q : Nat → Int32} {x e pl gv : Int} {y : Int32} {a t k : Int} (h : stX K A B Q x e pl gv y) (hA : ¬ (A y.toNatClampNeg).toInt = 1) (hk : k = 10 ^ (B y.toNatClampNeg).toInt.toNat) (ha : a = 1) (ht : t = k - 1) : frG gv pl a t := by
  rcases h.2 with ⟨n, _⟩ | ⟨_, b, c, d, d2⟩
  · exact absurd n hA
  · have := p10_3 (b := pl) (k := k) (by omega) d2 (by rw [b]; exact hk)
    exact Or.inr ⟨c, ha, by rw [b, ← hk]; exact ht, by omega, by omega⟩
theorem stX_g {K A B Q : Nat → Int32} {x e pl gv : Int} {y : Int32} {z w : Int} (h : stX K A B Q x e pl gv y) (hA : (A y.toNatClampNeg).toInt = 1) (hz : z = 0) (hw : w = (B y.toNatClampNeg).toInt - 1) : gvF z (pkc 12 (Q y.toNatClampNeg) (w + 1).toNat) = gv := by
  rcases h.2 with ⟨_, b, c, _⟩ | ⟨n, _⟩
  · rw [hz, show w + 1 = (B y.toNatClampNeg).toInt by omega]; exact c
  · exact absurd hA n
