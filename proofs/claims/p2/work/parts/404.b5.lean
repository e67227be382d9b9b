/-! where a section ends, and that the items keep step with it -/
def ypl (c : Int) : Prop := c ≠ 34 ∧ c ≠ 92 ∧ c ≠ 95 ∧ c ≠ 42 ∧ c ≠ 59
def yP (f : Nat → Int32) (a b : Int) : Prop := ∀ j : Int, a ≤ j → j < b → ypl (f j.toNat).toInt
def yQ (f : Nat → Int32) (e p r : Int) : Prop := (r = p ∧ ∀ j : Int, p < j → j < e → (f j.toNat).toInt ≠ 34) ∨ (p + 2 ≤ r ∧ r ≤ e ∧ (f (r - 1).toNat).toInt = 34 ∧ ∀ j : Int, p < j → j < r - 1 → (f j.toNat).toInt ≠ 34)
theorem yQ_det {f : Nat → Int32} {e p r r' : Int} (h : yQ f e p r) (h' : yQ f e p r') : r = r' := by
  rcases h with ⟨h1, h2⟩ | ⟨h1, h2, h3, h4⟩ <;> rcases h' with ⟨k1, k2⟩ | ⟨k1, k2, k3, k4⟩
  · omega
  · exact absurd k3 (h2 _ (by omega) (by omega))
  · exact absurd h3 (k2 _ (by omega) (by omega))
  · rcases Int.lt_trichotomy r r' with c | c | c
    · exact absurd h3 (k4 _ (by omega) (by omega))
    · exact c
    · exact absurd k3 (h4 _ (by omega) (by omega))
def ypair (f : Nat → Int32) (e p : Int) : Prop := ((f p.toNat).toInt = 92 ∨ (f p.toNat).toInt = 95 ∨ (f p.toNat).toInt = 42) ∧ p + 1 < e
def ystep (f : Nat → Int32) (e p q : Int) : Prop := ((f p.toNat).toInt = 34 ∧ yQ f e p q ∧ p < q) ∨ (((f p.toNat).toInt ≠ 34 ∨ yQ f e p p) ∧ ypair f e p ∧ q = p + 2) ∨ (((f p.toNat).toInt ≠ 34 ∨ yQ f e p p) ∧ ¬ ypair f e p ∧ q = p + 1)
theorem ystep_det {f : Nat → Int32} {e p q q' : Int} (h : ystep f e p q) (h' : ystep f e p q') : q = q' := by
  rcases h with ⟨h1, h2, h3⟩ | ⟨h1, h2, h3⟩ | ⟨h1, h2, h3⟩ <;> rcases h' with ⟨k1, k2, k3⟩ | ⟨k1, k2, k3⟩ | ⟨k1, k2, k3⟩
  · exact yQ_det h2 k2
  · rcases k1 with k1 | k1
    · exact absurd h1 k1
    · have := yQ_det h2 k1; omega
  · rcases k1 with k1 | k1
    · exact absurd h1 k1
    · have := yQ_det h2 k1; omega
  · rcases h1 with h1 | h1
    · exact absurd k1 h1
    · have := yQ_det k2 h1; omega
  · omega
  · exact absurd h2 k2
  · rcases h1 with h1 | h1
    · exact absurd k1 h1
    · have := yQ_det k2 h1; omega
  · exact absurd k2 h2
  · omega
def yT (f : Nat → Int32) (e to : Int) : Nat → Int → Prop
  | 0, _ => False
  | n + 1, p => (e ≤ p ∧ to = p) ∨ (p < e ∧ (f p.toNat).toInt = 59 ∧ to = p) ∨ (p < e ∧ (f p.toNat).toInt ≠ 59 ∧ ∃ q, ystep f e p q ∧ yT f e to n q)
def yS (f : Nat → Int32) (e to p : Int) : Prop := ∃ n, yT f e to n p
theorem yS_end {f : Nat → Int32} {e p : Int} (h : e ≤ p) : yS f e p p := ⟨1, Or.inl ⟨h, rfl⟩⟩
theorem yS_semi {f : Nat → Int32} {e p : Int} (h : p < e) (h2 : (f p.toNat).toInt = 59) : yS f e p p := ⟨1, Or.inr (Or.inl ⟨h, h2, rfl⟩)⟩
theorem yS_back {f : Nat → Int32} {e to p q : Int} (h : p < e) (h2 : (f p.toNat).toInt ≠ 59) (hs : ystep f e p q) (hq : yS f e to q) : yS f e to p := by
  obtain ⟨n, hn⟩ := hq
  exact ⟨n + 1, Or.inr (Or.inr ⟨h, h2, q, hs, hn⟩)⟩
theorem yS_fwd {f : Nat → Int32} {e to p q : Int} (hS : yS f e to p) (h : p < e) (h2 : (f p.toNat).toInt ≠ 59) (hs : ystep f e p q) : yS f e to q := by
  obtain ⟨n, hn⟩ := hS
  cases n with
  | zero => exact absurd hn id
  | succ n =>
    rcases hn with ⟨h3, _⟩ | ⟨_, h3, _⟩ | ⟨_, _, q', hq', hT⟩
    · omega
    · exact absurd h3 h2
    · rw [ystep_det hs hq']; exact ⟨n, hT⟩
theorem yS_lt {f : Nat → Int32} {e to p : Int} (hS : yS f e to p) (h : p < to) : p < e ∧ (f p.toNat).toInt ≠ 59 := by
  obtain ⟨n, hn⟩ := hS
  cases n with
  | zero => exact absurd hn id
  | succ n =>
    rcases hn with ⟨_, h3⟩ | ⟨_, _, h3⟩ | ⟨h3, h4, _⟩
    · omega
    · omega
    · exact ⟨h3, h4⟩
theorem ystep_bd {f : Nat → Int32} {e p q : Int} (hs : ystep f e p q) (h : p < e) : p < q ∧ q ≤ e := by
  rcases hs with ⟨_, h2, h3⟩ | ⟨_, h2, h3⟩ | ⟨_, h2, h3⟩
  · rcases h2 with ⟨h4, _⟩ | ⟨h4, h5, _⟩ <;> omega
  · have := h2.2; omega
  · omega
theorem yT_le {f : Nat → Int32} {e to : Int} : ∀ (n : Nat) (p : Int), p ≤ e → yT f e to n p → p ≤ to ∧ to ≤ e
  | 0, _, _, h => absurd h id
  | n + 1, p, hp, h => by
    rcases h with ⟨h1, h2⟩ | ⟨h1, h2, h3⟩ | ⟨h1, h2, q, hq, hT⟩
    · omega
    · omega
    · have b := ystep_bd hq h1
      have := yT_le n q b.2 hT
      omega
theorem yS_le {f : Nat → Int32} {e to p : Int} (hS : yS f e to p) (hp : p ≤ e) : p ≤ to ∧ to ≤ e := by
  obtain ⟨n, hn⟩ := hS
  exact yT_le n p hp hn
theorem ystep_pl {f : Nat → Int32} {e p : Int} (h : ypl (f p.toNat).toInt) : ystep f e p (p + 1) := by
  obtain ⟨h1, h2, h3, h4, h5⟩ := h
  exact Or.inr (Or.inr ⟨Or.inl h1, fun c => by rcases c.1 with c | c | c <;> contradiction, rfl⟩)
theorem yS_plain {f : Nat → Int32} {e to : Int} : ∀ (n : Nat) (a : Int), a + n ≤ e → yP f a (a + n) → yS f e to a → yS f e to (a + n)
  | 0, a, _, _, h => by simpa using h
  | n + 1, a, he, hP, h => by
    have p0 := hP a (by omega) (by omega)
    have h1 := yS_fwd h (by omega) p0.2.2.2.2 (ystep_pl p0)
    have h2 := yS_plain n (a + 1) (by omega) (fun j hj hk => hP j (by omega) (by omega)) h1
    have e2 : a + 1 + (n : Int) = a + ((n + 1 : Nat) : Int) := by omega
    rwa [e2] at h2
theorem yS_pl {f : Nat → Int32} {e to a b : Int} (hab : a ≤ b) (he : b ≤ e) (hP : yP f a b) (h : yS f e to a) : yS f e to b := by
  have := yS_plain (f := f) (e := e) (to := to) (b - a).toNat a (by omega) (by rw [show a + ((b - a).toNat : Int) = b by omega]; exact hP) h
  rwa [show a + ((b - a).toNat : Int) = b by omega] at this
theorem yP_nil {f : Nat → Int32} {a : Int} : yP f a a := fun j h1 h2 => by omega
theorem yP_cons {f : Nat → Int32} {a b : Int} (h : ypl (f a.toNat).toInt) (h2 : yP f (a + 1) b) : yP f a b := fun j h1 h3 => by
  rcases Int.lt_or_le a j with c | c
  · exact h2 j (by omega) h3
  · rw [show j = a by omega]; exact h
theorem yP_snoc {f : Nat → Int32} {a b : Int} (h2 : yP f a b) (h : ypl (f b.toNat).toInt) : yP f a (b + 1) := fun j h1 h3 => by
  rcases Int.lt_or_le j b with c | c
  · exact h2 j h1 c
  · rw [show j = b by omega]; exact h
theorem yP_app {f : Nat → Int32} {a b c : Int} (h1 : yP f a b) (h2 : yP f b c) : yP f a c := fun j ha hc => by
  rcases Int.lt_or_le j b with k | k
  · exact h1 j ha k
  · exact h2 j k hc
def ych (f : Nat → Int32) (e p : Int) : Int := if p < e then (f p.toNat).toInt else 0
def ysm (c : Int) : Int := if 65 ≤ c ∧ c ≤ 90 then c + 32 else c
theorem ypl_of {f : Nat → Int32} {e p : Int} {b : Int} (h : ysm (ych f e p) = b) (hb : ypl b) (h0 : b ≠ 0) : p < e ∧ ypl (f p.toNat).toInt := by
  unfold ych at h
  split at h
  · refine ⟨by assumption, ?_⟩
    unfold ysm at h
    unfold ypl at hb ⊢
    split at h <;> omega
  · exfalso; apply h0; rw [← h]; rfl
def zby8 (w : Int64) (n k : Int32) : Int := ((w >>> (((8 : Int32) * ((n - (1 : Int32)) - k)).toInt64 &&& 63)) &&& (255 : Int64)).toInt32.toInt
def zup (w : Int64) (m : Int32) : Prop := (w >>> (((8 : Int32) * m).toInt64 &&& 63)) ≤ (0 : Int64)
def ySt (f : Nat → Int32) (e p : Int) (w : Int64) : Prop := ∃ n : Int32, 0 ≤ n.toInt ∧ n.toInt ≤ 8 ∧ (8 ≤ n.toInt ∨ zup w n) ∧ (∀ m : Int32, 0 ≤ m.toInt → m.toInt < n.toInt → ¬ zup w m) ∧ ∀ k : Int32, 0 ≤ k.toInt → k.toInt < n.toInt → ysm (ych f e (p + k.toInt)) = zby8 w n k
def yplB (c : Int) : Bool := c != 34 && c != 92 && c != 95 && c != 42 && c != 59 && c != 0
theorem yplB_of {c : Int} (h : yplB c = true) : ypl c ∧ c ≠ 0 := by
  simp only [yplB, Bool.and_eq_true, bne_iff_ne, ne_eq] at h
  unfold ypl
  omega
def zupB (w : Int64) (m : Int32) : Bool := decide ((w >>> (((8 : Int32) * m).toInt64 &&& 63)) ≤ (0 : Int64))
theorem zupB_iff {w : Int64} {m : Int32} : zupB w m = true ↔ zup w m := by unfold zupB zup; exact decide_eq_true_iff
/-- word w has N bytes, all of them plain -/
def zwok (w : Int64) (N : Nat) : Bool := decide (N ≤ 8) && (List.range N).all (fun k => !zupB w (nI k) && yplB (zby8 w (nI N) (nI k))) && (decide (N = 8) || zupB w (nI N))
theorem zof {x : Int32} (h0 : 0 ≤ x.toInt) : ∃ k : Nat, x = nI k ∧ (k : Int) = x.toInt ∧ k < 2 ^ 31 := by
  have := zhi x
  refine ⟨x.toInt.toNat, ?_, by omega, by omega⟩
  rw [zle_eq, znI (by omega)]; omega
theorem ySt_lit {f : Nat → Int32} {e p : Int} {w : Int64} (N : Nat) (h : ySt f e p w) (hw : zwok w N = true) : p + N ≤ max e p ∧ (0 < N → p + N ≤ e) ∧ yP f p (p + N) := by
  obtain ⟨n, h0, h8, hend, hup, hby⟩ := h
  simp only [zwok, Bool.and_eq_true, Bool.or_eq_true, decide_eq_true_eq, List.all_eq_true, List.mem_range, Bool.not_eq_true'] at hw
  obtain ⟨⟨hN, hall⟩, hlast⟩ := hw
  obtain ⟨k, rfl, hk, hk2⟩ := zof h0
  have hkN : k = N := by
    rcases Nat.lt_trichotomy k N with c | c | c
    · have h1 := (hall k c).1
      rcases hend with h2 | h2
      · omega
      · rw [zupB_iff.mpr h2] at h1; exact absurd h1 (by decide)
    · exact c
    · rcases hlast with h2 | h2
      · omega
      · exact absurd (zupB_iff.mp h2) (hup (nI N) (by rw [znI (by omega)]; omega) (by rw [znI (by omega)]; omega))
  subst hkN
  have key : ∀ j : Nat, j < k → p + j < e ∧ ypl (f (p + j).toNat).toInt := fun j hj => by
    have h1 := hby (nI j) (by rw [znI (by omega)]; omega) (by rw [znI (by omega)]; omega)
    rw [znI (by omega)] at h1
    have h2 := yplB_of (hall j hj).2
    exact ypl_of h1 h2.1 h2.2
  refine ⟨?_, fun hpos => ?_, fun j h1 h2 => ?_⟩
  · rcases Nat.eq_zero_or_pos k with c | c
    · omega
    · have := (key (k - 1) (by omega)).1; omega
  · have := (key (k - 1) (by omega)).1; omega
  · have := (key (j - p).toNat (by omega)).2
    rwa [show p + ((j - p).toNat : Int) = j by omega] at this
theorem zw1 : zwok 422725116779 5 = true := by decide +kernel
theorem zw2 : zwok 444300879214 5 = true := by decide +kernel
theorem zw3 : zwok 512852849765 5 = true := by decide +kernel
theorem zw4 : zwok 1651275109 4 = true := by decide +kernel
theorem zw5 : zwok 1668899182 4 = true := by decide +kernel
theorem zw6 : zwok 7497060 3 = true := by decide +kernel
theorem zw7 : zwok 133476517703543 6 = true := by decide +kernel
theorem zw8 : zwok 30787869172724833 7 = true := by decide +kernel
