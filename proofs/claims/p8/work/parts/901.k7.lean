def kLit (c : Int) : Prop := c = 46 ∨ c = 44 ∨ c = 47 ∨ c = 37
/-- up to three places from p on -/
def kPn (f : Nat → Int32) (e p n : Int) : Prop := 0 ≤ n ∧ n ≤ 3 ∧ (∀ j : Int, 0 ≤ j → j < n → kPl (ych f e (p + j))) ∧ (n = 3 ∨ ¬ kPl (ych f e (p + n)))
/-- up to three digits from p on -/
def kDn (f : Nat → Int32) (e p n : Int) : Prop := 0 ≤ n ∧ n ≤ 3 ∧ (∀ j : Int, 0 ≤ j → j < n → 48 ≤ ych f e (p + j) ∧ ych f e (p + j) ≤ 57) ∧ (n = 3 ∨ ¬ (48 ≤ ych f e (p + n) ∧ ych f e (p + n) ≤ 57))
def kNu (f : Nat → Int32) (e p la pt pa co pe r kd' la' pt' pa' co' pe' : Int) : Prop :=
  (kPl (ysm (ych f e p)) ∧ ((pt = 1 ∧ r = 1 ∧ la' = 3) ∨ (pt = 0 ∧ pa = 1 ∧ r = 0) ∨ (pt = 0 ∧ pa = 0 ∧ r = 1 ∧ la' = 2)) ∧ (0 < r → kd' = 2 ∧ pt' = pt ∧ pa' = pa ∧ co' = co ∧ pe' = pe))
  ∨ (ysm (ych f e p) = 46 ∧ ((pt = 1 ∧ r = 0) ∨ (pt = 0 ∧ r = 1 ∧ la' = 0 ∧ pt' = 1)) ∧ (0 < r → kd' = 2 ∧ pa' = pa ∧ co' = co ∧ pe' = pe))
  ∨ (ysm (ych f e p) = 44 ∧ ((la = 2 ∧ kPl (ych f e (p + 1)) ∧ r = 1 ∧ la' = 0 ∧ pa' = pa) ∨ ((la = 2 ∧ ¬ kPl (ych f e (p + 1)) ∨ la = 6) ∧ r = 1 ∧ la' = 6 ∧ pa' = 1) ∨ (¬ la = 2 ∧ ¬ la = 6 ∧ r = 0)) ∧ (0 < r → kd' = 2 ∧ co' = 1 ∧ pt' = pt ∧ pe' = pe))
  ∨ (ysm (ych f e p) = 37 ∧ r = 1 ∧ kd' = 2 ∧ la' = 0 ∧ pt' = pt ∧ pa' = pa ∧ co' = co ∧ pe' = 1)
  ∨ (ysm (ych f e p) = 101 ∧ (((la = 2 ∨ la = 3) ∧ co = 0 ∧ pe = 0 ∧ (ych f e (p + 1) = 43 ∨ ych f e (p + 1) = 45) ∧ kPl (ych f e (p + 2)) ∧ (∃ n : Int, kPn f e (p + 2) n ∧ r = 2 + n) ∧ kd' = 3) ∨ (¬ ((la = 2 ∨ la = 3) ∧ co = 0 ∧ pe = 0 ∧ (ych f e (p + 1) = 43 ∨ ych f e (p + 1) = 45) ∧ kPl (ych f e (p + 2))) ∧ r = 0)))
  ∨ (ysm (ych f e p) = 47 ∧ ((la = 2 ∧ co = 0 ∧ pe = 0 ∧ pt = 0 ∧ kd' = 4 ∧ ((kPl (ych f e (p + 1)) ∧ ∃ n : Int, kPn f e (p + 1) n ∧ r = 1 + n) ∨ ((49 ≤ ych f e (p + 1) ∧ ych f e (p + 1) ≤ 57) ∧ ∃ n : Int, kDn f e (p + 1) n ∧ r = 1 + n))) ∨ (¬ (la = 2 ∧ co = 0 ∧ pe = 0 ∧ pt = 0 ∧ (kPl (ych f e (p + 1)) ∨ (49 ≤ ych f e (p + 1) ∧ ych f e (p + 1) ≤ 57))) ∧ r = 0)))
  ∨ ((¬ kPl (ysm (ych f e p)) ∧ ¬ ysm (ych f e p) = 46 ∧ ¬ ysm (ych f e p) = 44 ∧ ¬ ysm (ych f e p) = 37 ∧ ¬ ysm (ych f e p) = 101 ∧ ¬ ysm (ych f e p) = 47) ∧ r = 0)
def kDa (f : Nat → Int32) (e p la r la' : Int) : Prop :=
  (kRw (ysm (ych f e p)) ∧ ∃ n : Int, kRun f e p n ∧ (((ysm (ych f e p) = 121 ∧ (n = 2 ∨ n = 4) ∨ ysm (ych f e p) = 109 ∧ n ≤ 5 ∨ ysm (ych f e p) = 100 ∧ n ≤ 4 ∨ (ysm (ych f e p) = 104 ∨ ysm (ych f e p) = 115) ∧ n ≤ 2) ∧ r = n) ∨ (¬ (ysm (ych f e p) = 121 ∧ (n = 2 ∨ n = 4) ∨ ysm (ych f e p) = 109 ∧ n ≤ 5 ∨ ysm (ych f e p) = 100 ∧ n ≤ 4 ∨ (ysm (ych f e p) = 104 ∨ ysm (ych f e p) = 115) ∧ n ≤ 2) ∧ r = 0)) ∧ (0 < r → (ysm (ych f e p) = 115 ∧ la' = 25 ∨ ¬ ysm (ych f e p) = 115 ∧ la' = 0)))
  ∨ (ych f e p = 91 ∧ ∃ n : Int, kBr f e p n ∧ ((1 ≤ n ∧ n ≤ 2 ∧ r = n + 2) ∨ (¬ (1 ≤ n ∧ n ≤ 2) ∧ r = 0)) ∧ (0 < r → (ysm (ych f e (p + 1)) = 115 ∧ la' = 25 ∨ ¬ ysm (ych f e (p + 1)) = 115 ∧ la' = 0)))
  ∨ (ysm (ych f e p) = 97 ∧ (kW f e p k_am ∧ r = 5 ∨ ¬ kW f e p k_am ∧ kW f e p k_ap ∧ r = 3 ∨ ¬ kW f e p k_am ∧ ¬ kW f e p k_ap ∧ r = 0) ∧ (0 < r → la' = 0))
  ∨ (ych f e p = 46 ∧ ((la = 25 ∧ ych f e (p + 1) = 48 ∧ ∃ n : Int, kRun f e (p + 1) n ∧ (n ≤ 3 ∧ r = 1 + n ∨ 3 < n ∧ r = 0)) ∨ (¬ (la = 25 ∧ ych f e (p + 1) = 48) ∧ r = 1)) ∧ (0 < r → la' = 0))
  ∨ ((ych f e p = 44 ∨ ych f e p = 47 ∨ ych f e p = 37) ∧ r = 1 ∧ la' = 0)
  ∨ ((¬ kRw (ysm (ych f e p)) ∧ ¬ ych f e p = 91 ∧ ¬ ysm (ych f e p) = 97 ∧ ¬ kLit (ych f e p)) ∧ r = 0)
theorem kPn_det {f : Nat → Int32} {e p n m : Int} (h : kPn f e p n) (k : kPn f e p m) : n = m := by
  obtain ⟨a, b, c, d⟩ := h; obtain ⟨a', b', c', d'⟩ := k
  rcases Int.lt_trichotomy n m with q | q | q
  · exact absurd (c' n a q) (d.resolve_left (by omega))
  · exact q
  · exact absurd (c m a' q) (d'.resolve_left (by omega))
theorem kDn_det {f : Nat → Int32} {e p n m : Int} (h : kDn f e p n) (k : kDn f e p m) : n = m := by
  obtain ⟨a, b, c, d⟩ := h; obtain ⟨a', b', c', d'⟩ := k
  rcases Int.lt_trichotomy n m with q | q | q
  · exact absurd (c' n a q) (d.resolve_left (by omega))
  · exact q
  · exact absurd (c m a' q) (d'.resolve_left (by omega))
theorem kPn_pos {f : Nat → Int32} {e p n : Int} (h : kPn f e p n) (hp : kPl (ych f e p)) : 1 ≤ n := by
  rcases Int.lt_or_le 0 n with c | c
  · omega
  · have := h.1; have e0 : n = 0 := by omega
    subst e0
    rcases h.2.2.2 with d | d
    · omega
    · exact absurd (by rw [Int.add_zero]; exact hp) d
theorem kPn_step {f : Nat → Int32} {e p x r : Int} (h : ∀ j : Int, 0 ≤ j → j < x → kPl (ych f e (p + j))) (hr : r = x + 1) (hx : kPl (ych f e (p + x))) : ∀ j : Int, 0 ≤ j → j < r → kPl (ych f e (p + j)) := fun j h0 h1 => by
  rcases Int.lt_or_le j x with c | c
  · exact h j h0 c
  · rw [show j = x by omega]; exact hx
theorem kPn_nil {f : Nat → Int32} {e p x : Int} (hx : x ≤ 0) : ∀ j : Int, 0 ≤ j → j < x → kPl (ych f e (p + j)) := fun j h0 h1 => by omega
theorem kPn_e {f : Nat → Int32} {e p x r : Int} (h : ∀ j : Int, 0 ≤ j → j < x → kPl (ych f e (p + j))) (h0 : 0 ≤ x) (h3 : x = 3) (hr : r = x) : kPn f e p r := by subst hr; exact ⟨h0, by omega, h, Or.inl h3⟩
theorem kPn_x {f : Nat → Int32} {e p x r : Int} (h : ∀ j : Int, 0 ≤ j → j < x → kPl (ych f e (p + j))) (h0 : 0 ≤ x) (h3 : x ≤ 3) (hr : r = x) (hx : ¬ kPl (ych f e (p + x))) : kPn f e p r := by subst hr; exact ⟨h0, h3, h, Or.inr hx⟩
theorem kDn_step {f : Nat → Int32} {e p x r : Int} (h : ∀ j : Int, 0 ≤ j → j < x → 48 ≤ ych f e (p + j) ∧ ych f e (p + j) ≤ 57) (hr : r = x + 1) (hx : 48 ≤ ych f e (p + x) ∧ ych f e (p + x) ≤ 57) : ∀ j : Int, 0 ≤ j → j < r → 48 ≤ ych f e (p + j) ∧ ych f e (p + j) ≤ 57 := fun j h0 h1 => by
  rcases Int.lt_or_le j x with c | c
  · exact h j h0 c
  · rw [show j = x by omega]; exact hx
theorem kDn_nil {f : Nat → Int32} {e p x : Int} (hx : x ≤ 0) : ∀ j : Int, 0 ≤ j → j < x → 48 ≤ ych f e (p + j) ∧ ych f e (p + j) ≤ 57 := fun j h0 h1 => by omega
theorem kDg_0 {f : Nat → Int32} {e p r : Int} (h : ych f e p = 48) (hr : r = 0) : (ych f e p = 48 ∧ r = 0) ∨ (¬ ych f e p = 48 ∧ kDn f e p r) := Or.inl ⟨h, hr⟩
theorem kDg_e {f : Nat → Int32} {e p x r : Int} (h : ∀ j : Int, 0 ≤ j → j < x → 48 ≤ ych f e (p + j) ∧ ych f e (p + j) ≤ 57) (hn : ¬ ych f e p = 48) (h3 : x = 3) (hr : r = x) : (ych f e p = 48 ∧ r = 0) ∨ (¬ ych f e p = 48 ∧ kDn f e p r) := by subst hr; exact Or.inr ⟨hn, by omega, by omega, h, Or.inl h3⟩
theorem kDg_x {f : Nat → Int32} {e p x r : Int} (h : ∀ j : Int, 0 ≤ j → j < x → 48 ≤ ych f e (p + j) ∧ ych f e (p + j) ≤ 57) (h0 : 0 ≤ x) (h3 : x ≤ 3) (hn : x = 0 ∨ ¬ ych f e p = 48) (hr : r = x) (hx : ¬ (48 ≤ ych f e (p + x) ∧ ych f e (p + x) ≤ 57)) : (ych f e p = 48 ∧ r = 0) ∨ (¬ ych f e p = 48 ∧ kDn f e p r) := by
  subst hr
  refine Or.inr ⟨?_, h0, h3, h, Or.inr hx⟩
  rcases hn with c | c
  · subst c; rw [Int.add_zero] at hx; omega
  · exact c

def kcls (k : Int) : Int := if k = 2 then 2 else if k = 3 then 3 else if k = 6 then 6 else if k = 25 ∨ k = 28 then 25 else 0
/-- what the last item is of a section that begins at item a, n items in all -/
def kLa (g : Nat → Int32) (a n la : Int) : Prop := (n ≤ a ∧ la = 0) ∨ (a < n ∧ la = kcls (g (n - 1).toNat).toInt)
theorem kLa_add {g : Nat → Int32} {a n m : Int} {x : Int32} {k : Int32} (hx : x.toInt = n) (h0 : 0 ≤ n) (ha : a ≤ n) (hm : m = n + 1) : kLa (upd g x.toNatClampNeg k) a m (kcls k.toInt) := by
  refine Or.inr ⟨by omega, ?_⟩
  rw [show (m - 1).toNat = x.toNatClampNeg by rw [zcl]; omega, pk_us]

/-! one item, the run of a section, a code: relations and their determinism -/
def kps (x : Int) : Int := if 0 < x then 1 else 0
def kco (th tt : Int) : Int := if th = 0 ∧ tt ≤ 0 then 0 else 1
def kLf (g : Nat → Int32) (a n : Int) : Int := if a < n then kcls (g (n - 1).toNat).toInt else 0
theorem kLf_add {g : Nat → Int32} {a n m : Int} {x : Int32} {k : Int32} (hx : x.toInt = n) (h0 : 0 ≤ n) (ha : a ≤ n) (hm : m = n + 1) : kLf (upd g x.toNatClampNeg k) a m = kcls k.toInt := by
  unfold kLf
  rw [if_pos (by omega), show (m - 1).toNat = x.toNatClampNeg by rw [zcl]; omega, pk_us]
theorem kNu_det {f : Nat → Int32} {e p la pt pa co pe r kd la1 pt1 pa1 co1 pe1 s ld la2 pt2 pa2 co2 pe2 : Int}
    (h : kNu f e p la pt pa co pe r kd la1 pt1 pa1 co1 pe1) (k : kNu f e p la pt pa co pe s ld la2 pt2 pa2 co2 pe2) :
    r = s ∧ (0 < r → kd = ld ∧ (kd = 2 → la1 = la2 ∧ pt1 = pt2 ∧ pa1 = pa2 ∧ co1 = co2 ∧ pe1 = pe2)) := by
  unfold kNu at h k
  rcases h with ⟨c, h⟩ | ⟨c, h⟩ | ⟨c, h⟩ | ⟨c, h⟩ | ⟨c, h⟩ | ⟨c, h⟩ | ⟨c, h⟩ <;> rcases k with ⟨d, k⟩ | ⟨d, k⟩ | ⟨d, k⟩ | ⟨d, k⟩ | ⟨d, k⟩ | ⟨d, k⟩ | ⟨d, k⟩ <;> (try (exfalso; clear h k; unfold kPl at c d; omega)) <;> (try (exfalso; clear h k; unfold kPl at c; omega)) <;> (try (exfalso; clear h k; unfold kPl at d; omega)) <;> (try (exfalso; clear h k; omega))
  · obtain ⟨h, h'⟩ := h; obtain ⟨k, k'⟩ := k; omega
  · obtain ⟨h, h'⟩ := h; obtain ⟨k, k'⟩ := k; omega
  · obtain ⟨h, h'⟩ := h; obtain ⟨k, k'⟩ := k
    by_cases q : kPl (ych f e (p + 1)) <;> simp only [q, not_true_eq_false, not_false_eq_true, true_and, false_and, and_true, and_false, or_false, false_or] at h k <;> omega
  · omega
  · rcases h with ⟨a1, a2, a3, a4, a5, ⟨n, hn, hr⟩, a6⟩ | ⟨a, hr⟩ <;> rcases k with ⟨b1, b2, b3, b4, b5, ⟨m, hm, hs⟩, b6⟩ | ⟨b, hs⟩
    · have := kPn_det hn hm; omega
    · exact absurd ⟨a1, a2, a3, a4, a5⟩ b
    · exact absurd ⟨b1, b2, b3, b4, b5⟩ a
    · omega
  · rcases h with ⟨a1, a2, a3, a4, a5, ha⟩ | ⟨a, hr⟩ <;> rcases k with ⟨b1, b2, b3, b4, b5, hb⟩ | ⟨b, hs⟩
    · rcases ha with ⟨c1, n, hn, hr⟩ | ⟨c1, n, hn, hr⟩ <;> rcases hb with ⟨d1, m, hm, hs⟩ | ⟨d1, m, hm, hs⟩
      · have := kPn_det hn hm; omega
      · exfalso; unfold kPl at c1; omega
      · exfalso; unfold kPl at d1; omega
      · have := kDn_det hn hm; omega
    · exact absurd ⟨a1, a2, a3, a4, ha.elim (fun c => Or.inl c.1) (fun c => Or.inr c.1)⟩ b
    · exact absurd ⟨b1, b2, b3, b4, hb.elim (fun c => Or.inl c.1) (fun c => Or.inr c.1)⟩ a
    · omega
  · omega
theorem ysm_46 {c : Int} (h : c = 46 ∨ c = 44 ∨ c = 47 ∨ c = 37 ∨ c = 91) : ysm c = c := by unfold ysm; split <;> omega
theorem kDa_det {f : Nat → Int32} {e p la r la1 s la2 : Int} (h : kDa f e p la r la1) (k : kDa f e p la s la2) : r = s ∧ (0 < r → la1 = la2) := by
  unfold kDa at h k
  have g1 : ych f e p = 91 → ysm (ych f e p) = 91 := fun c => (ysm_46 (by omega)).trans c
  have g2 : ych f e p = 46 → ysm (ych f e p) = 46 := fun c => (ysm_46 (by omega)).trans c
  have g3 : (ych f e p = 44 ∨ ych f e p = 47 ∨ ych f e p = 37) → ysm (ych f e p) = ych f e p := fun c => ysm_46 (by omega)
  rcases h with ⟨c, h⟩ | ⟨c, h⟩ | ⟨c, h⟩ | ⟨c, h⟩ | ⟨c, h⟩ | ⟨⟨c, c1, c2, c3⟩, h⟩ <;> rcases k with ⟨d, k⟩ | ⟨d, k⟩ | ⟨d, k⟩ | ⟨d, k⟩ | ⟨d, k⟩ | ⟨⟨d, d1, d2, d3⟩, k⟩ <;> (try (exfalso; clear h k; (first | unfold kRw at c d | unfold kRw at c | unfold kRw at d | skip); (first | unfold kLit at c3 d3 | unfold kLit at c3 | unfold kLit at d3 | skip); omega))
  · obtain ⟨n, hn, h, h'⟩ := h; obtain ⟨m, hm, k, k'⟩ := k
    have := kRun_det hn hm; subst this
    clear hn hm; omega
  · obtain ⟨n, hn, h, h'⟩ := h; obtain ⟨m, hm, k, k'⟩ := k
    have := kBr_det hn hm; subst this
    clear hn hm; omega
  · obtain ⟨h, h'⟩ := h; obtain ⟨k, k'⟩ := k
    rcases h with ⟨a, hr⟩ | ⟨a, b, hr⟩ | ⟨a, b, hr⟩ <;> rcases k with ⟨a2, hs⟩ | ⟨a2, b2, hs⟩ | ⟨a2, b2, hs⟩ <;> first | exact absurd a a2 | exact absurd a2 a | exact absurd b b2 | exact absurd b2 b | omega
  · obtain ⟨h, h'⟩ := h; obtain ⟨k, k'⟩ := k
    rcases h with ⟨a, b, n, hn, hr⟩ | ⟨a, hr⟩ <;> rcases k with ⟨a2, b2, m, hm, hs⟩ | ⟨a2, hs⟩
    · have := kRun_det hn hm; subst this
      clear hn hm; omega
    · exact absurd ⟨a, b⟩ a2
    · exact absurd ⟨a2, b2⟩ a
    · omega
  · omega
  · omega
def kIt (f : Nat → Int32) (e p kd la pt pa co pe r kd' la' pt' pa' co' pe' : Int) : Prop :=
  ∃ c : Int, kCl f e p c ∧ ((0 < c ∧ r = c ∧ kd' = kd ∧ la' = 0 ∧ pt' = pt ∧ pa' = pa ∧ co' = co ∧ pe' = pe)
    ∨ (c ≤ 0 ∧ ((kd = 2 ∧ kNu f e p la pt pa co pe r kd' la' pt' pa' co' pe') ∨ (kd = 5 ∧ kDa f e p la r la' ∧ kd' = 5)
      ∨ (kd = 6 ∧ ((ych f e p = 64 ∨ kLit (ych f e p)) ∧ r = 1 ∨ ¬ (ych f e p = 64 ∨ kLit (ych f e p)) ∧ r = 0) ∧ kd' = 6)
      ∨ (kd = 1 ∧ (kLit (ych f e p) ∧ r = 1 ∨ ¬ kLit (ych f e p) ∧ r = 0) ∧ kd' = 1)
      ∨ ((kd = 3 ∨ kd = 4) ∧ r = 0))))
def kEq (kd la pt pa co pe la2 pt2 pa2 co2 pe2 : Int) : Prop := (kd = 2 → la = la2 ∧ pt = pt2 ∧ pa = pa2 ∧ co = co2 ∧ pe = pe2) ∧ (kd = 5 → la = la2)
theorem kIt_det {f : Nat → Int32} {e p kd la pt pa co pe r kd1 la1 pt1 pa1 co1 pe1 lb qt qa qo qe s kd2 la2 pt2 pa2 co2 pe2 : Int}
    (h : kIt f e p kd la pt pa co pe r kd1 la1 pt1 pa1 co1 pe1) (k : kIt f e p kd lb qt qa qo qe s kd2 la2 pt2 pa2 co2 pe2) (hq : kEq kd la pt pa co pe lb qt qa qo qe) :
    r = s ∧ (0 < r → kd1 = kd2 ∧ kEq kd1 la1 pt1 pa1 co1 pe1 la2 pt2 pa2 co2 pe2) := by
  obtain ⟨c, hc, h⟩ := h; obtain ⟨d, hd, k⟩ := k
  have := kCl_det hc hd; subst this
  clear hc hd
  unfold kEq at hq ⊢
  rcases h with ⟨c0, h⟩ | ⟨c0, h⟩ <;> rcases k with ⟨d0, k⟩ | ⟨d0, k⟩ <;> (try (exfalso; clear h k; omega))
  · omega
  · rcases h with ⟨a, h⟩ | ⟨a, h, h'⟩ | ⟨a, h, h'⟩ | ⟨a, h, h'⟩ | ⟨a, h⟩ <;> rcases k with ⟨b, k⟩ | ⟨b, k, k'⟩ | ⟨b, k, k'⟩ | ⟨b, k, k'⟩ | ⟨b, k⟩ <;> (try (exfalso; clear h k; omega))
    · obtain ⟨q1, q2, q3, q4, q5⟩ := hq.1 a
      subst q1; subst q2; subst q3; subst q4; subst q5
      obtain ⟨g1, g2⟩ := kNu_det h k
      refine ⟨g1, fun hr => ⟨(g2 hr).1, (g2 hr).2, fun c5 => ?_⟩⟩
      exfalso
      clear hq g1
      have g3 := g2 hr
      clear g2
      unfold kNu at h
      rcases h with ⟨_, h⟩ | ⟨_, h⟩ | ⟨_, h⟩ | ⟨_, h⟩ | ⟨_, h⟩ | ⟨_, h⟩ | ⟨_, h⟩
      · omega
      · omega
      · have := h.2 hr; omega
      · omega
      · rcases h with h | h
        · omega
        · omega
      · rcases h with h | h
        · omega
        · omega
      · omega
    · have q := hq.2 a; subst q
      obtain ⟨g1, g2⟩ := kDa_det h k
      refine ⟨g1, fun hr => ⟨by omega, fun c => by omega, fun _ => g2 hr⟩⟩
    · have : r = s := by by_cases q : (ych f e p = 64 ∨ kLit (ych f e p)) <;> simp only [q, not_true_eq_false, not_false_eq_true, true_and, false_and, or_false, false_or] at h k <;> omega
      omega
    · have : r = s := by by_cases q : kLit (ych f e p) <;> simp only [q, not_true_eq_false, not_false_eq_true, true_and, false_and, or_false, false_or] at h k <;> omega
      omega
    · omega
def kRn (f : Nat → Int32) (e to : Int) : Nat → Int → Int → Int → Int → Int → Int → Int → Int → Prop
  | 0, _, _, _, _, _, _, _, _ => False
  | n + 1, p, kd, la, pt, pa, co, pe, res => (to ≤ p ∧ res = kd) ∨ (p < to ∧ ∃ r kd' la' pt' pa' co' pe' : Int, kIt f e p kd la pt pa co pe r kd' la' pt' pa' co' pe' ∧ ((r ≤ 0 ∧ res = -1) ∨ (0 < r ∧ kRn f e to n (p + r) kd' la' pt' pa' co' pe' res)))
def kR (f : Nat → Int32) (e to p kd la pt pa co pe res : Int) : Prop := ∃ n, kRn f e to n p kd la pt pa co pe res
theorem kR_end {f : Nat → Int32} {e to p kd la pt pa co pe res : Int} (h : to ≤ p) (hr : res = kd) : kR f e to p kd la pt pa co pe res := ⟨1, Or.inl ⟨h, hr⟩⟩
theorem kR_no {f : Nat → Int32} {e to p kd la pt pa co pe res r kd' la' pt' pa' co' pe' : Int} (h : p < to) (hi : kIt f e p kd la pt pa co pe r kd' la' pt' pa' co' pe') (h0 : r ≤ 0) (hr : res = -1) : kR f e to p kd la pt pa co pe res := ⟨1, Or.inr ⟨h, r, kd', la', pt', pa', co', pe', hi, Or.inl ⟨h0, hr⟩⟩⟩
theorem kR_go {f : Nat → Int32} {e to p kd la pt pa co pe res r kd' la' pt' pa' co' pe' : Int} (h : p < to) (hi : kIt f e p kd la pt pa co pe r kd' la' pt' pa' co' pe') (h0 : 0 < r) (hn : kR f e to (p + r) kd' la' pt' pa' co' pe' res) : kR f e to p kd la pt pa co pe res := by
  obtain ⟨n, hn⟩ := hn; exact ⟨n + 1, Or.inr ⟨h, r, kd', la', pt', pa', co', pe', hi, Or.inr ⟨h0, hn⟩⟩⟩
theorem kRn_det {f : Nat → Int32} {e to : Int} : ∀ (n m : Nat) (p kd la pt pa co pe lb qt qa qo qe res res2 : Int), kEq kd la pt pa co pe lb qt qa qo qe → kRn f e to n p kd la pt pa co pe res → kRn f e to m p kd lb qt qa qo qe res2 → res = res2
  | 0, _, _, _, _, _, _, _, _, _, _, _, _, _, _, _, _, h, _ => h.elim
  | _ + 1, 0, _, _, _, _, _, _, _, _, _, _, _, _, _, _, _, _, h => h.elim
  | n + 1, m + 1, p, kd, la, pt, pa, co, pe, lb, qt, qa, qo, qe, res, res2, hq, h, k => by
    rcases h with ⟨a, h⟩ | ⟨a, r, kd1, la1, pt1, pa1, co1, pe1, hi, h⟩ <;> rcases k with ⟨b, k⟩ | ⟨b, s, kd2, la2, pt2, pa2, co2, pe2, ki, k⟩
    · omega
    · exfalso; omega
    · exfalso; omega
    · obtain ⟨g1, g2⟩ := kIt_det hi ki hq
      subst g1
      rcases h with ⟨h0, h⟩ | ⟨h0, h⟩ <;> rcases k with ⟨k0, k⟩ | ⟨k0, k⟩
      · omega
      · exfalso; omega
      · exfalso; omega
      · obtain ⟨g3, g4⟩ := g2 h0
        subst g3
        exact kRn_det n m _ _ _ _ _ _ _ _ _ _ _ _ _ _ g4 h k
theorem kR_det {f : Nat → Int32} {e to p kd la pt pa co pe res res2 : Int} (h : kR f e to p kd la pt pa co pe res) (k : kR f e to p kd la pt pa co pe res2) : res = res2 := by
  obtain ⟨n, h⟩ := h; obtain ⟨m, k⟩ := k
  exact kRn_det n m _ _ _ _ _ _ _ _ _ _ _ _ _ _ ⟨fun _ => ⟨rfl, rfl, rfl, rfl, rfl⟩, fun _ => rfl⟩ h k

/-! the fourth section, a section, a code -/
theorem kKd_le {f : Nat → Int32} {e to : Int} : ∀ (n : Nat) (p k kp : Int), kKd f e to n p k kp → ¬ k = 1 → p ≤ kp ∧ kp < to
  | 0, _, _, _, h, _ => h.elim
  | n + 1, p, k, kp, h, h1 => by
    rcases h with ⟨a, b, c⟩ | ⟨a, r, hc, ⟨h0, h⟩ | ⟨h0, m, hm, ⟨c1, c2, c3⟩ | ⟨c1, h⟩⟩⟩
    · exact absurd b h1
    · have := kKd_le n _ _ _ h h1; omega
    · omega
    · have := kKd_le n _ _ _ h h1; omega
theorem kK_le {f : Nat → Int32} {e to p k kp : Int} (h : kK f e to p k kp) (h1 : ¬ k = 1) : p ≤ kp ∧ kp < to := by
  obtain ⟨n, h⟩ := h; exact kKd_le n _ _ _ h h1
theorem kK_inv {f : Nat → Int32} {e to p k kp : Int} (h : kK f e to p k kp) : (to ≤ p ∧ k = 1 ∧ kp = to) ∨ (p < to ∧ ∃ r : Int, kCl f e p r ∧ ((0 < r ∧ kK f e to (p + r) k kp) ∨ (r = 0 ∧ ∃ m : Int, kMd f e p m ∧ (¬ m = 1 ∧ k = m ∧ kp = p ∨ m = 1 ∧ kK f e to (p + 1) k kp)))) := by
  obtain ⟨n, h⟩ := h
  cases n with
  | zero => exact h.elim
  | succ n =>
    rcases h with h | ⟨a, r, hc, ⟨h0, h⟩ | ⟨h0, m, hm, c | ⟨c1, h⟩⟩⟩
    · exact Or.inl h
    · exact Or.inr ⟨a, r, hc, Or.inl ⟨h0, n, h⟩⟩
    · exact Or.inr ⟨a, r, hc, Or.inr ⟨h0, m, hm, Or.inl c⟩⟩
    · exact Or.inr ⟨a, r, hc, Or.inr ⟨h0, m, hm, Or.inr ⟨c1, n, h⟩⟩⟩
theorem kMd_1i {f : Nat → Int32} {e p : Int} (h : kMd f e p 1) : ¬ kPl (ysm (ych f e p)) ∧ ¬ ysm (ych f e p) = 64 ∧ ¬ kDt f e p := by
  rcases h with ⟨a, b⟩ | ⟨a, a2, b⟩ | ⟨a, a2, a3, b⟩ | ⟨a, a2, a3, b⟩
  · omega
  · omega
  · omega
  · exact ⟨a, a2, a3⟩
theorem kDt_i {f : Nat → Int32} {e p : Int} (h : ¬ kDt f e p) : ¬ kRw (ysm (ych f e p)) ∧ (∀ r : Int, kBr f e p r → r ≤ 0) ∧ ¬ kW f e p k_am ∧ ¬ kW f e p k_ap :=
  ⟨fun c => h (Or.inl c), fun r hr => by rcases Int.lt_or_le 0 r with c | c
                                         · exact absurd (Or.inr (Or.inl ⟨r, c, hr⟩)) h
                                         · exact c, fun c => h (Or.inr (Or.inr (Or.inl c))), fun c => h (Or.inr (Or.inr (Or.inr c)))⟩
/-- the way to the kind's place of a fourth section -/
theorem k4_step {f : Nat → Int32} {e to p K kp pt pa co pe r kd' la' pt' pa' co' pe' : Int} (hK : kK f e to p K kp) (hp : p < kp) (hk : K = 2 ∨ K = 5) (hi : kIt f e p K 0 pt pa co pe r kd' la' pt' pa' co' pe') :
    r ≤ 0 ∨ (0 < r ∧ kK f e to (p + r) K kp ∧ kd' = K ∧ la' = 0) := by
  obtain ⟨c, hc, h⟩ := hi
  rcases kK_inv hK with ⟨a, b, _⟩ | ⟨a, c', hc', ⟨h0, hn⟩ | ⟨h0, m, hm, ⟨c1, c2, c3⟩ | ⟨c1, hn⟩⟩⟩
  · exfalso; omega
  · have := kCl_det hc hc'; subst this
    rcases h with ⟨_, h⟩ | ⟨c0, _⟩
    · obtain ⟨h1, h2, h3, _⟩ := h; subst h1; exact Or.inr ⟨h0, hn, h2, h3⟩
    · exfalso; omega
  · exfalso; omega
  · have := kCl_det hc hc'; subst this
    subst c1
    obtain ⟨n1, n2, n3⟩ := kMd_1i hm
    obtain ⟨d1, d2, d3, d4⟩ := kDt_i n3
    rcases h with ⟨c0, _⟩ | ⟨_, h⟩
    · exfalso; omega
    · suffices hs : r ≤ 0 ∨ (r = 1 ∧ kd' = K ∧ la' = 0) by
        rcases hs with hs | ⟨h1, h2, h3⟩
        · exact Or.inl hs
        · subst h1; exact Or.inr ⟨by omega, hn, h2, h3⟩
      rcases h with ⟨q, h⟩ | ⟨q, h, h'⟩ | ⟨q, _⟩ | ⟨q, _⟩ | ⟨q, _⟩
      · unfold kNu at h
        clear hc hc' hK hn hm n3 d2
        rcases h with ⟨u, h⟩ | ⟨u, h, h'⟩ | ⟨u, h, h'⟩ | ⟨u, h⟩ | ⟨u, h⟩ | ⟨u, h⟩ | ⟨u, h⟩
        · exact absurd u n1
        · omega
        · omega
        · omega
        · rcases h with h | h <;> omega
        · rcases h with h | h <;> omega
        · omega
      · unfold kDa at h
        clear hc hc' hK hn hm n3
        rcases h with ⟨u, _⟩ | ⟨u, n, hn, h, h'⟩ | ⟨u, h, h'⟩ | ⟨u, h, h'⟩ | ⟨u, h⟩ | ⟨u, h⟩
        · exact absurd u d1
        · have := d2 n hn; clear d2; omega
        · clear d2; rcases h with ⟨w, _⟩ | ⟨_, w, _⟩ | ⟨_, _, w⟩
          · exact absurd w d3
          · exact absurd w d4
          · omega
        · clear d2; rcases h with ⟨w, _⟩ | ⟨_, w⟩ <;> omega
        · clear d2; omega
        · clear d2; omega
      all_goals (exfalso; omega)
theorem kLit_md {f : Nat → Int32} {e p m : Int} (h : kMd f e p m) (hm : m = 2 ∨ m = 5) : ¬ kLit (ych f e p) := fun c => by
  have hs : ysm (ych f e p) = ych f e p := ysm_46 (by unfold kLit at c; omega)
  unfold kLit at c
  rcases h with ⟨a, b⟩ | ⟨a, a2, b⟩ | ⟨a, a2, a3, b⟩ | ⟨a, a2, a3, b⟩
  · rw [hs] at a; unfold kPl at a; omega
  · omega
  · rcases a3 with d | ⟨r, hr, d⟩ | d | d
    · rw [hs] at d; unfold kRw at d; omega
    · have := (kBr_co d hr).1; omega
    · simp only [k_am, kW] at d; omega
    · simp only [k_ap, kW] at d; omega
  · omega
/-- the reference's way: plain items alone -/
theorem k4_ref {f : Nat → Int32} {e to p K kp la pt pa co pe r kd' la' pt' pa' co' pe' : Int} (hK : kK f e to p K kp) (hk : K = 2 ∨ K = 5) (hi : kIt f e p 1 la pt pa co pe r kd' la' pt' pa' co' pe') :
    r ≤ 0 ∨ (0 < r ∧ kK f e to (p + r) K kp) := by
  obtain ⟨c, hc, h⟩ := hi
  rcases kK_inv hK with ⟨a, b, _⟩ | ⟨a, c', hc', ⟨h0, hn⟩ | ⟨h0, m, hm, ⟨c1, c2, c3⟩ | ⟨c1, hn⟩⟩⟩
  · exfalso; omega
  · have := kCl_det hc hc'; subst this
    rcases h with ⟨_, h⟩ | ⟨c0, _⟩
    · obtain ⟨h1, h2, h3, _⟩ := h; subst h1; exact Or.inr ⟨h0, hn⟩
    · exfalso; omega
  · have := kCl_det hc hc'; subst this
    have hl := kLit_md hm (by omega)
    rcases h with ⟨c0, _⟩ | ⟨_, h⟩
    · exfalso; omega
    · rcases h with ⟨q, _⟩ | ⟨q, _⟩ | ⟨q, _⟩ | ⟨q, ⟨w, _⟩ | ⟨w, h⟩, _⟩ | ⟨q, _⟩
      · exfalso; omega
      · exfalso; omega
      · exfalso; omega
      · exact absurd w hl
      · omega
      · exfalso; omega
  · have := kCl_det hc hc'; subst this
    rcases h with ⟨c0, _⟩ | ⟨_, h⟩
    · exfalso; omega
    · rcases h with ⟨q, _⟩ | ⟨q, _⟩ | ⟨q, _⟩ | ⟨q, ⟨w, h⟩ | ⟨w, h⟩, _⟩ | ⟨q, _⟩
      · exfalso; omega
      · exfalso; omega
      · exfalso; omega
      · subst h; exact Or.inr ⟨by omega, hn⟩
      · omega
      · exfalso; omega
def kGe (f : Nat → Int32) (e p to : Int) : Prop := to - p = 7 ∧ kW f e p k_gen
def kSc (f : Nat → Int32) (e i p to res : Int) : Prop :=
  (kGe f e p to ∧ (i = 3 ∧ res = -1 ∨ ¬ i = 3 ∧ res = 0)) ∨ (¬ kGe f e p to ∧ ∃ K kp : Int, kK f e to p K kp ∧ ((i = 3 ∧ (K = 2 ∨ K = 5) ∧ res = -1) ∨ (¬ (i = 3 ∧ (K = 2 ∨ K = 5)) ∧ kR f e to p K 0 0 0 0 0 res)))
theorem kSc_det {f : Nat → Int32} {e i p to r s : Int} (h : kSc f e i p to r) (k : kSc f e i p to s) : r = s := by
  rcases h with ⟨a, h⟩ | ⟨a, K, kp, hK, h⟩ <;> rcases k with ⟨b, k⟩ | ⟨b, L, lp, hL, k⟩
  · omega
  · exact absurd a b
  · exact absurd b a
  · obtain ⟨g, _⟩ := kK_det hK hL
    subst g
    rcases h with ⟨h1, h2, h⟩ | ⟨h1, h⟩ <;> rcases k with ⟨k1, k2, k⟩ | ⟨k1, k⟩
    · omega
    · exact absurd ⟨h1, h2⟩ k1
    · exact absurd ⟨k1, k2⟩ h1
    · exact kR_det h k
theorem yT_det {f : Nat → Int32} {e : Int} : ∀ (n m : Nat) (a b p : Int), yT f e a n p → yT f e b m p → a = b
  | 0, _, _, _, _, h, _ => h.elim
  | _ + 1, 0, _, _, _, _, h => h.elim
  | n + 1, m + 1, a, b, p, h, k => by
    rcases h with ⟨h1, h2⟩ | ⟨h1, h2, h3⟩ | ⟨h1, h2, q, h3, h4⟩ <;> rcases k with ⟨k1, k2⟩ | ⟨k1, k2, k3⟩ | ⟨k1, k2, s, k3, k4⟩ <;> (try (exfalso; omega)) <;> (try omega)
    have := ystep_det h3 k3; subst this
    exact yT_det n m _ _ _ h4 k4
theorem yS_det {f : Nat → Int32} {e a b p : Int} (h : yS f e a p) (k : yS f e b p) : a = b := by
  obtain ⟨n, h⟩ := h; obtain ⟨m, k⟩ := k; exact yT_det n m _ _ _ h k
def kCd (f : Nat → Int32) (e : Int) : Nat → Nat → Int → Int → Int → (Nat → Int) → Prop
  | 0, _, _, _, _, _ => False
  | m + 1, i, p, ok, n, K => ∃ to s : Int, yS f e to p ∧ kSc f e i p to s ∧ ((s = -1 ∧ ok = 0) ∨ (¬ s = -1 ∧ K i = s ∧ ((e ≤ to ∧ ok = 1 ∧ n = i + 1) ∨ (to < e ∧ (s = 6 ∨ i = 3) ∧ ok = 0) ∨ (to < e ∧ ¬ (s = 6 ∨ i = 3) ∧ kCd f e m (i + 1) (to + 1) ok n K))))
theorem kCd_det {f : Nat → Int32} {e : Int} : ∀ (m m' i : Nat) (p ok n ok' n' : Int) (K K' : Nat → Int), kCd f e m i p ok n K → kCd f e m' i p ok' n' K' → ok = ok' ∧ (ok = 1 → n = n' ∧ ∀ j : Nat, i ≤ j → (j : Int) < n → K j = K' j)
  | 0, _, _, _, _, _, _, _, _, _, h, _ => h.elim
  | _ + 1, 0, _, _, _, _, _, _, _, _, _, h => h.elim
  | m + 1, m' + 1, i, p, ok, n, ok', n', K, K', h, k => by
    obtain ⟨to, s, hy, hs, h⟩ := h; obtain ⟨to', s', hy', hs', k⟩ := k
    have := yS_det hy hy'; subst this
    have := kSc_det hs hs'; subst this
    rcases h with ⟨a, h⟩ | ⟨a, hk, h⟩ <;> rcases k with ⟨b, k⟩ | ⟨b, kk, k⟩
    · exact ⟨by omega, fun c => by omega⟩
    · exact absurd a b
    · exact absurd b a
    · rcases h with ⟨c, h1, h2⟩ | ⟨c, d, h1⟩ | ⟨c, d, h⟩ <;> rcases k with ⟨c', k1, k2⟩ | ⟨c', d', k1⟩ | ⟨c', d', k⟩ <;> (try (exfalso; omega))
      · refine ⟨by omega, fun _ => ⟨by omega, fun j h0 h1 => ?_⟩⟩
        rw [show j = i by omega, hk, kk]
      · exact ⟨by omega, fun c => by omega⟩
      · obtain ⟨g1, g2⟩ := kCd_det m m' (i + 1) _ _ _ _ _ K K' h k
        refine ⟨g1, fun c => ⟨(g2 c).1, fun j h0 h1 => ?_⟩⟩
        rcases Nat.lt_or_ge i j with q | q
        · exact (g2 c).2 j q h1
        · rw [show j = i by omega, hk, kk]
theorem kCd_ok {f : Nat → Int32} {e : Int} : ∀ (m i : Nat) (p ok n : Int) (K : Nat → Int), kCd f e m i p ok n K → i ≤ 3 → (ok = 0 ∨ ok = 1) ∧ (ok = 1 → ((i : Int) < n ∧ n ≤ 4) ∧ ∀ j : Nat, i ≤ j → (j : Int) + 1 < n → ¬ K j = 6)
  | 0, _, _, _, _, _, h, _ => h.elim
  | m + 1, i, p, ok, n, K, h, hi => by
    obtain ⟨to, s, hy, hs, h⟩ := h
    rcases h with ⟨a, h⟩ | ⟨a, hk, ⟨c, h1, h2⟩ | ⟨c, d, h1⟩ | ⟨c, d, h⟩⟩
    · exact ⟨by omega, fun c => by omega⟩
    · exact ⟨by omega, fun _ => ⟨by omega, fun j h0 h1 => by omega⟩⟩
    · exact ⟨by omega, fun c => by omega⟩
    · obtain ⟨g1, g2⟩ := kCd_ok m (i + 1) _ _ _ K h (by omega)
      refine ⟨g1, fun c => ⟨by have := (g2 c).1; omega, fun j h0 h1 => ?_⟩⟩
      rcases Nat.lt_or_ge i j with q | q
      · exact (g2 c).2 j q h1
      · rw [show j = i by omega, hk]; omega

/-! the last item, branches of one item -/
def kC (g : Nat → Int32) (n : Int) : Int := kcls (g (n - 1).toNat).toInt
theorem kc_0 : kcls 0 = 0 := by decide
theorem kc_1 : kcls 1 = 0 := by decide
theorem kc_2 : kcls 2 = 2 := by decide
theorem kc_3 : kcls 3 = 3 := by decide
theorem kc_4 : kcls 4 = 0 := by decide
theorem kc_5 : kcls 5 = 0 := by decide
theorem kc_6 : kcls 6 = 6 := by decide
theorem kc_7 : kcls 7 = 0 := by decide
theorem kc_8 : kcls 8 = 0 := by decide
theorem kc_9 : kcls 9 = 0 := by decide
theorem kc_10 : kcls 10 = 0 := by decide
theorem kc_11 : kcls 11 = 0 := by decide
theorem kc_12 : kcls 12 = 0 := by decide
theorem kc_13 : kcls 13 = 0 := by decide
theorem kc_20 : kcls 20 = 0 := by decide
theorem kc_21 : kcls 21 = 0 := by decide
theorem kc_22 : kcls 22 = 0 := by decide
theorem kc_23 : kcls 23 = 0 := by decide
theorem kc_24 : kcls 24 = 0 := by decide
theorem kc_25 : kcls 25 = 25 := by decide
theorem kc_26 : kcls 26 = 0 := by decide
theorem kc_27 : kcls 27 = 0 := by decide
theorem kc_28 : kcls 28 = 25 := by decide
theorem kc_29 : kcls 29 = 0 := by decide
theorem kc_30 : kcls 30 = 0 := by decide
theorem kcls_i (k : Int) : (k = 2 ∧ kcls k = 2) ∨ (k = 3 ∧ kcls k = 3) ∨ (k = 6 ∧ kcls k = 6) ∨ ((k = 25 ∨ k = 28) ∧ kcls k = 25) ∨ ((¬ k = 2 ∧ ¬ k = 3 ∧ ¬ k = 6 ∧ ¬ k = 25 ∧ ¬ k = 28) ∧ kcls k = 0) := by
  unfold kcls; repeat' split
  all_goals omega
theorem kC_add {g : Nat → Int32} {m : Int} {x : Int32} {k : Int32} (h0 : 0 ≤ x.toInt) (hm : m = x.toInt + 1) : kC (upd g x.toNatClampNeg k) m = kcls k.toInt := by
  unfold kC
  rw [show (m - 1).toNat = x.toNatClampNeg by rw [zcl]; omega, pk_us]
theorem kLf_C {g : Nat → Int32} {a n c : Int} (h : a < n) (hc : kC g n = c) : kLf g a n = c := by unfold kLf; rw [if_pos h]; exact hc
theorem kLf_0 {g : Nat → Int32} {a n : Int} (h : n ≤ a) : kLf g a n = 0 := by unfold kLf; rw [if_neg (by omega)]
theorem kLf_b {g : Nat → Int32} {a n k : Int} (h : (n ≤ a ∧ k = 0) ∨ (a < n ∧ k = (g (n - 1).toNat).toInt)) : (k = 2 ∧ kLf g a n = 2) ∨ (k = 3 ∧ kLf g a n = 3) ∨ (k = 6 ∧ kLf g a n = 6) ∨ ((k = 25 ∨ k = 28) ∧ kLf g a n = 25) ∨ ((¬ k = 2 ∧ ¬ k = 3 ∧ ¬ k = 6 ∧ ¬ k = 25 ∧ ¬ k = 28) ∧ kLf g a n = 0) := by
  rcases h with ⟨h, hk⟩ | ⟨h, hk⟩
  · rw [kLf_0 h]; omega
  · have := kcls_i k
    rw [kLf_C (c := kcls k) h (by unfold kC; rw [hk])]; exact this
theorem ych_z {f : Nat → Int32} {e p : Int} (h : ¬ ych f e p = 0) : p < e := by
  rcases Int.lt_or_le p e with c | c
  · exact c
  · exact absurd (by unfold ych; rw [if_neg (by omega)]) h
theorem kPn_end {f : Nat → Int32} {e p n : Int} (h : kPn f e p n) : n = 0 ∨ p + n ≤ e := by
  rcases Int.lt_or_le 0 n with c | c
  · have := h.2.2.1 (n - 1) (by omega) (by omega)
    have := ych_z (f := f) (e := e) (p := p + (n - 1)) (fun q => by unfold kPl at this; omega)
    omega
  · have := h.1; omega
theorem kDn_end {f : Nat → Int32} {e p n : Int} (h : kDn f e p n) : n = 0 ∨ p + n ≤ e := by
  rcases Int.lt_or_le 0 n with c | c
  · have := h.2.2.1 (n - 1) (by omega) (by omega)
    have := ych_z (f := f) (e := e) (p := p + (n - 1)) (fun q => by omega)
    omega
  · have := h.1; omega
theorem kPn_z {f : Nat → Int32} {e p n : Int} (h : kPn f e p n) : (0 < n ∧ kPl (ych f e p)) ∨ (n = 0 ∧ ¬ kPl (ych f e p)) := by
  by_cases q : kPl (ych f e p)
  · have := kPn_pos h q; exact Or.inl ⟨by omega, q⟩
  · refine Or.inr ⟨?_, q⟩
    rcases Int.lt_or_le 0 n with c | c
    · have := h.2.2.1 0 (by omega) c; rw [Int.add_zero] at this; exact absurd this q
    · have := h.1; omega
theorem kDn_z {f : Nat → Int32} {e p n : Int} (h : kDn f e p n) : (0 < n ∧ 48 ≤ ych f e p ∧ ych f e p ≤ 57) ∨ (n = 0 ∧ ¬ (48 ≤ ych f e p ∧ ych f e p ≤ 57)) := by
  by_cases q : (48 ≤ ych f e p ∧ ych f e p ≤ 57)
  · refine Or.inl ⟨?_, q⟩
    rcases Int.lt_or_le 0 n with c | c
    · exact c
    · have := h.1; have e0 : n = 0 := by omega
      subst e0
      rcases h.2.2.2 with d | d
      · omega
      · exact absurd (by rw [Int.add_zero]; exact q) d
  · refine Or.inr ⟨?_, q⟩
    rcases Int.lt_or_le 0 n with c | c
    · have := h.2.2.1 0 (by omega) c; rw [Int.add_zero] at this; exact absurd this q
    · have := h.1; omega
/-- a power, a fraction over raw cells -/
def kPw (f : Nat → Int32) (e p la s6 s7 s8 r : Int) : Prop := ((la = 2 ∨ la = 3) ∧ (s6 = 0 ∧ s7 ≤ 0 ∧ s8 ≤ 0) ∧ (ych f e (p + 1) = 43 ∨ ych f e (p + 1) = 45) ∧ kPl (ych f e (p + 2)) ∧ ∃ n : Int, kPn f e (p + 2) n ∧ r = 2 + n) ∨ (¬ ((la = 2 ∨ la = 3) ∧ (s6 = 0 ∧ s7 ≤ 0 ∧ s8 ≤ 0) ∧ (ych f e (p + 1) = 43 ∨ ych f e (p + 1) = 45) ∧ kPl (ych f e (p + 2))) ∧ r = 0)
def kFr (f : Nat → Int32) (e p la s5 s6 s7 s8 r : Int) : Prop := ((la = 2 ∧ (s6 = 0 ∧ s7 ≤ 0 ∧ s8 ≤ 0) ∧ s5 = 0) ∧ ((kPl (ych f e (p + 1)) ∧ ∃ n : Int, kPn f e (p + 1) n ∧ r = 1 + n) ∨ ((49 ≤ ych f e (p + 1) ∧ ych f e (p + 1) ≤ 57) ∧ ∃ n : Int, kDn f e (p + 1) n ∧ r = 1 + n))) ∨ (¬ (la = 2 ∧ (s6 = 0 ∧ s7 ≤ 0 ∧ s8 ≤ 0) ∧ s5 = 0 ∧ (kPl (ych f e (p + 1)) ∨ (49 ≤ ych f e (p + 1) ∧ ych f e (p + 1) ≤ 57))) ∧ r = 0)
theorem kPw_y {f : Nat → Int32} {e p la s6 s7 s8 r n : Int} (hn : kPn f e (p + 2) n) (h : (la = 2 ∨ la = 3) ∧ (s6 = 0 ∧ s7 ≤ 0 ∧ s8 ≤ 0) ∧ (ych f e (p + 1) = 43 ∨ ych f e (p + 1) = 45)) (h0 : 0 < n) (hr : r = 2 + n) : kPw f e p la s6 s7 s8 r := by
  rcases kPn_z hn with ⟨_, q⟩ | ⟨q, _⟩
  · exact Or.inl ⟨h.1, h.2.1, h.2.2, q, n, hn, hr⟩
  · omega
theorem kPw_n {f : Nat → Int32} {e p la s6 s7 s8 r n : Int} (hn : kPn f e (p + 2) n) (h : ¬ (la = 2 ∨ la = 3) ∨ ¬ (s6 = 0 ∧ s7 ≤ 0 ∧ s8 ≤ 0) ∨ ¬ (ych f e (p + 1) = 43 ∨ ych f e (p + 1) = 45) ∨ n ≤ 0) (hr : r = 0) : kPw f e p la s6 s7 s8 r := by
  refine Or.inr ⟨fun ⟨a, b, c, d⟩ => ?_, hr⟩
  have := kPn_pos hn d
  omega
theorem kFr_p {f : Nat → Int32} {e p la s5 s6 s7 s8 r n m : Int} (hn : kPn f e (p + 1) n) (hm : (ych f e (p + 1) = 48 ∧ m = 0) ∨ (¬ ych f e (p + 1) = 48 ∧ kDn f e (p + 1) m)) (h : la = 2 ∧ (s6 = 0 ∧ s7 ≤ 0 ∧ s8 ≤ 0) ∧ s5 = 0) (h0 : ¬ n + m = 0) (hr : r = 1 + n + m) : kFr f e p la s5 s6 s7 s8 r := by
  refine Or.inl ⟨h, ?_⟩
  rcases kPn_z hn with ⟨a, q⟩ | ⟨a, q⟩
  · refine Or.inl ⟨q, n, hn, ?_⟩
    rcases hm with ⟨_, b⟩ | ⟨b, hm⟩
    · omega
    · rcases kDn_z hm with ⟨_, c⟩ | ⟨c, _⟩
      · unfold kPl at q; omega
      · omega
  · rcases hm with ⟨_, b⟩ | ⟨b, hm⟩
    · omega
    · rcases kDn_z hm with ⟨_, c⟩ | ⟨c, _⟩
      · exact Or.inr ⟨by omega, m, hm, by omega⟩
      · omega
theorem kFr_n {f : Nat → Int32} {e p la s5 s6 s7 s8 r n m : Int} (hn : kPn f e (p + 1) n) (hm : (ych f e (p + 1) = 48 ∧ m = 0) ∨ (¬ ych f e (p + 1) = 48 ∧ kDn f e (p + 1) m)) (h : ¬ (la = 2 ∧ (s6 = 0 ∧ s7 ≤ 0 ∧ s8 ≤ 0) ∧ s5 = 0) ∨ (n ≤ 0 ∧ m ≤ 0)) (hr : r = 0) : kFr f e p la s5 s6 s7 s8 r := by
  refine Or.inr ⟨fun ⟨a, b, c, d⟩ => ?_, hr⟩
  rcases d with d | d
  · have := kPn_pos hn d; omega
  · rcases hm with ⟨_, b⟩ | ⟨_, hm⟩
    · omega
    · rcases kDn_z hm with c | c <;> omega
theorem kFr_e {f : Nat → Int32} {e p n m : Int} (hn : kPn f e (p + 1) n) (hm : (ych f e (p + 1) = 48 ∧ m = 0) ∨ (¬ ych f e (p + 1) = 48 ∧ kDn f e (p + 1) m)) : (n = 0 ∨ p + 1 + n ≤ e) ∧ (m = 0 ∨ p + 1 + m ≤ e) ∧ (n = 0 ∨ m = 0) := by
  refine ⟨kPn_end hn, ?_, ?_⟩
  · rcases hm with ⟨_, b⟩ | ⟨_, hm⟩
    · exact Or.inl b
    · exact kDn_end hm
  · rcases kPn_z hn with ⟨a, q⟩ | ⟨a, q⟩
    · rcases hm with ⟨_, b⟩ | ⟨b, hm⟩
      · exact Or.inr b
      · rcases kDn_z hm with ⟨_, c⟩ | ⟨c, _⟩
        · unfold kPl at q; omega
        · exact Or.inr c
    · exact Or.inl a
/-- what the branches of a number's item leave, over raw cells: s kind, point, thousands, thousandths, percents; c the last item -/
theorem kNu_pl {f : Nat → Int32} {e p la s5 s6 s7 s8 r g0 c g5 g6 g7 g8 : Int} (hc : kPl (ysm (ych f e p))) (h5 : s5 = 0 ∨ s5 = 1)
    (h : (¬ s5 = 0 ∧ r = 1 ∧ c = 3 ∧ g0 = 2 ∧ g5 = s5 ∧ g6 = s6 ∧ g7 = s7 ∧ g8 = s8) ∨ (s5 = 0 ∧ 0 < s7 ∧ r = 0) ∨ (s5 = 0 ∧ s7 ≤ 0 ∧ r = 1 ∧ c = 2 ∧ g0 = 2 ∧ g5 = s5 ∧ g6 = s6 ∧ g7 = s7 ∧ g8 = s8)) : kNu f e p la s5 (kps s7) (kco s6 s7) (kps s8) r g0 c g5 (kps g7) (kco g6 g7) (kps g8) := by
  refine Or.inl ⟨hc, ?_, ?_⟩
  · rcases h with ⟨a, b, d, _⟩ | ⟨a, b, d⟩ | ⟨a, b, d, i, _⟩
    · exact Or.inl ⟨by omega, b, d⟩
    · refine Or.inr (Or.inl ⟨a, ?_, d⟩); unfold kps; rw [if_pos b]
    · refine Or.inr (Or.inr ⟨a, ?_, d, i⟩); unfold kps; rw [if_neg (by omega)]
  · intro h0
    rcases h with ⟨_, _, _, a0, a5, a6, a7, a8⟩ | ⟨a, b, d⟩ | ⟨_, _, _, _, a0, a5, a6, a7, a8⟩
    · subst a6; subst a7; subst a8; exact ⟨a0, a5, rfl, rfl, rfl⟩
    · omega
    · subst a6; subst a7; subst a8; exact ⟨a0, a5, rfl, rfl, rfl⟩
theorem kNu_pt {f : Nat → Int32} {e p la s5 s6 s7 s8 r g0 c g5 g6 g7 g8 : Int} (hc : ysm (ych f e p) = 46) (h5 : s5 = 0 ∨ s5 = 1)
    (h : (¬ s5 = 0 ∧ r = 0) ∨ (s5 = 0 ∧ r = 1 ∧ c = 0 ∧ g0 = 2 ∧ g5 = 1 ∧ g6 = s6 ∧ g7 = s7 ∧ g8 = s8)) : kNu f e p la s5 (kps s7) (kco s6 s7) (kps s8) r g0 c g5 (kps g7) (kco g6 g7) (kps g8) := by
  refine Or.inr (Or.inl ⟨hc, by omega, fun h0 => ?_⟩)
  rcases h with h | ⟨_, _, _, a0, a5, a6, a7, a8⟩
  · omega
  · subst a6; subst a7; subst a8; exact ⟨a0, rfl, rfl, rfl⟩
theorem kNu_co {f : Nat → Int32} {e p la s5 s6 s7 s8 r g0 c g5 g6 g7 g8 : Int} (hc : ysm (ych f e p) = 44) (h7 : 0 ≤ s7)
    (h : ((la = 2 ∧ kPl (ych f e (p + 1))) ∧ r = 1 ∧ c = 0 ∧ g0 = 2 ∧ g5 = s5 ∧ g6 = 1 ∧ g7 = s7 ∧ g8 = s8) ∨ ((la = 2 ∧ ¬ kPl (ych f e (p + 1)) ∨ la = 6) ∧ r = 1 ∧ c = 6 ∧ g0 = 2 ∧ g5 = s5 ∧ g6 = s6 ∧ g7 = s7 + 1 ∧ g8 = s8) ∨ (¬ la = 2 ∧ ¬ la = 6 ∧ r = 0)) : kNu f e p la s5 (kps s7) (kco s6 s7) (kps s8) r g0 c g5 (kps g7) (kco g6 g7) (kps g8) := by
  refine Or.inr (Or.inr (Or.inl ⟨hc, ?_, fun h0 => ?_⟩))
  · rcases h with ⟨⟨a, b⟩, hr, hc, a0, a5, a6, a7, a8⟩ | ⟨a, hr, hc, a0, a5, a6, a7, a8⟩ | h
    · exact Or.inl ⟨a, b, hr, hc, by rw [a7]⟩
    · exact Or.inr (Or.inl ⟨a, hr, hc, by unfold kps; rw [if_pos (by omega)]⟩)
    · exact Or.inr (Or.inr h)
  · rcases h with ⟨⟨a, b⟩, hr, hc, a0, a5, a6, a7, a8⟩ | ⟨a, hr, hc, a0, a5, a6, a7, a8⟩ | h
    · exact ⟨a0, by unfold kco; rw [if_neg (by omega)], a5, by rw [a8]⟩
    · exact ⟨a0, by unfold kco; rw [if_neg (by omega)], a5, by rw [a8]⟩
    · omega
theorem kNu_pc {f : Nat → Int32} {e p la s5 s6 s7 s8 r g0 c g5 g6 g7 g8 : Int} (hc : ysm (ych f e p) = 37) (h8 : 0 ≤ s8)
    (h : r = 1 ∧ c = 0 ∧ g0 = 2 ∧ g5 = s5 ∧ g6 = s6 ∧ g7 = s7 ∧ g8 = s8 + 1) : kNu f e p la s5 (kps s7) (kco s6 s7) (kps s8) r g0 c g5 (kps g7) (kco g6 g7) (kps g8) := by
  obtain ⟨hr, hc2, a0, a5, a6, a7, a8⟩ := h
  subst a6; subst a7
  exact Or.inr (Or.inr (Or.inr (Or.inl ⟨hc, hr, a0, hc2, a5, rfl, rfl, by unfold kps; rw [if_pos (by omega)]⟩)))
theorem kco_0 {a b : Int} : kco a b = 0 ↔ a = 0 ∧ b ≤ 0 := by unfold kco; split <;> omega
theorem kps_0 {a : Int} : kps a = 0 ↔ a ≤ 0 := by unfold kps; split <;> omega
theorem kNu_pw {f : Nat → Int32} {e p la s5 s6 s7 s8 r g0 c g5 g6 g7 g8 : Int} (hc : ysm (ych f e p) = 101) (h : kPw f e p la s6 s7 s8 r) (h0 : 0 < r → g0 = 3) : kNu f e p la s5 (kps s7) (kco s6 s7) (kps s8) r g0 c g5 (kps g7) (kco g6 g7) (kps g8) := by
  refine Or.inr (Or.inr (Or.inr (Or.inr (Or.inl ⟨hc, ?_⟩))))
  rcases h with ⟨a, ⟨b1, b2, b3⟩, d, i, n, hn, hr⟩ | ⟨a, hr⟩
  · exact Or.inl ⟨a, kco_0.2 ⟨b1, b2⟩, kps_0.2 b3, d, i, ⟨n, hn, hr⟩, h0 (by have := hn.1; omega)⟩
  · exact Or.inr ⟨fun ⟨q1, q2, q3, q4, q5⟩ => a ⟨q1, ⟨(kco_0.1 q2).1, (kco_0.1 q2).2, kps_0.1 q3⟩, q4, q5⟩, hr⟩
theorem kNu_fr {f : Nat → Int32} {e p la s5 s6 s7 s8 r g0 c g5 g6 g7 g8 : Int} (hc : ysm (ych f e p) = 47) (h : kFr f e p la s5 s6 s7 s8 r) (h0 : 0 < r → g0 = 4) : kNu f e p la s5 (kps s7) (kco s6 s7) (kps s8) r g0 c g5 (kps g7) (kco g6 g7) (kps g8) := by
  refine Or.inr (Or.inr (Or.inr (Or.inr (Or.inr (Or.inl ⟨hc, ?_⟩)))))
  rcases h with ⟨⟨a, ⟨b1, b2, b3⟩, d⟩, i⟩ | ⟨a, hr⟩
  · refine Or.inl ⟨a, kco_0.2 ⟨b1, b2⟩, kps_0.2 b3, d, h0 ?_, i⟩
    rcases i with ⟨_, n, hn, hr⟩ | ⟨_, n, hn, hr⟩
    · have := hn.1; omega
    · have := hn.1; omega
  · exact Or.inr ⟨fun ⟨q1, q2, q3, q4, q5⟩ => a ⟨q1, ⟨(kco_0.1 q2).1, (kco_0.1 q2).2, kps_0.1 q3⟩, q4, q5⟩, hr⟩
theorem kNu_no {f : Nat → Int32} {e p la s5 s6 s7 s8 r g0 c g5 g6 g7 g8 : Int} (hc : ¬ kPl (ysm (ych f e p)) ∧ ¬ ysm (ych f e p) = 46 ∧ ¬ ysm (ych f e p) = 44 ∧ ¬ ysm (ych f e p) = 37 ∧ ¬ ysm (ych f e p) = 101 ∧ ¬ ysm (ych f e p) = 47) (h : r = 0) : kNu f e p la s5 (kps s7) (kco s6 s7) (kps s8) r g0 c g5 (kps g7) (kco g6 g7) (kps g8) := Or.inr (Or.inr (Or.inr (Or.inr (Or.inr (Or.inr ⟨hc, h⟩)))))

def kI2 (k la : Int) : Prop := k = 2 ↔ la = 2
def kI23 (k la : Int) : Prop := (k = 2 ∨ k = 3) ↔ (la = 2 ∨ la = 3)
def kI25 (k la : Int) : Prop := (k = 25 ∨ k = 28) ↔ la = 25
theorem kI_b {k la : Int} (h : (k = 2 ∧ la = 2) ∨ (k = 3 ∧ la = 3) ∨ (k = 6 ∧ la = 6) ∨ ((k = 25 ∨ k = 28) ∧ la = 25) ∨ ((¬ k = 2 ∧ ¬ k = 3 ∧ ¬ k = 6 ∧ ¬ k = 25 ∧ ¬ k = 28) ∧ la = 0)) : kI2 k la ∧ kI23 k la ∧ kI25 k la := by
  unfold kI2 kI23 kI25; omega
theorem kPw_y2 {f : Nat → Int32} {e p la s6 s7 s8 r n k : Int} (hb : kI23 k la) (hn : kPn f e (p + 2) n) (h : (k = 2 ∨ k = 3) ∧ (s6 = 0 ∧ s7 ≤ 0 ∧ s8 ≤ 0) ∧ (ych f e (p + 1) = 43 ∨ ych f e (p + 1) = 45)) (h0 : 0 < n) (hr : r = 2 + n) : kPw f e p la s6 s7 s8 r := kPw_y hn ⟨hb.1 h.1, h.2⟩ h0 hr
theorem kPw_n2 {f : Nat → Int32} {e p la s6 s7 s8 r n k : Int} (hb : kI23 k la) (hn : kPn f e (p + 2) n) (h : ¬ (k = 2 ∨ k = 3) ∨ ¬ (s6 = 0 ∧ s7 ≤ 0 ∧ s8 ≤ 0) ∨ ¬ (ych f e (p + 1) = 43 ∨ ych f e (p + 1) = 45) ∨ n ≤ 0) (hr : r = 0) : kPw f e p la s6 s7 s8 r :=
  kPw_n hn (h.imp (fun c d => c (hb.2 d)) id) hr
theorem kFr_p2 {f : Nat → Int32} {e p la s5 s6 s7 s8 r n m k : Int} (hb : kI2 k la) (hn : kPn f e (p + 1) n) (hm : (ych f e (p + 1) = 48 ∧ m = 0) ∨ (¬ ych f e (p + 1) = 48 ∧ kDn f e (p + 1) m)) (h : k = 2 ∧ (s6 = 0 ∧ s7 ≤ 0 ∧ s8 ≤ 0) ∧ s5 = 0) (h0 : ¬ n + m = 0) (hr : r = 1 + n + m) : kFr f e p la s5 s6 s7 s8 r := kFr_p hn hm ⟨hb.1 h.1, h.2⟩ h0 hr
theorem kFr_n2 {f : Nat → Int32} {e p la s5 s6 s7 s8 r n m k : Int} (hb : kI2 k la) (hn : kPn f e (p + 1) n) (hm : (ych f e (p + 1) = 48 ∧ m = 0) ∨ (¬ ych f e (p + 1) = 48 ∧ kDn f e (p + 1) m)) (h : ¬ (k = 2 ∧ (s6 = 0 ∧ s7 ≤ 0 ∧ s8 ≤ 0) ∧ s5 = 0) ∨ (n ≤ 0 ∧ m ≤ 0)) (hr : r = 0) : kFr f e p la s5 s6 s7 s8 r := kFr_n hn hm (h.imp (fun c d => c ⟨hb.2 d.1, d.2⟩) id) hr
theorem kI25_y {k la : Int} (h : kI25 k la) (hk : k = 25 ∨ k = 28) : la = 25 := h.1 hk
theorem kI25_n {k la : Int} {C : Prop} (h : kI25 k la) (hk : ¬ k = 25 ∧ ¬ k = 28) : ¬ (la = 25 ∧ C) := fun q => by have := h.2 q.1; omega
theorem kBr_hms {f : Nat → Int32} {e p r : Int} (h : kBr f e p r) : r ≤ 0 ∨ kHms (ysm (ych f e (p + 1))) := by
  rcases h with ⟨_, h⟩ | ⟨⟨_, h⟩, _⟩
  · exact Or.inl (by omega)
  · exact Or.inr h
theorem kDa_row {f : Nat → Int32} {e p la r la' c : Int} (hc : c = ysm (ych f e p)) (hw : kRw c) (h : ∃ n : Int, kRun f e p n ∧ (((c = 121 ∧ (n = 2 ∨ n = 4) ∨ c = 109 ∧ n ≤ 5 ∨ c = 100 ∧ n ≤ 4 ∨ (c = 104 ∨ c = 115) ∧ n ≤ 2) ∧ r = n ∧ la' = (if c = 115 then 25 else 0)) ∨ (¬ (c = 121 ∧ (n = 2 ∨ n = 4) ∨ c = 109 ∧ n ≤ 5 ∨ c = 100 ∧ n ≤ 4 ∨ (c = 104 ∨ c = 115) ∧ n ≤ 2) ∧ r = 0))) : kDa f e p la r la' := by
  subst hc
  obtain ⟨n, hn, h⟩ := h
  refine Or.inl ⟨hw, n, hn, ?_, fun h0 => ?_⟩
  · rcases h with ⟨a, b, _⟩ | ⟨a, b⟩
    · exact Or.inl ⟨a, b⟩
    · exact Or.inr ⟨a, b⟩
  · rcases h with ⟨a, b, c⟩ | ⟨a, b⟩
    · split at c <;> omega
    · omega
theorem kDa_br {f : Nat → Int32} {e p la r la' n : Int} (hc : ych f e p = 91) (hn : kBr f e p n) (h : (1 ≤ n ∧ n ≤ 2 ∧ r = n + 2 ∧ la' = (if ysm (ych f e (p + 1)) = 115 then 25 else 0)) ∨ (¬ (1 ≤ n ∧ n ≤ 2) ∧ r = 0)) : kDa f e p la r la' := by
  refine Or.inr (Or.inl ⟨hc, n, hn, ?_, fun h0 => ?_⟩)
  · omega
  · rcases h with ⟨a, b, d, c⟩ | ⟨a, b⟩
    · split at c <;> omega
    · omega
theorem kDa_hd {f : Nat → Int32} {e p la r la' : Int} (hc : ysm (ych f e p) = 97) (h : (r = 5 ∧ kW f e p k_am ∨ r = 3 ∧ ¬ kW f e p k_am ∧ kW f e p k_ap ∨ r = 0 ∧ ¬ kW f e p k_am ∧ ¬ kW f e p k_ap)) (h0 : r ≤ 0 ∨ la' = 0) : kDa f e p la r la' := by
  refine Or.inr (Or.inr (Or.inl ⟨hc, ?_, fun q => by omega⟩))
  rcases h with ⟨a, b⟩ | ⟨a, b, c⟩ | ⟨a, b, c⟩
  · exact Or.inl ⟨b, a⟩
  · exact Or.inr (Or.inl ⟨b, c, a⟩)
  · exact Or.inr (Or.inr ⟨b, c, a⟩)
theorem kDa_pt {f : Nat → Int32} {e p la r la' : Int} (hc : ych f e p = 46) (h : ((la = 25 ∧ ych f e (p + 1) = 48) ∧ ∃ n : Int, kRun f e (p + 1) n ∧ (n ≤ 3 ∧ r = 1 + n ∨ 3 < n ∧ r = 0)) ∨ (¬ (la = 25 ∧ ych f e (p + 1) = 48) ∧ r = 1)) (h0 : r ≤ 0 ∨ la' = 0) : kDa f e p la r la' := by
  refine Or.inr (Or.inr (Or.inr (Or.inl ⟨hc, ?_, fun q => by omega⟩)))
  rcases h with ⟨⟨a, b⟩, c⟩ | ⟨a, b⟩
  · exact Or.inl ⟨a, b, c⟩
  · exact Or.inr ⟨a, b⟩
theorem kDa_si {f : Nat → Int32} {e p la r la' : Int} (hw : ¬ kRw (ysm (ych f e p))) (h91 : ¬ ych f e p = 91) (h97 : ¬ ysm (ych f e p) = 97) (h46 : ¬ ych f e p = 46) (h : (r = 1 ∧ kLit (ych f e p) ∧ la' = 0) ∨ (r = 0 ∧ ¬ kLit (ych f e p))) : kDa f e p la r la' := by
  rcases h with ⟨a, b, c⟩ | ⟨a, b⟩
  · refine Or.inr (Or.inr (Or.inr (Or.inr (Or.inl ⟨?_, a, c⟩)))); unfold kLit at b; omega
  · exact Or.inr (Or.inr (Or.inr (Or.inr (Or.inr ⟨⟨hw, h91, h97, b⟩, a⟩))))
theorem ysm_e {c d : Int} (h : d = ysm c) (hd : d = 91 ∨ d = 46) : c = d := by unfold ysm at h; split at h <;> omega
theorem ysm_n {c d : Int} (h : d = ysm c) (hd : ¬ d = 91 ∧ ¬ d = 46) : ¬ c = 91 ∧ ¬ c = 46 := by unfold ysm at h; split at h <;> omega
theorem kRun_p {f : Nat → Int32} {e p n : Int} (h : kRun f e p n) : 1 ≤ n := h.1
theorem kNu_c {f : Nat → Int32} {e p la pt pa co pe r kd c c' pt' pa' co' pe' : Int} (h : kNu f e p la pt pa co pe r kd c pt' pa' co' pe') (hr : r ≤ 0) : kNu f e p la pt pa co pe r kd c' pt' pa' co' pe' := by
  rcases h with ⟨u, h, h'⟩ | ⟨u, h, h'⟩ | ⟨u, h, h'⟩ | ⟨u, h⟩ | h | h | h
  · exact Or.inl ⟨u, by omega, h'⟩
  · exact Or.inr (Or.inl ⟨u, by omega, fun q => by omega⟩)
  · refine Or.inr (Or.inr (Or.inl ⟨u, Or.inr (Or.inr ?_), h'⟩))
    rcases h with ⟨_, _, h, _⟩ | ⟨_, h, _⟩ | h
    · omega
    · omega
    · exact h
  · omega
  · exact Or.inr (Or.inr (Or.inr (Or.inr (Or.inl h))))
  · exact Or.inr (Or.inr (Or.inr (Or.inr (Or.inr (Or.inl h)))))
  · exact Or.inr (Or.inr (Or.inr (Or.inr (Or.inr (Or.inr h)))))
theorem kDa_c {f : Nat → Int32} {e p la r c c' : Int} (h : kDa f e p la r c) (hr : r ≤ 0) : kDa f e p la r c' := by
  rcases h with ⟨u, n, hn, h, h'⟩ | ⟨u, n, hn, h, h'⟩ | ⟨u, h, h'⟩ | ⟨u, h, h'⟩ | ⟨u, h, _⟩ | h
  · exact Or.inl ⟨u, n, hn, h, fun q => by omega⟩
  · exact Or.inr (Or.inl ⟨u, n, hn, h, fun q => by omega⟩)
  · exact Or.inr (Or.inr (Or.inl ⟨u, h, fun q => by omega⟩))
  · exact Or.inr (Or.inr (Or.inr (Or.inl ⟨u, h, fun q => by omega⟩)))
  · omega
  · exact Or.inr (Or.inr (Or.inr (Or.inr (Or.inr h))))
theorem kIt_cm {f : Nat → Int32} {e p kd la pt pa co pe r c la' : Int} (hc : kCl f e p c) (h0 : 0 < c) (hr : r = c) (hl : la' = 0) : kIt f e p kd la pt pa co pe r kd la' pt pa co pe := ⟨c, hc, Or.inl ⟨h0, hr, rfl, hl, rfl, rfl, rfl, rfl⟩⟩
theorem kIt_nu {f : Nat → Int32} {e p kd la pt pa co pe r kd' pt' pa' co' pe' c a n : Int} {g : Nat → Int32} (hc : kCl f e p c) (h0 : c ≤ 0) (hk : kd = 2) (h : kNu f e p la pt pa co pe r kd' (kC g n) pt' pa' co' pe') (hn : r ≤ 0 ∨ a < n) : kIt f e p kd la pt pa co pe r kd' (kLf g a n) pt' pa' co' pe' := by
  refine ⟨c, hc, Or.inr ⟨h0, Or.inl ⟨hk, ?_⟩⟩⟩
  rcases hn with hn | hn
  · exact kNu_c h hn
  · rw [kLf_C hn rfl]; exact h
theorem kIt_da {f : Nat → Int32} {e p kd la pt pa co pe r kd' pt' pa' co' pe' c a n : Int} {g : Nat → Int32} (hc : kCl f e p c) (h0 : c ≤ 0) (hk : kd = 5) (h : kDa f e p la r (kC g n)) (hd : kd' = 5) (hn : r ≤ 0 ∨ a < n) : kIt f e p kd la pt pa co pe r kd' (kLf g a n) pt' pa' co' pe' := by
  refine ⟨c, hc, Or.inr ⟨h0, Or.inr (Or.inl ⟨hk, ?_, hd⟩)⟩⟩
  rcases hn with hn | hn
  · exact kDa_c h hn
  · rw [kLf_C hn rfl]; exact h
theorem kIt_tx {f : Nat → Int32} {e p kd la pt pa co pe r kd' la' pt' pa' co' pe' c : Int} (hc : kCl f e p c) (h0 : c ≤ 0) (hk : kd = 6) (h : (ych f e p = 64 ∧ r = 1) ∨ (¬ ych f e p = 64 ∧ ((r = 1 ∧ kLit (ych f e p)) ∨ (r = 0 ∧ ¬ kLit (ych f e p))))) (hd : kd' = 6) : kIt f e p kd la pt pa co pe r kd' la' pt' pa' co' pe' := by
  refine ⟨c, hc, Or.inr ⟨h0, Or.inr (Or.inr (Or.inl ⟨hk, ?_, hd⟩))⟩⟩
  rcases h with ⟨a, b⟩ | ⟨a, ⟨b, d⟩ | ⟨b, d⟩⟩
  · exact Or.inl ⟨Or.inl a, b⟩
  · exact Or.inl ⟨Or.inr d, b⟩
  · exact Or.inr ⟨fun q => q.elim a d, b⟩
theorem kIt_pl {f : Nat → Int32} {e p kd la pt pa co pe r kd' la' pt' pa' co' pe' c : Int} (hc : kCl f e p c) (h0 : c ≤ 0) (hk : kd = 1) (h : (r = 1 ∧ kLit (ych f e p)) ∨ (r = 0 ∧ ¬ kLit (ych f e p))) (hd : kd' = 1) : kIt f e p kd la pt pa co pe r kd' la' pt' pa' co' pe' := by
  refine ⟨c, hc, Or.inr ⟨h0, Or.inr (Or.inr (Or.inr (Or.inl ⟨hk, ?_, hd⟩)))⟩⟩
  rcases h with ⟨b, d⟩ | ⟨b, d⟩
  · exact Or.inl ⟨d, b⟩
  · exact Or.inr ⟨d, b⟩
theorem kIt_34 {f : Nat → Int32} {e p kd la pt pa co pe r kd' la' pt' pa' co' pe' c : Int} (hc : kCl f e p c) (h0 : c ≤ 0) (hk : kd = 3 ∨ kd = 4) (hr : r = 0) : kIt f e p kd la pt pa co pe r kd' la' pt' pa' co' pe' := ⟨c, hc, Or.inr ⟨h0, Or.inr (Or.inr (Or.inr (Or.inr ⟨hk, hr⟩)))⟩⟩
theorem kNu_kd {f : Nat → Int32} {e p la pt pa co pe r kd c pt' pa' co' pe' : Int} (h : kNu f e p la pt pa co pe r kd c pt' pa' co' pe') : r ≤ 0 ∨ (2 ≤ kd ∧ kd ≤ 4) := by
  rcases Int.lt_or_le 0 r with hr | hr
  · refine Or.inr ?_
    rcases h with ⟨_, _, h⟩ | ⟨_, _, h⟩ | ⟨_, _, h⟩ | ⟨_, h⟩ | ⟨_, h | h⟩ | ⟨_, h | h⟩ | ⟨_, h⟩
    · have := h hr; omega
    · have := h hr; omega
    · have := h hr; omega
    · omega
    · omega
    · omega
    · omega
    · omega
    · omega
  · exact Or.inl hr
