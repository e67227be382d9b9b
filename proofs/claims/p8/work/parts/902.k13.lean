/-! a section's run -/
def qTT (I : Nat → Int32) (n p : Int) : Prop := (qSO I ∧ qSR I p) ∧ (0 ≤ (I 5).toInt ∧ (I 5).toInt ≤ 1) ∧ (0 ≤ (I 7).toInt ∧ (I 7).toInt ≤ p) ∧ (0 ≤ (I 8).toInt ∧ (I 8).toInt ≤ p) ∧ (1 ≤ (I 0).toInt ∧ (I 0).toInt ≤ 6) ∧ (I 1).toInt ≤ n
theorem qT_ri {I0 I2 I3 f1 : Nat → Int32} {x1 : Int32} (hc : qC f1) (hT : qTT I2 (I3 4).toInt x1.toInt) (h0 : 0 ≤ x1.toInt) (h1 : x1.toInt ≤ 63) (h2 : (I0 1).toInt ≤ 64) (h3 : 0 ≤ (I3 4).toInt) (h4 : (I3 4).toInt ≤ x1.toInt) (h5 : x1.toInt < (I0 1).toInt) : qC f1 ∧ 0 ≤ x1.toInt ∧ x1.toInt ≤ 63 ∧ (I0 1).toInt ≤ 64 ∧ 0 ≤ (I2 1).toInt ∧ (I2 1).toInt ≤ 64 ∧ 0 ≤ (I2 2).toInt ∧ (I2 2).toInt ≤ 64 ∧ -4200 ≤ (I2 3).toInt ∧ (I2 3).toInt ≤ 64 ∧ 0 ≤ (I2 4).toInt ∧ (I2 4).toInt ≤ 64 ∧ 0 ≤ (I2 9).toInt ∧ (I2 9).toInt ≤ 3 ∧ 0 ≤ (I2 10).toInt ∧ (I2 10).toInt ≤ 4200 ∧ (0 ≤ (I2 5).toInt ∧ (I2 5).toInt ≤ 1) ∧ (0 ≤ (I2 7).toInt ∧ (I2 7).toInt ≤ 100) ∧ (0 ≤ (I2 8).toInt ∧ (I2 8).toInt ≤ 100) ∧ 0 ≤ (I3 4).toInt ∧ (I3 4).toInt ≤ 63 ∧ (I2 1).toInt ≤ (I3 4).toInt ∧ (I3 4).toInt ≤ x1.toInt ∧ x1.toInt < (I0 1).toInt ∧ 1 ≤ (I2 0).toInt ∧ (I2 0).toInt ≤ 6 := by
  unfold qTT qSO qSR at hT; refine ⟨hc, ?_⟩; omega
theorem qT_it {I0 I2 I3 f1 f4 gI2 gI3 gf4 : Nat → Int32} {x1 r : Int32} (hT : qTT I2 (I3 4).toInt x1.toInt) (hp : x1.toInt ≤ 63) (h : (I2 3).toInt - 64 ≤ (gI2 3).toInt ∧ (gI2 3).toInt ≤ (I2 3).toInt + 1 ∧ (I2 4).toInt ≤ (gI2 4).toInt ∧ (gI2 4).toInt ≤ (I2 4).toInt + 1 ∧ (I2 10).toInt ≤ (gI2 10).toInt ∧ (gI2 10).toInt ≤ (I2 10).toInt + 64 ∧ (gI2 1).toInt = (I2 1).toInt ∧ (gI2 2).toInt = (I2 2).toInt ∧ 0 ≤ (gI2 9).toInt ∧ (gI2 9).toInt ≤ 3 ∧ (gI3 1).toInt = (I3 1).toInt ∧ 0 ≤ r.toInt ∧ r.toInt ≤ 64 ∧ (I3 4).toInt ≤ (gI3 4).toInt ∧ (gI3 4).toInt ≤ (I3 4).toInt + r.toInt ∧ (r.toInt ≤ 0 ∨ (I3 4).toInt < (gI3 4).toInt) ∧ (r.toInt ≤ 0 ∨ (0 ≤ (gI2 5).toInt ∧ (gI2 5).toInt ≤ 1 ∧ (I2 7).toInt ≤ (gI2 7).toInt ∧ (gI2 7).toInt ≤ (I2 7).toInt + 1 ∧ (I2 8).toInt ≤ (gI2 8).toInt ∧ (gI2 8).toInt ≤ (I2 8).toInt + 1)) ∧ (r.toInt ≤ 0 ∨ (1 ≤ (gI2 0).toInt ∧ (gI2 0).toInt ≤ 6)) ∧ kIt f1 (I0 1).toInt x1.toInt (I2 0).toInt (kLf f4 (I2 1).toInt (I3 4).toInt) (I2 5).toInt (kps (I2 7).toInt) (kco (I2 6).toInt (I2 7).toInt) (kps (I2 8).toInt) r.toInt (gI2 0).toInt (kLf gf4 (gI2 1).toInt (gI3 4).toInt) (gI2 5).toInt (kps (gI2 7).toInt) (kco (gI2 6).toInt (gI2 7).toInt) (kps (gI2 8).toInt)) : (qSO gI2 ∧ (r.toInt ≤ 0 ∨ qTT gI2 (gI3 4).toInt (x1.toInt + r.toInt))) ∧ ((gI3 1).toInt = (I3 1).toInt ∧ 0 ≤ r.toInt ∧ r.toInt ≤ 64 ∧ (I3 4).toInt ≤ (gI3 4).toInt ∧ (gI3 4).toInt ≤ (I3 4).toInt + r.toInt) ∧ kIt f1 (I0 1).toInt x1.toInt (I2 0).toInt (kLf f4 (I2 1).toInt (I3 4).toInt) (I2 5).toInt (kps (I2 7).toInt) (kco (I2 6).toInt (I2 7).toInt) (kps (I2 8).toInt) r.toInt (gI2 0).toInt (kLf gf4 (gI2 1).toInt (gI3 4).toInt) (gI2 5).toInt (kps (gI2 7).toInt) (kco (gI2 6).toInt (gI2 7).toInt) (kps (gI2 8).toInt) := by
  obtain ⟨a1, a2, a3, a4, a5, a6, a7, a8, a9, a10, a11, a12, a13, a14, a15, a16, a17, a18, hI⟩ := h
  refine ⟨⟨?_, ?_⟩, ⟨a11, a12, a13, a14, a15⟩, hI⟩
  · clear hI; unfold qTT qSO qSR at *; omega
  · clear hI
    rcases Int.lt_or_le 0 r.toInt with c | c
    · right; unfold qTT qSO qSR at *; omega
    · exact Or.inl c
theorem qT_so {I : Nat → Int32} {n p : Int} (h : qTT I n p) : qSO I := h.1.1
theorem qT_1 {I : Nat → Int32} {n p : Int} (h : qTT I n p) : 0 ≤ (I 1).toInt ∧ (I 1).toInt ≤ 64 := h.1.1.1
def qF9 (I : Nat → Int32) (n : Int) : Prop := qF I ∧ (I 1).toInt = n ∧ (I 5).toInt = 0 ∧ (I 6).toInt = 0 ∧ (I 7).toInt = 0 ∧ (I 8).toInt = 0
theorem qF9_i {I : Nat → Int32} {x : Int32} {n : Int} (h : ((I 1).toInt = x.toInt ∧ (I 2).toInt = x.toInt ∧ (I 3).toInt = 0 ∧ (I 4).toInt = 0 ∧ (I 9).toInt = 0 ∧ (I 10).toInt = 0) ∧ (I 5).toInt = 0 ∧ (I 6).toInt = 0 ∧ (I 7).toInt = 0 ∧ (I 8).toInt = 0) (hn : x.toInt = n) (h0 : 0 ≤ x.toInt) (h1 : x.toInt ≤ 64) : qF9 I n := ⟨qF_i h.1 h0 h1, by omega, h.2⟩
theorem qF9_so {I : Nat → Int32} {n : Int} (h : qF9 I n) : qSO I := h.1.1
theorem qF9_T {I : Nat → Int32} {a : Int32} {n p : Int} (h : qF9 I n) (hp : 0 ≤ p) (h1 : 1 ≤ a.toInt) (h6 : a.toInt ≤ 6) : qTT (zu I 0 a) n p := by
  have hs := qSR_0 (a := a) h.1 hp
  have ho := qSO_0 (a := a) h.1.1
  obtain ⟨hq, e1, e5, e6, e7, e8⟩ := h
  refine ⟨⟨ho, hs⟩, ?_⟩
  simp only [zu_s, zu_n, ne_eq, Nat.reduceEqDiff, not_false_eq_true, reduceCtorEq]
  omega
def kRs (f : Nat → Int32) (e to p : Int) (I g : Nat → Int32) (n res : Int) : Prop := kR f e to p (I 0).toInt (kLf g (I 1).toInt n) (I 5).toInt (kps (I 7).toInt) (kco (I 6).toInt (I 7).toInt) (kps (I 8).toInt) res
def kX (f g I : Nat → Int32) (e i fr to p n kp b : Int) : Prop :=
  (b = 0 ∧ ∀ res : Int, kRs f e to p I g n res → kSc f e i fr to res) ∨ (¬ b = 0 ∧ (kK f e to p (I 0).toInt kp ∧ ((I 0).toInt = 2 ∨ (I 0).toInt = 5) ∧ kLf g (I 1).toInt n = 0) ∧ kSc f e i fr to (-1))
theorem kX_end {f g I : Nat → Int32} {e i fr to p n kp b : Int} (h : kX f g I e i fr to p n kp b) (hp : to ≤ p) : kSc f e i fr to (I 0).toInt := by
  rcases h with ⟨_, h⟩ | ⟨_, ⟨hK, hk, _⟩, _⟩
  · exact h _ (kR_end hp rfl)
  · have := kK_le hK (by omega); omega
theorem kX_b {f g I : Nat → Int32} {e i fr to p n kp b : Int} (h : kX f g I e i fr to p n kp b) (hb : ¬ b = 0) : kSc f e i fr to (-1) := by
  rcases h with ⟨h0, _⟩ | ⟨_, _, h⟩
  · exact absurd h0 hb
  · exact h
theorem kX_step {f g I G g' : Nat → Int32} {e i fr to p n m kp b r : Int} (h : kX f g I e i fr to p n kp b) (hp : p < to) (hb : b = 0 ∨ p < kp)
    (hi : kIt f e p (I 0).toInt (kLf g (I 1).toInt n) (I 5).toInt (kps (I 7).toInt) (kco (I 6).toInt (I 7).toInt) (kps (I 8).toInt) r (G 0).toInt (kLf g' (G 1).toInt m) (G 5).toInt (kps (G 7).toInt) (kco (G 6).toInt (G 7).toInt) (kps (G 8).toInt)) :
    (r ≤ 0 → kSc f e i fr to (-1)) ∧ (0 < r → kX f g' G e i fr to (p + r) m kp b) := by
  rcases h with ⟨h0, h⟩ | ⟨h0, ⟨hK, hk, hl⟩, h⟩
  · exact ⟨fun hr => h _ (kR_no hp hi hr rfl), fun hr => Or.inl ⟨h0, fun res hn => h _ (kR_go hp hi hr hn)⟩⟩
  · rw [hl] at hi
    rcases k4_step hK (by omega) hk hi with hr | ⟨hr, hK2, hd, hl2⟩
    · exact ⟨fun _ => h, fun c => by omega⟩
    · exact ⟨fun _ => h, fun _ => Or.inr ⟨h0, ⟨by rw [hd]; exact hK2, by omega, hl2⟩, h⟩⟩
theorem kKd_rng {f : Nat → Int32} {e to : Int} : ∀ (n : Nat) (p k kp : Int), kKd f e to n p k kp → k = 1 ∨ k = 2 ∨ k = 5 ∨ k = 6
  | 0, _, _, _, h => h.elim
  | n + 1, p, k, kp, h => by
    rcases h with ⟨a, b, c⟩ | ⟨a, r, hc, ⟨h0, h⟩ | ⟨h0, m, hm, ⟨c1, c2, c3⟩ | ⟨c1, h⟩⟩⟩
    · omega
    · exact kKd_rng n _ _ _ h
    · rcases hm with ⟨_, b⟩ | ⟨_, _, b⟩ | ⟨_, _, _, b⟩ | ⟨_, _, _, b⟩ <;> omega
    · exact kKd_rng n _ _ _ h
theorem kK_rng {f : Nat → Int32} {e to p k kp : Int} (h : kK f e to p k kp) : k = 1 ∨ k = 2 ∨ k = 5 ∨ k = 6 := by
  obtain ⟨n, h⟩ := h; exact kKd_rng n _ _ _ h
/-- at the section's beginning -/
theorem kX_0 {f g I : Nat → Int32} {a : Int32} {e i fr to n kp b : Int} (hF : qF9 I n) (hG : ¬ kGe f e fr to) (hK : kK f e to fr a.toInt kp) (hb : (b = 0 ∧ ¬ (i = 3 ∧ (a.toInt = 2 ∨ a.toInt = 5))) ∨ (¬ b = 0 ∧ i = 3 ∧ (a.toInt = 2 ∨ a.toInt = 5))) : kX f g (zu I 0 a) e i fr to fr n kp b := by
  obtain ⟨hq, e1, e5, e6, e7, e8⟩ := hF
  have hl : kLf g (I 1).toInt n = 0 := kLf_0 (by omega)
  unfold kX kRs
  simp only [zu_s, zu_n, ne_eq, Nat.reduceEqDiff, not_false_eq_true, reduceCtorEq]
  rw [hl, e5, e6, e7, e8]
  rcases hb with ⟨b0, hn⟩ | ⟨b0, h3, hk⟩
  · exact Or.inl ⟨b0, fun res hr => Or.inr ⟨hG, _, _, hK, Or.inr ⟨hn, hr⟩⟩⟩
  · exact Or.inr ⟨b0, ⟨hK, hk, rfl⟩, Or.inr ⟨hG, _, _, hK, Or.inl ⟨h3, hk, rfl⟩⟩⟩
theorem kGe_y {f : Nat → Int32} {e p to : Int} (h : to - p = 7) (hg : kGo f e p 9) : kGe f e p to := ⟨h, kgw_gen.1 hg⟩
theorem kGe_n {f : Nat → Int32} {e p to : Int} (h : ¬ to - p = 7) : ¬ kGe f e p to := fun c => h c.1
theorem kGe_n2 {f : Nat → Int32} {e p to : Int} (hg : ¬ kGo f e p 9) : ¬ kGe f e p to := fun c => hg (kgw_gen.2 c.2)
theorem kSc_g {f : Nat → Int32} {e i p to : Int} (h : kGe f e p to) (hi : ¬ i = 3) : kSc f e i p to 0 := Or.inl ⟨h, Or.inr ⟨hi, rfl⟩⟩
theorem kSc_g3 {f : Nat → Int32} {e i p to : Int} (h : kGe f e p to) (hi : i = 3) : kSc f e i p to (-1) := Or.inl ⟨h, Or.inl ⟨hi, rfl⟩⟩

/-! an item stays in its section -/
def kP1 (f : Nat → Int32) (e p : Int) : Prop := p < e ∧ ypl (f p.toNat).toInt
theorem kP1_s {f : Nat → Int32} {e p b : Int} (h : ysm (ych f e p) = b) (hb : b = 48 ∨ b = 35 ∨ b = 63 ∨ b = 46 ∨ b = 44 ∨ b = 37 ∨ b = 101 ∨ b = 47 ∨ b = 43 ∨ b = 45 ∨ (97 ≤ b ∧ b ≤ 122) ∨ b = 91 ∨ b = 93 ∨ b = 64 ∨ (49 ≤ b ∧ b ≤ 57)) : kP1 f e p := ypl_of h (by unfold ypl; omega) (by omega)
theorem ysm_id {c : Int} (h : ¬ (65 ≤ c ∧ c ≤ 90)) : ysm c = c := by unfold ysm; rw [if_neg h]
theorem kP1_c {f : Nat → Int32} {e p : Int} (hb : ych f e p = 48 ∨ ych f e p = 35 ∨ ych f e p = 63 ∨ ych f e p = 46 ∨ ych f e p = 44 ∨ ych f e p = 37 ∨ ych f e p = 101 ∨ ych f e p = 47 ∨ ych f e p = 43 ∨ ych f e p = 45 ∨ ych f e p = 91 ∨ ych f e p = 93 ∨ ych f e p = 64 ∨ (49 ≤ ych f e p ∧ ych f e p ≤ 57)) : kP1 f e p := kP1_s (b := ych f e p) (ysm_id (by omega)) (by omega)
theorem kP1_P {f : Nat → Int32} {e p r : Int} (hr : 0 < r) (h : ∀ j : Int, 0 ≤ j → j < r → kP1 f e (p + j)) : p + r ≤ e ∧ yP f p (p + r) := by
  refine ⟨?_, fun j h0 h1 => ?_⟩
  · have := (h (r - 1) (by omega) (by omega)).1; omega
  · have := (h (j - p) (by omega) (by omega)).2
    rw [show p + (j - p) = j by omega] at this; exact this
theorem kP1_0 {f : Nat → Int32} {e p r : Int} (h : kP1 f e p) (hr : r = 1) : ∀ j : Int, 0 ≤ j → j < r → kP1 f e (p + j) := fun j h0 h1 => by
  rw [show p + j = p by omega]; exact h
theorem kNu_P {f : Nat → Int32} {e p la pt pa co pe r kd c pt' pa' co' pe' : Int} (h : kNu f e p la pt pa co pe r kd c pt' pa' co' pe') (hr : 0 < r) : ∀ j : Int, 0 ≤ j → j < r → kP1 f e (p + j) := by
  rcases h with ⟨u, h, _⟩ | ⟨u, h, _⟩ | ⟨u, h, _⟩ | ⟨u, h, _⟩ | ⟨u, h | ⟨_, h⟩⟩ | ⟨u, h | ⟨_, h⟩⟩ | ⟨_, h⟩
  · refine kP1_0 (kP1_s rfl (by unfold kPl at u; omega)) (by omega)
  · refine kP1_0 (kP1_s u (by omega)) (by omega)
  · refine kP1_0 (kP1_s u (by omega)) ?_
    rcases h with ⟨_, _, h, _⟩ | ⟨_, h, _⟩ | ⟨_, _, h⟩ <;> omega
  · exact kP1_0 (kP1_s u (by omega)) h
  · obtain ⟨_, _, _, h1, h2, ⟨n, hn, hr2⟩, _⟩ := h
    intro j h0 hj
    rcases Int.lt_or_le j 1 with c | c
    · rw [show p + j = p by omega]; exact kP1_s u (by omega)
    · rcases Int.lt_or_le j 2 with d | d
      · rw [show p + j = p + 1 by omega]; exact kP1_c (by omega)
      · have q := hn.2.2.1 (j - 2) (by omega) (by omega)
        rw [show p + 2 + (j - 2) = p + j by omega] at q
        exact kP1_c (by unfold kPl at q; omega)
  · omega
  · obtain ⟨_, _, _, _, _, h⟩ := h
    intro j h0 hj
    rcases Int.lt_or_le j 1 with c | c
    · rw [show p + j = p by omega]; exact kP1_s u (by omega)
    · rcases h with ⟨_, n, hn, hr2⟩ | ⟨_, n, hn, hr2⟩
      · have q := hn.2.2.1 (j - 1) (by omega) (by omega)
        rw [show p + 1 + (j - 1) = p + j by omega] at q
        exact kP1_c (by unfold kPl at q; omega)
      · have q := hn.2.2.1 (j - 1) (by omega) (by omega)
        rw [show p + 1 + (j - 1) = p + j by omega] at q
        exact kP1_c (by omega)
  · omega
  · omega
theorem kW_P1 {f : Nat → Int32} {e p r : Int} {l : List Int} (h : kW f e p l) (hr : r = l.length) (hl : ∀ x ∈ l, x = 47 ∨ (97 ≤ x ∧ x ≤ 122)) : ∀ j : Int, 0 ≤ j → j < r → kP1 f e (p + j) := fun j h0 h1 => by
  have q := (kW_iff l p).1 h j.toNat (by omega)
  rw [show p + (j.toNat : Int) = p + j by omega] at q
  have hm : l.getD j.toNat 0 ∈ l := by
    rw [List.getD_eq_getElem?_getD, List.getElem?_eq_getElem (by omega)]; exact List.getElem_mem _
  have := hl _ hm
  exact kP1_s q (by omega)
theorem kDa_P {f : Nat → Int32} {e p la r c : Int} (h : kDa f e p la r c) (hr : 0 < r) : ∀ j : Int, 0 ≤ j → j < r → kP1 f e (p + j) := by
  rcases h with ⟨u, n, hn, h, _⟩ | ⟨u, n, hn, h, _⟩ | ⟨u, h, _⟩ | ⟨u, h, _⟩ | ⟨u, h, _⟩ | ⟨_, h⟩
  · intro j h0 hj
    have hrn : r = n := by rcases h with ⟨_, h⟩ | ⟨_, h⟩ <;> omega
    have q := hn.2.1 j h0 (by omega)
    exact kP1_s q (by unfold kRw at u; omega)
  · rcases hn with ⟨_, hn⟩ | ⟨⟨a, b⟩, m, hm, hn⟩
    · exfalso; omega
    · intro j h0 hj
      have hrn : n = m ∧ r = n + 2 ∧ ych f e (p + 1 + m) = 93 := by rcases hn with ⟨q1, q2⟩ | ⟨q1, q2⟩ <;> omega
      rcases Int.lt_or_le j 1 with c | c
      · rw [show p + j = p by omega]; exact kP1_c (by omega)
      · rcases Int.lt_or_le j (m + 1) with d | d
        · have q := hm.2.1 (j - 1) (by omega) (by omega)
          rw [show p + 1 + (j - 1) = p + j by omega] at q
          exact kP1_s q (by unfold kHms at b; omega)
        · rw [show p + j = p + 1 + m by omega]; exact kP1_c (by omega)
  · rcases h with ⟨w, h⟩ | ⟨_, w, h⟩ | ⟨_, _, h⟩
    · exact kW_P1 w (by rw [h]; rfl) (by decide)
    · exact kW_P1 w (by rw [h]; rfl) (by decide)
    · omega
  · intro j h0 hj
    rcases Int.lt_or_le j 1 with c | c
    · rw [show p + j = p by omega]; exact kP1_c (by omega)
    · rcases h with ⟨_, a, n, hn, h⟩ | ⟨_, h⟩
      · have q := hn.2.1 (j - 1) (by omega) (by omega)
        rw [show p + 1 + (j - 1) = p + j by omega, a] at q
        exact kP1_s q (by left; decide)
      · omega
  · exact kP1_0 (kP1_c (by omega)) h
  · omega
theorem kIt_S {f : Nat → Int32} {e to p kd la pt pa co pe r kd' la' pt' pa' co' pe' : Int} (h0 : 0 ≤ p) (hS : yS f e to p) (hp : p < to) (h : kIt f e p kd la pt pa co pe r kd' la' pt' pa' co' pe') (hr : 0 < r) : yS f e to (p + r) ∧ p + r ≤ e := by
  obtain ⟨he, h59⟩ := yS_lt hS hp
  obtain ⟨c, hc, h⟩ := h
  have pl : (∀ j : Int, 0 ≤ j → j < r → kP1 f e (p + j)) → yS f e to (p + r) ∧ p + r ≤ e := fun q => by
    obtain ⟨a, b⟩ := kP1_P hr q
    exact ⟨yS_pl (by omega) a b hS, a⟩
  rcases h with ⟨c0, h⟩ | ⟨c0, h⟩
  · obtain ⟨h, _⟩ := h
    subst h
    have hend : p + r ≤ e := by have := kCl_end hc h0; omega
    refine ⟨?_, hend⟩
    have hy := ych_f (f := f) (e := e) (p := p) he
    rcases hc with ⟨a, q, hq, hrq⟩ | ⟨a, b⟩ | ⟨a, b⟩ | ⟨⟨a, a2, a3, a4, a5⟩, b⟩
    · rw [show p + r = q by omega]
      exact yS_fwd hS he h59 (Or.inl ⟨by omega, hq, by omega⟩)
    · have h2 : r = 2 ∧ p + 1 < e := by rcases b with ⟨b1, b2⟩ | ⟨b1, b2⟩ <;> omega
      exact yS_fwd hS he h59 (Or.inr (Or.inl ⟨Or.inl (by omega), by unfold ypair; omega, by omega⟩))
    · exact yS_pl (by omega) hend (kCo_yP b) hS
    · have h1 : r = 1 := by rcases b with ⟨b1, b2⟩ | ⟨b1, b2⟩ <;> omega
      refine yS_fwd hS he h59 (Or.inr (Or.inr ⟨Or.inl (by omega), fun cc => by unfold ypair at cc; omega, by omega⟩))
  · rcases h with ⟨_, h⟩ | ⟨_, h, _⟩ | ⟨_, h, _⟩ | ⟨_, h, _⟩ | ⟨_, h⟩
    · exact pl (kNu_P h hr)
    · exact pl (kDa_P h hr)
    · rcases h with ⟨a, h⟩ | ⟨a, h⟩
      · exact pl (kP1_0 (kP1_c (by unfold kLit at a; omega)) h)
      · omega
    · rcases h with ⟨a, h⟩ | ⟨a, h⟩
      · exact pl (kP1_0 (kP1_c (by unfold kLit at a; omega)) h)
      · omega
    · omega

def kS4 (j : Nat) (a b c d : Int) : Int := if j = 0 then a else if j = 1 then b else if j = 2 then c else d
theorem kS4_0 {a b c d : Int} : kS4 0 a b c d = a := rfl
theorem kS4_1 {a b c d : Int} : kS4 1 a b c d = b := rfl
theorem kS4_2 {a b c d : Int} : kS4 2 a b c d = c := rfl
theorem kS4_3 {a b c d : Int} : kS4 3 a b c d = d := rfl
def qU (f g I : Nat → Int32) (e i fr to n kp : Int) : Prop := (qTT I n fr ∧ yS f e to fr ∧ 0 ≤ fr ∧ fr ≤ e) ∧ ((I 0).toInt = 1 ∨ (I 0).toInt = 2 ∨ (I 0).toInt = 5 ∨ (I 0).toInt = 6) ∧ ∀ b : Int, ((b = 0 ∧ ¬ (i = 3 ∧ ((I 0).toInt = 2 ∨ (I 0).toInt = 5))) ∨ (¬ b = 0 ∧ i = 3 ∧ ((I 0).toInt = 2 ∨ (I 0).toInt = 5))) → kX f g I e i fr to fr n kp b
theorem qU_0 {f g I : Nat → Int32} {a : Int32} {e i fr to n kp : Int} (hF : qF9 I n) (hG : ¬ kGe f e fr to) (hK : kK f e to fr a.toInt kp) (hS : yS f e to fr) (h0 : 0 ≤ fr) (h1 : fr ≤ e) : qU f g (zu I 0 a) e i fr to n kp := by
  have hr := kK_rng hK
  refine ⟨⟨qF9_T hF h0 (by omega) (by omega), hS, h0, h1⟩, by rw [zu_s]; exact hr, fun b hb => ?_⟩
  rw [zu_s] at hb
  exact kX_0 hF hG hK hb
def qV (f g I : Nat → Int32) (e i fr to p n kp b : Int) : Prop := qTT I n p ∧ kX f g I e i fr to p n kp b ∧ yS f e to p ∧ 0 ≤ p ∧ p ≤ e
theorem qU_X {f g I : Nat → Int32} {e i fr to n kp b : Int} (h : qU f g I e i fr to n kp) (hb : (b = 0 ∧ (¬ i = 3 ∨ (I 0).toInt = 1 ∨ (I 0).toInt = 6)) ∨ (b = 1 ∧ i = 3 ∧ ¬ (I 0).toInt = 1 ∧ ¬ (I 0).toInt = 6)) : qV f g I e i fr to fr n kp b := by
  obtain ⟨⟨hT, hS⟩, hr, hx⟩ := h
  exact ⟨hT, hx b (by omega), hS⟩
theorem qV_ri {I0 I2 I3 f1 : Nat → Int32} {g : Nat → Int32} {x1 : Int32} {e i fr to kp b : Int} (hc : qC f1) (hV : qV f1 g I2 e i fr to x1.toInt (I3 4).toInt kp b) (h0 : 0 ≤ x1.toInt) (h1 : x1.toInt ≤ 63) (h2 : (I0 1).toInt ≤ 64) (h3 : 0 ≤ (I3 4).toInt) (h4 : (I3 4).toInt ≤ x1.toInt) (h5 : x1.toInt < (I0 1).toInt) : qC f1 ∧ 0 ≤ x1.toInt ∧ x1.toInt ≤ 63 ∧ (I0 1).toInt ≤ 64 ∧ 0 ≤ (I2 1).toInt ∧ (I2 1).toInt ≤ 64 ∧ 0 ≤ (I2 2).toInt ∧ (I2 2).toInt ≤ 64 ∧ -4200 ≤ (I2 3).toInt ∧ (I2 3).toInt ≤ 64 ∧ 0 ≤ (I2 4).toInt ∧ (I2 4).toInt ≤ 64 ∧ 0 ≤ (I2 9).toInt ∧ (I2 9).toInt ≤ 3 ∧ 0 ≤ (I2 10).toInt ∧ (I2 10).toInt ≤ 4200 ∧ (0 ≤ (I2 5).toInt ∧ (I2 5).toInt ≤ 1) ∧ (0 ≤ (I2 7).toInt ∧ (I2 7).toInt ≤ 100) ∧ (0 ≤ (I2 8).toInt ∧ (I2 8).toInt ≤ 100) ∧ 0 ≤ (I3 4).toInt ∧ (I3 4).toInt ≤ 63 ∧ (I2 1).toInt ≤ (I3 4).toInt ∧ (I3 4).toInt ≤ x1.toInt ∧ x1.toInt < (I0 1).toInt ∧ 1 ≤ (I2 0).toInt ∧ (I2 0).toInt ≤ 6 := qT_ri hc hV.1 h0 h1 h2 h3 h4 h5
theorem qV_it {I0 I2 I3 f1 f4 gI2 gI3 gf4 : Nat → Int32} {x1 r : Int32} {e i fr to kp b : Int} (hV : qV f1 f4 I2 e i fr to x1.toInt (I3 4).toInt kp b) (he : (I0 1).toInt = e) (hp : x1.toInt ≤ 63) (ht : x1.toInt < to) (hb : b = 0 ∨ x1.toInt < kp) (h : (I2 3).toInt - 64 ≤ (gI2 3).toInt ∧ (gI2 3).toInt ≤ (I2 3).toInt + 1 ∧ (I2 4).toInt ≤ (gI2 4).toInt ∧ (gI2 4).toInt ≤ (I2 4).toInt + 1 ∧ (I2 10).toInt ≤ (gI2 10).toInt ∧ (gI2 10).toInt ≤ (I2 10).toInt + 64 ∧ (gI2 1).toInt = (I2 1).toInt ∧ (gI2 2).toInt = (I2 2).toInt ∧ 0 ≤ (gI2 9).toInt ∧ (gI2 9).toInt ≤ 3 ∧ (gI3 1).toInt = (I3 1).toInt ∧ 0 ≤ r.toInt ∧ r.toInt ≤ 64 ∧ (I3 4).toInt ≤ (gI3 4).toInt ∧ (gI3 4).toInt ≤ (I3 4).toInt + r.toInt ∧ (r.toInt ≤ 0 ∨ (I3 4).toInt < (gI3 4).toInt) ∧ (r.toInt ≤ 0 ∨ (0 ≤ (gI2 5).toInt ∧ (gI2 5).toInt ≤ 1 ∧ (I2 7).toInt ≤ (gI2 7).toInt ∧ (gI2 7).toInt ≤ (I2 7).toInt + 1 ∧ (I2 8).toInt ≤ (gI2 8).toInt ∧ (gI2 8).toInt ≤ (I2 8).toInt + 1)) ∧ (r.toInt ≤ 0 ∨ (1 ≤ (gI2 0).toInt ∧ (gI2 0).toInt ≤ 6)) ∧ kIt f1 (I0 1).toInt x1.toInt (I2 0).toInt (kLf f4 (I2 1).toInt (I3 4).toInt) (I2 5).toInt (kps (I2 7).toInt) (kco (I2 6).toInt (I2 7).toInt) (kps (I2 8).toInt) r.toInt (gI2 0).toInt (kLf gf4 (gI2 1).toInt (gI3 4).toInt) (gI2 5).toInt (kps (gI2 7).toInt) (kco (gI2 6).toInt (gI2 7).toInt) (kps (gI2 8).toInt)) : qSO gI2 ∧ ((r.toInt ≤ 0 ∧ kSc f1 e i fr to (-1)) ∨ (0 < r.toInt ∧ qV f1 gf4 gI2 e i fr to (x1.toInt + r.toInt) (gI3 4).toInt kp b)) ∧ ((gI3 1).toInt = (I3 1).toInt ∧ 0 ≤ r.toInt ∧ r.toInt ≤ 64 ∧ (I3 4).toInt ≤ (gI3 4).toInt ∧ (gI3 4).toInt ≤ (I3 4).toInt + r.toInt) := by
  obtain ⟨⟨hs, hT⟩, h, hI⟩ := qT_it hV.1 hp h
  rw [he] at hI
  obtain ⟨x1, x2⟩ := kX_step hV.2.1 ht hb hI
  refine ⟨hs, ?_, h⟩
  rcases Int.lt_or_le 0 r.toInt with c | c
  · obtain ⟨y1, y2⟩ := kIt_S hV.2.2.2.1 hV.2.2.1 ht hI c
    have := hV.2.2.2.1
    exact Or.inr ⟨c, hT.resolve_left (by omega), x2 c, y1, by omega, y2⟩
  · exact Or.inl ⟨c, x1 c⟩
theorem qV_end {f g I : Nat → Int32} {e i fr to p n kp b : Int} (h : qV f g I e i fr to p n kp b) (hp : to ≤ p) : kSc f e i fr to (I 0).toInt := kX_end h.2.1 hp
theorem qV_b {f g I : Nat → Int32} {e i fr to p n kp b : Int} (h : qV f g I e i fr to p n kp b) (hb : ¬ b = 0) : kSc f e i fr to (-1) := kX_b h.2.1 hb
theorem qV_1 {f g I : Nat → Int32} {e i fr to p n kp b : Int} (h : qV f g I e i fr to p n kp b) : 0 ≤ (I 1).toInt ∧ (I 1).toInt ≤ 64 := qT_1 h.1
theorem qV_le {f g I : Nat → Int32} {e i fr to p n kp b : Int} (h : qV f g I e i fr to p n kp b) : p ≤ to ∧ to ≤ e := yS_le h.2.2.1 h.2.2.2.2
theorem qV_p {f g I : Nat → Int32} {e i fr to p q n kp b : Int} (h : qV f g I e i fr to p n kp b) (hq : q = p) : qV f g I e i fr to q n kp b := by subst hq; exact h

def kFr4 (j : Nat) (a b c d a' b' c' d' : Int) : Prop := (j = 0 ∨ a = a') ∧ (j = 1 ∨ b = b') ∧ (j = 2 ∨ c = c') ∧ (j = 3 ∨ d = d')
theorem kFr4_i {j : Nat} {a b c d a' b' c' d' : Int} (h : (j = 0 ∨ a = a') ∧ (j = 1 ∨ b = b') ∧ (j = 2 ∨ c = c') ∧ (j = 3 ∨ d = d')) : kFr4 j a b c d a' b' c' d' := h
theorem kFr4_0 {j : Nat} {a b c d a' b' c' d' x : Int} (he : j = 0) (h : kFr4 j a b c d a' b' c' d') : kFr4 0 x b c d a' b' c' d' := by
  subst he; exact ⟨Or.inl rfl, h.2.1, h.2.2.1, h.2.2.2⟩
theorem kFr4_1 {j : Nat} {a b c d a' b' c' d' x : Int} (he : j = 1) (h : kFr4 j a b c d a' b' c' d') : kFr4 1 a x c d a' b' c' d' := by
  subst he; exact ⟨h.1, Or.inl rfl, h.2.2.1, h.2.2.2⟩
theorem kFr4_2 {j : Nat} {a b c d a' b' c' d' x : Int} (he : j = 2) (h : kFr4 j a b c d a' b' c' d') : kFr4 2 a b x d a' b' c' d' := by
  subst he; exact ⟨h.1, h.2.1, Or.inl rfl, h.2.2.2⟩
theorem kFr4_3 {j : Nat} {a b c d a' b' c' d' x : Int} (he : j = 3) (h : kFr4 j a b c d a' b' c' d') : kFr4 3 a b c x a' b' c' d' := by
  subst he; exact ⟨h.1, h.2.1, h.2.2.1, Or.inl rfl⟩
theorem qF9_n {I : Nat → Int32} {n m : Int} (h : qF9 I n) (hm : m = n) : qF9 I m := by subst hm; exact h
theorem kFr4_v0 {j : Nat} {a b c d a' b' c' d' x : Int} (he : j = 0) (h : kFr4 j a b c d a' b' c' d') : kFr4 j x b c d a' b' c' d' := by
  have := kFr4_0 (x := x) he h; rw [← he] at this; exact this
theorem kFr4_v1 {j : Nat} {a b c d a' b' c' d' x : Int} (he : j = 1) (h : kFr4 j a b c d a' b' c' d') : kFr4 j a x c d a' b' c' d' := by
  have := kFr4_1 (x := x) he h; rw [← he] at this; exact this
theorem kFr4_v2 {j : Nat} {a b c d a' b' c' d' x : Int} (he : j = 2) (h : kFr4 j a b c d a' b' c' d') : kFr4 j a b x d a' b' c' d' := by
  have := kFr4_2 (x := x) he h; rw [← he] at this; exact this
theorem kFr4_v3 {j : Nat} {a b c d a' b' c' d' x : Int} (he : j = 3) (h : kFr4 j a b c d a' b' c' d') : kFr4 j a b c x a' b' c' d' := by
  have := kFr4_3 (x := x) he h; rw [← he] at this; exact this
theorem qV_b4 {f g I3 I4 I5 I6 : Nat → Int32} {j : Nat} {e i fr to p n kp b : Int} (hj : j < 4) (r3 : j = 0 → qV f g I3 e i fr to p n kp b) (r4 : j = 1 → qV f g I4 e i fr to p n kp b) (r5 : j = 2 → qV f g I5 e i fr to p n kp b) (r6 : j = 3 → qV f g I6 e i fr to p n kp b) (hb : ¬ b = 0) : kSc f e i fr to (-1) := by
  have : j = 0 ∨ j = 1 ∨ j = 2 ∨ j = 3 := by omega
  rcases this with h | h | h | h
  · exact qV_b (r3 h) hb
  · exact qV_b (r4 h) hb
  · exact qV_b (r5 h) hb
  · exact qV_b (r6 h) hb
theorem qV_end2 {f g I : Nat → Int32} {e i fr to p n kp b : Int} (h : qV f g I e i fr to p n kp b) (hp : to ≤ p) : 0 ≤ (I 0).toInt ∧ kSc f e i fr to (I 0).toInt := ⟨by have := h.1.2.2.2.2.1; omega, kX_end h.2.1 hp⟩
theorem kSc_g2 {f : Nat → Int32} {e i p to : Int} (h : kGe f e p to) (hi : ¬ i = 3) : (0 : Int) ≤ 0 ∧ kSc f e i p to 0 := ⟨Int.le_refl _, kSc_g h hi⟩

/-! sections one after another -/
def kLo (f : Nat → Int32) (e i p a b c d : Int) : Prop := ∀ (ok n : Int) (K : Nat → Int), (∀ j : Nat, (j : Int) < i → K j = kS4 j a b c d) → (∃ m : Nat, kCd f e m i.toNat p ok n K) → ∃ m : Nat, kCd f e m 0 0 ok n K
theorem kLo_0 {f : Nat → Int32} {e a b c d : Int} : kLo f e (0 : Int32).toInt (0 : Int32).toInt a b c d := fun ok n K _ h => h
theorem kLo_bad {f : Nat → Int32} {e i p to a b c d : Int} (h : kLo f e i p a b c d) (hy : yS f e to p) (hs : kSc f e i p to (-1)) (hi : 0 ≤ i) : ∃ (m : Nat) (n : Int) (K : Nat → Int), kCd f e m 0 0 0 n K := by
  obtain ⟨m, hm⟩ := h 0 0 (fun j => kS4 j a b c d) (fun _ _ => rfl) ⟨1, to, -1, hy, by rw [show ((i.toNat : Nat) : Int) = i by omega]; exact hs, Or.inl ⟨rfl, rfl⟩⟩
  exact ⟨m, _, _, hm⟩
theorem kFr4_at {j k : Nat} {a b c d a' b' c' d' : Int} (h : kFr4 j a' b' c' d' a b c d) (hk : k < j) (hj : j < 4) : kS4 k a' b' c' d' = kS4 k a b c d := by
  obtain ⟨h0, h1, h2, h3⟩ := h
  have : k = 0 ∨ k = 1 ∨ k = 2 := by omega
  rcases this with q | q | q <;> subst q
  · exact h0.resolve_left (by omega)
  · exact h1.resolve_left (by omega)
  · exact h2.resolve_left (by omega)
theorem kLo_st {f : Nat → Int32} {e i p to a b c d a' b' c' d' : Int} {j : Nat} (h : kLo f e i p a b c d) (hy : yS f e to p) (hs : kSc f e i p to (kS4 j a' b' c' d')) (h0 : 0 ≤ kS4 j a' b' c' d') (hf : kFr4 j a' b' c' d' a b c d) (hj : (j : Int) = i) (h3 : i ≤ 3) (ok n : Int) (K : Nat → Int) (hK : ∀ k : Nat, (k : Int) < i + 1 → K k = kS4 k a' b' c' d')
    (hq : (e ≤ to ∧ ok = 1 ∧ n = i + 1) ∨ (to < e ∧ (kS4 j a' b' c' d' = 6 ∨ i = 3) ∧ ok = 0) ∨ (to < e ∧ ¬ (kS4 j a' b' c' d' = 6 ∨ i = 3) ∧ ∃ m : Nat, kCd f e m (j + 1) (to + 1) ok n K)) : ∃ m : Nat, kCd f e m 0 0 ok n K := by
  have hij : i.toNat = j := by omega
  refine h ok n K (fun k hk => by rw [hK k (by omega)]; exact kFr4_at hf (by omega) (by omega)) ?_
  rw [hij]
  rw [← hj] at hs hq
  rcases hq with hq | hq | ⟨h1, h2, m, hm⟩
  · exact ⟨1, to, _, hy, hs, Or.inr ⟨by omega, hK j (by omega), Or.inl hq⟩⟩
  · exact ⟨1, to, _, hy, hs, Or.inr ⟨by omega, hK j (by omega), Or.inr (Or.inl ⟨hq.1, by omega, hq.2.2⟩)⟩⟩
  · exact ⟨m + 1, to, _, hy, hs, Or.inr ⟨by omega, hK j (by omega), Or.inr (Or.inr ⟨h1, by omega, hm⟩)⟩⟩
theorem kLo_end {f : Nat → Int32} {e i p to a b c d a' b' c' d' n : Int} {j : Nat} (h : kLo f e i p a b c d) (hy : yS f e to p) (hs : kSc f e i p to (kS4 j a' b' c' d')) (h0 : 0 ≤ kS4 j a' b' c' d') (hf : kFr4 j a' b' c' d' a b c d) (hj : (j : Int) = i) (h3 : i ≤ 3) (hn : n = i + 1) (he : e ≤ to) : ∃ m : Nat, kCd f e m 0 0 1 n (fun j => kS4 j a' b' c' d') :=
  kLo_st h hy hs h0 hf hj h3 1 n _ (fun _ _ => rfl) (Or.inl ⟨he, rfl, hn⟩)
theorem kLo_semi {f : Nat → Int32} {e i p to a b c d a' b' c' d' : Int} {j : Nat} (h : kLo f e i p a b c d) (hy : yS f e to p) (hs : kSc f e i p to (kS4 j a' b' c' d')) (h0 : 0 ≤ kS4 j a' b' c' d') (hf : kFr4 j a' b' c' d' a b c d) (hj : (j : Int) = i) (h3 : i ≤ 3) (he : to < e) (h6 : kS4 j a' b' c' d' = 6 ∨ i = 3) : ∃ (m : Nat) (n : Int) (K : Nat → Int), kCd f e m 0 0 0 n K := by
  obtain ⟨m, hm⟩ := kLo_st h hy hs h0 hf hj h3 0 0 (fun j => kS4 j a' b' c' d') (fun _ _ => rfl) (Or.inr (Or.inl ⟨he, h6, rfl⟩))
  exact ⟨m, _, _, hm⟩
theorem kLo_go {f : Nat → Int32} {e i p to a b c d a' b' c' d' i2 p2 : Int} {j : Nat} (h : kLo f e i p a b c d) (hy : yS f e to p) (hs : kSc f e i p to (kS4 j a' b' c' d')) (h0 : 0 ≤ kS4 j a' b' c' d') (hf : kFr4 j a' b' c' d' a b c d) (hj : (j : Int) = i) (h3 : i ≤ 3) (he : to < e) (h6 : ¬ (kS4 j a' b' c' d' = 6 ∨ i = 3)) (hi2 : i2 = i + 1) (hp2 : p2 = to + 1) : kLo f e i2 p2 a' b' c' d' := fun ok n K hK hm => by
  subst hi2; subst hp2
  rw [show (i + 1).toNat = j + 1 by omega] at hm
  exact kLo_st h hy hs h0 hf hj h3 ok n K hK (Or.inr (Or.inr ⟨he, h6, hm⟩))

/-! the reference's last item -/
def rcls (k c : Int) : Int := if k = 2 then 2 else if k = 3 then 3 else if k = 5 then 6 else if (k = 11 ∨ k = 12) ∧ c = 115 then 25 else 0
def rC (g h : Nat → Int32) (n : Int) : Int := rcls (g (160 + n - 1).toNat).toInt (h (160 + n - 1).toNat).toInt
def kLr (g h : Nat → Int32) (a n : Int) : Int := if a < n then rC g h n else 0
theorem kLr_C {g h : Nat → Int32} {a n c : Int} (hn : a < n) (hc : rC g h n = c) : kLr g h a n = c := by unfold kLr; rw [if_pos hn]; exact hc
theorem kLr_0 {g h : Nat → Int32} {a n : Int} (hn : n ≤ a) : kLr g h a n = 0 := by unfold kLr; rw [if_neg (by omega)]
theorem k160 {x : Int32} (h0 : 0 ≤ x.toInt) (h1 : x.toInt ≤ 100) : (160 + x : Int32).toInt = 160 + x.toInt := zadd1 (by simp only [Int32.reduceToInt]; omega) (by simp only [Int32.reduceToInt]; omega)
theorem rC_add {g h : Nat → Int32} {x k c : Int32} {m v : Int} (h0 : 0 ≤ x.toInt) (h1 : x.toInt ≤ 100) (hm : m = x.toInt + 1) (hv : rcls k.toInt c.toInt = v) : rC (upd g (160 + x).toNatClampNeg k) (upd h (160 + x).toNatClampNeg c) m = v := by
  unfold rC
  have e : (160 + m - 1).toNat = (160 + x).toNatClampNeg := by rw [zcl, k160 h0 h1]; omega
  rw [e, pk_us, pk_us]; exact hv
theorem rc_0 {c : Int} : rcls 0 c = 0 := rfl
theorem rc_1 {c : Int} : rcls 1 c = 0 := rfl
theorem rc_2 {c : Int} : rcls 2 c = 2 := rfl
theorem rc_3 {c : Int} : rcls 3 c = 3 := rfl
theorem rc_4 {c : Int} : rcls 4 c = 0 := rfl
theorem rc_5 {c : Int} : rcls 5 c = 6 := rfl
theorem rc_6 {c : Int} : rcls 6 c = 0 := rfl
theorem rc_7 {c : Int} : rcls 7 c = 0 := rfl
theorem rc_8 {c : Int} : rcls 8 c = 0 := rfl
theorem rc_10 {c : Int} : rcls 10 c = 0 := rfl
theorem rc_11 {c : Int} : rcls 11 c = (if c = 115 then 25 else 0) := by unfold rcls; by_cases h : c = 115 <;> simp [h]
theorem rc_12 {c : Int} : rcls 12 c = (if c = 115 then 25 else 0) := by unfold rcls; by_cases h : c = 115 <;> simp [h]
theorem rc_13 {c : Int} : rcls 13 c = 0 := rfl
theorem rc_14 {c : Int} : rcls 14 c = 0 := rfl
theorem rc_15 {c : Int} : rcls 15 c = 0 := rfl
theorem rc_16 {c : Int} : rcls 16 c = 0 := rfl
theorem rcls_i (k c : Int) : (k = 2 ∧ rcls k c = 2) ∨ (k = 3 ∧ rcls k c = 3) ∨ (k = 5 ∧ rcls k c = 6) ∨ (((k = 11 ∨ k = 12) ∧ c = 115) ∧ rcls k c = 25) ∨ ((¬ k = 2 ∧ ¬ k = 3 ∧ ¬ k = 5 ∧ ¬ ((k = 11 ∨ k = 12) ∧ c = 115)) ∧ rcls k c = 0) := by
  unfold rcls; repeat' split
  all_goals omega
/-- what before(from) says of the last item -/
def kB (k c la : Int) : Prop := (k = 2 ∧ la = 2) ∨ (k = 3 ∧ la = 3) ∨ (k = 5 ∧ la = 6) ∨ (((k = 11 ∨ k = 12) ∧ c = 115) ∧ la = 25) ∨ ((¬ k = 2 ∧ ¬ k = 3 ∧ ¬ k = 5 ∧ ¬ ((k = 11 ∨ k = 12) ∧ c = 115)) ∧ la = 0)
theorem kB_b {g h : Nat → Int32} {a : Int} {x r : Int32} (h0 : 0 ≤ x.toInt) (h1 : x.toInt ≤ 100) (hr : (x.toInt ≤ a ∧ r.toInt = -1) ∨ (a < x.toInt ∧ r = g (160 + x - 1).toNatClampNeg)) : kB r.toInt (h (160 + x - 1).toNatClampNeg).toInt (kLr g h a x.toInt) := by
  rcases hr with ⟨hn, hr⟩ | ⟨hn, hr⟩
  · rw [kLr_0 hn]; unfold kB; omega
  · have e : (160 + x - 1).toNatClampNeg = (160 + x.toInt - 1).toNat := by
      rw [zcl, zsub1 (by rw [k160 h0 h1]; simp only [Int32.reduceToInt]; omega) (by rw [k160 h0 h1]; simp only [Int32.reduceToInt]; omega), k160 h0 h1]; simp only [Int32.reduceToInt]
    rw [kLr_C hn rfl]; unfold rC
    rw [hr, e]
    exact rcls_i _ _
theorem kB_2 {k c la : Int} (h : kB k c la) : kI2 k la := by unfold kB at h; unfold kI2; omega
theorem kB_23 {k c la : Int} (h : kB k c la) : kI23 k la := by unfold kB at h; unfold kI23; omega
theorem kB_c {k c la : Int} (h : kB k c la) : (k = 2 ∧ la = 2) ∨ (k = 5 ∧ la = 6) ∨ (¬ k = 2 ∧ ¬ k = 5 ∧ ¬ la = 2 ∧ ¬ la = 6) := by unfold kB at h; omega
theorem kB_25 {k c la : Int} (h : kB k c la) : (((k = 11 ∨ k = 12) ∧ c = 115) ∧ la = 25) ∨ (¬ ((k = 11 ∨ k = 12) ∧ c = 115) ∧ ¬ la = 25) := by unfold kB at h; omega
