/-! a date's items of the reference -/
def dtK (K A B : Nat → Int32) (x e : Int) : Prop := ∀ j : Nat, x ≤ (j : Int) → (j : Int) < e → (¬ (K j).toInt = 7 ∧ ¬ (K j).toInt = 8 ∧ ¬ (K j).toInt = 10) ∧ ((K j).toInt = 11 → okR (A j).toInt (B j).toInt) ∧ ((K j).toInt = 12 → 1 ≤ (B j).toInt ∧ (B j).toInt ≤ 2) ∧ ((K j).toInt = 15 → 1 ≤ (A j).toInt ∧ (A j).toInt ≤ 3)
def hdR (K : Nat → Int32) (x e : Int) : Int := if 0 < zrem K 13 x e + zrem K 14 x e then 1 else 0
def rdP (ng sx pl v s P hd : Int) (L : List (Int × Int)) (T : List Int) : Prop := (((¬ ng = 0 ∧ ¬ sx = 1) ∨ 7 < pl) ∧ T = [35]) ∨ (((ng = 0 ∨ sx = 1) ∧ pl ≤ 7) ∧ T = ddL v s P hd L)
def dR (f : Nat → Int32) (n : Int) (g : Nat → Int32) (m : Int) (E : Int → Int → List Int) (l : List (Int × Int)) (T : List Int) : Prop := gR f n g m (drun E l) T
theorem pmA_a : ∀ (l : List (Int × Int)) (a : Int), a ≤ pmA a l
  | [], a => Int.le_refl a
  | p :: r, a => by
    show a ≤ pmA (if p.1 = 29 ∧ a < p.2 then p.2 else a) r
    by_cases h : p.1 = 29 ∧ a < p.2
    · rw [if_pos h]; have := pmA_a r p.2; omega
    · rw [if_neg h]; exact pmA_a r a
theorem pmA_app : ∀ (l r : List (Int × Int)) (a : Int), pmA a (l ++ r) = pmA (pmA a l) r
  | [], _, _ => rfl
  | p :: l, r, a => pmA_app l r (if p.1 = 29 ∧ a < p.2 then p.2 else a)
theorem pm_le {K A B Q : Nat → Int32} {e : Int} : ∀ (n : Nat) (x a : Int), 0 ≤ x → (e - x).toNat = n → ∀ j : Nat, x ≤ (j : Int) → (j : Int) < e → (K j).toInt = 15 → (A j).toInt ≤ pmA a (rs K A B Q x e)
  | 0, x, a, _, hn, j, h1, h2, _ => by omega
  | n + 1, x, a, h0, hn, j, h1, h2, hk => by
    rw [rs_s h0 (by omega) rfl]
    by_cases c : (j : Int) = x
    · have e1 : x.toNat = j := by omega
      rw [e1, hk]
      show (A j).toInt ≤ pmA (if (29 : Int) = 29 ∧ a < (A j).toInt then (A j).toInt else a) (rs K A B Q (x + 1) e)
      have q := pmA_a (rs K A B Q (x + 1) e) (if (29 : Int) = 29 ∧ a < (A j).toInt then (A j).toInt else a)
      by_cases w : a < (A j).toInt
      · rw [if_pos ⟨rfl, w⟩] at q ⊢; exact q
      · rw [if_neg (fun k => w k.2)] at q ⊢; omega
    · rw [pmA_app]; exact pm_le n (x + 1) _ (by omega) (by omega) j (by omega) h2 hk
theorem drun_1 {E : Int → Int → List Int} {k c : Int} : drun E [(k, c)] = E k c := List.append_nil _
section
variable {y m d N s t hd k a b : Int} {q : Int32}
theorem dvE_t0 {c : Int} : dvE y m d N s 0 hd (rkR a) c = dvE y m d N s t hd (rkR a) c := by
  have h := rkR_29 (a := a)
  unfold dvE dvT
  simp only [if_neg h]
theorem dx_1 (hk : k = 1) : [a] = drun (dvE y m d N s t hd) (rx k a b q) := by
  subst hk
  show [a] = drun _ [(1, a)]
  rw [drun_1]; exact dvE_1 rfl
theorem dx_11 {X : List Int} (hk : k = 11) (hX : X = dvE y m d N s 0 hd (rkR a) b) : X = drun (dvE y m d N s t hd) (rx k a b q) := by
  subst hk
  show X = drun _ [(rkR a, b)]
  rw [drun_1, hX]; exact dvE_t0
theorem dx_12a (hk : k = 12) (ha : a = 104) : fig (N * 24 + s / 3600) b = drun (dvE y m d N s t hd) (rx k a b q) := by
  subst hk; subst ha
  show _ = drun _ [(26, b)]
  rw [drun_1]; exact (dvT_26 rfl).trans (dvE_t (by decide))
theorem dx_12b (hk : k = 12) (ha : a = 109) : fig (N * 1440 + s / 60) b = drun (dvE y m d N s t hd) (rx k a b q) := by
  subst hk; subst ha
  show _ = drun _ [(27, b)]
  rw [drun_1]; exact (dvT_27 rfl).trans (dvE_t (by decide))
theorem dx_12c (hk : k = 12) (ha : ¬ a = 104) (hb : ¬ a = 109) : fig (N * 86400 + s) b = drun (dvE y m d N s t hd) (rx k a b q) := by
  subst hk
  have e : rkA a = 28 := by unfold rkA; rw [if_neg ha, if_neg hb]
  show _ = drun _ [(rkA a, b)]
  rw [drun_1, e]; exact (dvT_28 rfl).trans (dvE_t (by decide))
theorem dx_13 {v w : Int} (hk : k = 13) (h : (s < 43200 ∧ v = 65) ∨ (43200 ≤ s ∧ v = 80)) (hw : w = 77) : [v] ++ [w] = drun (dvE y m d N s t hd) (rx k a b q) := by
  subst hk; subst hw
  show _ = drun _ [(30, 2)]
  rw [drun_1]
  exact (dvt_31 (k := 30) (hN_i (by decide)) (hN_i (by decide)) (hN_i (by decide)) (hN_i (by decide)) (hN_i (by decide)) (hN_i (by decide)) (hN_i (by decide)) (hh := s / 3600) rfl (by omega) rfl).trans (dvE_t (by decide))
theorem dx_14 {v : Int} (hk : k = 14) (h : (s < 43200 ∧ v = 65) ∨ (43200 ≤ s ∧ v = 80)) : [v] = drun (dvE y m d N s t hd) (rx k a b q) := by
  subst hk
  show _ = drun _ [(30, 1)]
  rw [drun_1]
  exact (dvt_30 (k := 30) (hN_i (by decide)) (hN_i (by decide)) (hN_i (by decide)) (hN_i (by decide)) (hN_i (by decide)) (hN_i (by decide)) (hN_i (by decide)) (hh := s / 3600) rfl (by omega) (by decide)).trans (dvE_t (by decide))
theorem dx_15 {tk P v w : Int} (hk : k = 15) (ht : t = tk % 10 ^ P.toNat * 10 ^ (3 - P).toNat) (ha : 0 ≤ a) (haP : a ≤ P) (hP : P ≤ 3) (hw : w = 46) (hv : v = tk % 10 ^ P.toNat / 10 ^ (P - a).toNat) : [w] ++ fig v a = drun (dvE y m d N s t hd) (rx k a b q) := by
  subst hk; subst hw
  show _ = drun _ [(29, a)]
  rw [drun_1]
  refine (dvT_29 rfl ?_).trans (dvE_t (by decide))
  rw [hv, ht, thou_e ha haP hP]
theorem dx_n (h1 : ¬ k = 1) (h7 : ¬ k = 7) (h8 : ¬ k = 8) (h10 : ¬ k = 10) (h11 : ¬ k = 11) (h12 : ¬ k = 12) (h13 : ¬ k = 13) (h14 : ¬ k = 14) (h15 : ¬ k = 15) : [] = drun (dvE y m d N s t hd) (rx k a b q) := by
  unfold rx
  rw [if_neg h1]
  by_cases c2 : k = 2
  · rw [if_pos c2, drun_1]; exact dvE_n (by decide) (by decide)
  rw [if_neg c2]
  by_cases c3 : k = 3
  · rw [if_pos c3, drun_1]; exact dvE_n (by decide) (by decide)
  rw [if_neg c3]
  by_cases c4 : k = 4
  · rw [if_pos c4, drun_1]; exact dvE_n (by decide) (by decide)
  rw [if_neg c4]
  by_cases c5 : k = 5
  · rw [if_pos c5, drun_1]; exact dvE_n (by decide) (by decide)
  rw [if_neg c5]
  by_cases c6 : k = 6
  · rw [if_pos c6, drun_1]; exact dvE_n (by decide) (by decide)
  rw [if_neg c6, if_neg h7, if_neg h8]
  by_cases c9 : k = 9
  · rw [if_pos c9, drun_1]; exact dvE_n (by decide) (by decide)
  rw [if_neg c9, if_neg h10, if_neg h11, if_neg h12, if_neg h13, if_neg h14, if_neg h15]
  by_cases c16 : k = 16
  · rw [if_pos c16, drun_1]; exact dvE_n (by decide) (by decide)
  rw [if_neg c16]; rfl
end
theorem dr_s {f g h : Nat → Int32} {n m m2 y e : Int} {E : Int → Int → List Int} {K A B Q : Nat → Int32} {x : Int32} {T X : List Int} (H : dR f n g m E (rs K A B Q x.toInt e) T) (h0 : 0 ≤ x.toInt) (hx : ¬ e ≤ x.toInt) (hA : pR g m h m2 X) (e1 : X = drun E (rx (K x.toNatClampNeg).toInt (A x.toNatClampNeg).toInt (B x.toNatClampNeg).toInt (Q x.toNatClampNeg))) (hy : y = x.toInt + 1) : dR f n h m2 E (rs K A B Q y e) T := by
  unfold dR at H ⊢
  rw [rs_s h0 (by omega) hy, drun_a] at H
  exact gR_s H hA (by rw [e1]; rfl)
theorem dr_x {f g : Nat → Int32} {n m x e : Int} {E : Int → Int → List Int} {K A B Q : Nat → Int32} {T : List Int} (H : dR f n g m E (rs K A B Q x e) T) (hx : e ≤ x) : pR f n g m T := by
  unfold dR at H
  rw [rs_x hx] at H
  exact gR_x H rfl
def dtF (K : Nat → Int32) (N P : Int) : Prop := (K 35).toInt = N ∧ (K 37).toInt = P ∧ (K 38).toInt = cdY N ∧ (K 39).toInt = cdM N ∧ (K 40).toInt = cdD N
theorem dtF_z {K : Nat → Int32} {N P : Int} {a : Int32} (h : dtF K N P) : dtF (zu K 33 a) N P := h
theorem cd_bb {n : Int} (h0 : 0 ≤ n) (h1 : n ≤ 2958466) : (1000 ≤ cdY n ∧ cdY n ≤ 100000) ∧ (1 ≤ cdM n ∧ cdM n ≤ 12) ∧ 0 ≤ cdD n := by
  unfold cdY cdM cdD
  by_cases k : n < 61
  · rw [if_pos k, if_pos k, if_pos k]
    by_cases c : n ≤ 31
    · rw [if_pos c, if_pos c]; omega
    · rw [if_neg c, if_neg c]; omega
  · rw [if_neg k, if_neg k, if_neg k]
    have q := cc_b (s := n - 61 + 109572) (by omega)
    have m := ccM_b q.2.2.1 q.2.2.2
    have d := ccD_b q.2.2.1 q.2.2.2
    have y : 1600 ≤ ccY (n - 61 + 109572) ∧ ccY (n - 61 + 109572) ≤ 100000 := by unfold ccY; split <;> omega
    omega
theorem fdO_1 {r dy tk pt ng sx pl M R P : Int} (h : fdO r dy tk pt ng sx pl M R P) (hr : ¬ r = 0) : ((ng = 0 ∨ sx = 1) ∧ pl ≤ 7) ∧ dy = M + dtC R P ∧ tk = dtI R P ∧ pt = P ∧ dy < 2958466 := by
  rcases h with h | ⟨h1, h2, h3, h4, h5⟩
  · exact absurd h.2 hr
  · rcases h5 with h5 | h5
    · exact ⟨h1, h2, h3, h4, h5.1⟩
    · exact absurd h5.2 hr
section
variable {f g : Nat → Int32} {n k r dy tk pt ng sx pl v s P hd ss tt N : Int} {L : List (Int × Int)}
theorem rdq_0 (h : fdO r dy tk pt ng sx pl (spW v s) (spR v s) P) (hr : r = 0) (hA : pR f n g k [35]) : ∃ T, rdP ng sx pl v s P hd L T ∧ pR f n g k T := by
  refine ⟨[35], ?_, hA⟩
  rcases h with h | ⟨h1, h2, h3, h4, h5⟩
  · exact Or.inl ⟨h.1, rfl⟩
  · refine Or.inr ⟨h1, ?_⟩
    have e : dy = ddN v s P := h2
    unfold ddL
    rw [if_pos (by omega)]
theorem rdq_1 (hC : (ng = 0 ∨ sx = 1) ∧ pl ≤ 7) (hN : N = ddN v s P) (hlt : N < 2958466) (hs : ss = dtI (spR v s) P / 10 ^ P.toNat) (ht : tt = dtI (spR v s) P % 10 ^ P.toNat * 10 ^ (3 - P).toNat) (hA : pR f n g k (drun (dvE (cdY N) (cdM N) (cdD N) N ss tt hd) L)) : ∃ T, rdP ng sx pl v s P hd L T ∧ pR f n g k T := by
  refine ⟨_, Or.inr ⟨hC, rfl⟩, pR_e hA ?_ rfl⟩
  unfold ddL
  rw [if_neg (by omega), hN, hs, ht]
end
theorem dt_m {J : Int64} {r q : Int32} {tk P a : Int} (hJ : J.toInt = tk) (hr : r.toInt = 10 ^ P.toNat) (hq : q.toInt = 10 ^ (P - a).toNat) (h0 : 0 ≤ tk) (hP : P ≤ 3) : ((J - J / r.toInt64 * r.toInt64) / q.toInt64).toInt = tk % 10 ^ P.toNat / 10 ^ (P - a).toNat ∧ 0 ≤ tk % 10 ^ P.toNat / 10 ^ (P - a).toNat ∧ tk % 10 ^ P.toNat / 10 ^ (P - a).toNat ≤ 1000 := by
  have p := p10 P.toNat
  have p2 := p10 (P - a).toNat
  have l := p10_le (show P.toNat ≤ 3 by omega)
  have e3 : (10 : Int) ^ 3 = 1000 := by decide
  have m := zl_mn hJ (y := r.toInt64) (b := 10 ^ P.toNat) (by rw [zi64]; exact hr) h0 (by omega) (by omega)
  have b0 := Int.emod_nonneg tk (show (10 : Int) ^ P.toNat ≠ 0 by omega)
  have b1 := Int.emod_lt_of_pos tk p
  have d := zl_dn m (y := q.toInt64) (b := 10 ^ (P - a).toNat) (by rw [zi64]; exact hq) b0 (by omega)
  have c := Int.ediv_le_self (10 ^ (P - a).toNat) b0
  exact ⟨d, Int.ediv_nonneg b0 (Int.le_of_lt p2), by omega⟩
