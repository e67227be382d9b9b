/-! a section of both sides, from its list -/
theorem gv_xC : ∀ (L : List (Int × Int)) (a : Int), gvF a (exC L) = gvF a L
  | [], _ => rfl
  | p :: r, a => by
    show gvF a (if p.1 = 15 then (0, 0) :: (1, p.2) :: exC r else p :: exC r) = gvF (if p.1 = 12 then 10 * a + p.2 - 48 else a) r
    by_cases c : p.1 = 15
    · rw [if_pos c, if_neg (by omega)]
      exact gv_xC r a
    · rw [if_neg c]
      exact gv_xC r _
theorem pm_xC : ∀ (L : List (Int × Int)) (a : Int), pmA a (exC L) = pmA a L
  | [], _ => rfl
  | p :: r, a => by
    show pmA a (if p.1 = 15 then (0, 0) :: (1, p.2) :: exC r else p :: exC r) = pmA (if p.1 = 29 ∧ a < p.2 then p.2 else a) r
    by_cases c : p.1 = 15
    · rw [if_pos c, if_neg (fun q => by omega)]
      exact pm_xC r a
    · rw [if_neg c]
      exact pm_xC r _
theorem exR_c {Y : List (Int × Int)} {p : Int × Int} : ∀ L : List (Int × Int), exR L = p :: Y → ∃ (t : Int × Int) (M : List (Int × Int)), L = t :: M ∧ (¬ p.1 = 1 → t = p) ∧ exR M = Y
  | [], h => by cases h
  | t :: M, h => by
    have h : (if t.1 = 15 then (1, t.2) else t) :: exR M = p :: Y := h
    injection h with h1 h2
    refine ⟨t, M, rfl, fun z => ?_, h2⟩
    by_cases c : t.1 = 15
    · rw [if_pos c] at h1
      exact absurd (by rw [← h1]) z
    · rw [if_neg c] at h1; exact h1
theorem exR_sp {Y : List (Int × Int)} : ∀ (X L : List (Int × Int)), exR L = X ++ Y → ∃ L1 L2 : List (Int × Int), L = L1 ++ L2 ∧ exR L1 = X ∧ exR L2 = Y
  | [], L, h => ⟨[], L, rfl, rfl, h⟩
  | p :: X, L, h => by
    match L, h with
    | [], h => cases h
    | t :: M, h =>
      have h : (if t.1 = 15 then (1, t.2) else t) :: exR M = p :: (X ++ Y) := h
      injection h with h1 h2
      obtain ⟨L1, L2, e1, e2, e3⟩ := exR_sp X M h2
      exact ⟨t :: L1, L2, by rw [e1]; rfl, by show (if t.1 = 15 then (1, t.2) else t) :: exR L1 = p :: X; rw [h1, e2], e3⟩
theorem exR_pk {kd : Int} {q : Int32} (h1 : ¬ kd = 1) : ∀ (n : Nat) (L : List (Int × Int)), exR L = pkc kd q n → L = pkc kd q n
  | 0, L, h => by
    match L, h with
    | [], _ => rfl
    | _ :: _, h => cases h
  | n + 1, L, h => by
    obtain ⟨t, M, e1, e2, e3⟩ := exR_c L (p := (kd, pch q n)) (Y := pkc kd q n) h
    rw [e1, e2 h1, exR_pk h1 n M e3]; rfl
theorem pk_C {kd : Int} {q : Int32} (h : ¬ kd = 15) : ∀ n : Nat, exC (pkc kd q n) = pkc kd q n
  | 0 => rfl
  | n + 1 => by
    show (if kd = 15 then _ else (kd, pch q n) :: exC (pkc kd q n)) = _
    rw [if_neg h, pk_C h n]; rfl
theorem nzS_0 {dn : Int} {B : List (Int × Int)} : ∀ A : List (Int × Int), cK 10 A = 0 → nzS dn B → nzS dn (A ++ B)
  | [], _, h => h
  | p :: A, h0, h => by
    have h0 : (if p.1 = 10 then 1 else 0) + cK 10 A = 0 := h0
    have g := cK_0 (k := 10) A
    by_cases c : p.1 = 10
    · rw [if_pos c] at h0; omega
    · rw [if_neg c] at h0
      exact ⟨fun q => absurd q c, nzS_0 A (by omega) h⟩
theorem stO_0 {dn : Int} {B : List (Int × Int)} : ∀ A : List (Int × Int), cK 10 A = 0 → stO dn B → stO dn (A ++ B)
  | [], _, h => h
  | p :: A, h0, h => by
    have h0 : (if p.1 = 10 then 1 else 0) + cK 10 A = 0 := h0
    have g := cK_0 (k := 10) A
    by_cases c : p.1 = 10
    · rw [if_pos c] at h0; omega
    · rw [if_neg c] at h0
      exact ⟨fun q => absurd q c, stO_0 A (by omega) h⟩
theorem nzT_pk {kd : Int} {q : Int32} {B : List (Int × Int)} (h : ¬ kd = 0) : ∀ (m n : Nat), m ≤ n → nzT m (pkc kd q n ++ B)
  | 0, n, _ => by
    cases hh : pkc kd q n ++ B <;> exact True.intro
  | m + 1, n + 1, hm => ⟨h, nzT_pk h m n (by omega)⟩
  | m + 1, 0, hm => by omega
theorem pkc_len {kd : Int} {q : Int32} : ∀ n : Nat, (pkc kd q n).length = n
  | 0 => rfl
  | n + 1 => by show (pkc kd q n).length + 1 = _; rw [pkc_len n]
/-- where a stroke stands: its places behind it -/
theorem sec4 {K A B Q : Nat → Int32} {x e pc : Int} {L : List (Int × Int)} (h : secX K A B Q x e 4 L pc) : (0 ≤ cK 11 L ∧ cK 11 L ≤ 3) ∧ nzS (cK 11 L) (exC L) ∧ stO (cK 11 L) (exC L) ∧ 0 ≤ gvF 0 L ∧ gvF 0 L ≤ 999 := by
  obtain ⟨h1, h2, _⟩ := h
  rcases h2 with w | ⟨w, _⟩ | ⟨w, _⟩ | ⟨_, R1, R2, d, b, q, er, g1, g2, g3⟩
  · omega
  · omega
  · omega
  rw [er, fR_a] at h1
  have z10 := cK_4z (k := 10) (by decide) _ g1
  have z11 := cK_4z (k := 11) (by decide) _ g1
  have z12 := cK_4z (k := 12) (by decide) _ g1
  have y10 := cK_1z (k := 10) (by decide) _ g3
  have y11 := cK_1z (k := 11) (by decide) _ g3
  have y12 := cK_1z (k := 12) (by decide) _ g3
  generalize fR R1 = X1 at h1 z10 z11 z12
  have h1 : X1 ++ ((10, 47) :: (pkc (if d = 1 then 12 else 11) q b.toNat ++ fR R2)) = exR L := h1
  generalize fR R2 = X2 at h1 y10 y11 y12
  obtain ⟨L1, L2, e1, e2, e3⟩ := exR_sp X1 L h1.symm
  obtain ⟨t, L3, e4, e5, e6⟩ := exR_c L2 e3
  have e5 := e5 (show ¬ (10 : Int) = 1 by decide)
  obtain ⟨L4, L5, e7, e8, e9⟩ := exR_sp _ L3 e6
  have nk : ¬ (if d = 1 then (12 : Int) else 11) = 1 := by split <;> decide
  have nk0 : ¬ (if d = 1 then (12 : Int) else 11) = 0 := by split <;> decide
  have nk15 : ¬ (if d = 1 then (12 : Int) else 11) = 15 := by split <;> decide
  have nk10 : ¬ (if d = 1 then (12 : Int) else 11) = 10 := by split <;> decide
  have e8 := exR_pk nk _ _ e8
  have c1 : ∀ k : Int, ¬ k = 1 → ¬ k = 15 → cK k L1 = cK k X1 := fun k p r => by rw [← e2, cK_xR p r]
  have c5 : ∀ k : Int, ¬ k = 1 → ¬ k = 15 → cK k L5 = cK k X2 := fun k p r => by rw [← e9, cK_xR p r]
  subst e5
  rw [e1, e4, e7, e8]
  have d10 : cK 10 L1 = 0 := by rw [c1 10 (by decide) (by decide)]; exact z10
  have d11 : cK 11 L1 = 0 := by rw [c1 11 (by decide) (by decide)]; exact z11
  have d12 : cK 12 L1 = 0 := by rw [c1 12 (by decide) (by decide)]; exact z12
  have f10 : cK 10 L5 = 0 := by rw [c5 10 (by decide) (by decide)]; exact y10
  have f11 : cK 11 L5 = 0 := by rw [c5 11 (by decide) (by decide)]; exact y11
  have f12 : cK 12 L5 = 0 := by rw [c5 12 (by decide) (by decide)]; exact y12
  have k11 : cK 11 (L1 ++ (10, 47) :: (pkc (if d = 1 then 12 else 11) q b.toNat ++ L5)) = cK 11 (pkc (if d = 1 then 12 else 11) q b.toNat) := by
    rw [cK_a, d11]
    show 0 + (0 + cK 11 (pkc (if d = 1 then 12 else 11) q b.toNat ++ L5)) = _
    rw [cK_a, f11]; omega
  have kg : gvF 0 (L1 ++ (10, 47) :: (pkc (if d = 1 then 12 else 11) q b.toNat ++ L5)) = gvF 0 (pkc (if d = 1 then 12 else 11) q b.toNat) := by
    rw [gvF_app, gvF_0 L1 0 d12]
    show gvF 0 (pkc (if d = 1 then 12 else 11) q b.toNat ++ L5) = _
    rw [gvF_app, gvF_0 L5 _ f12]
  have kC : exC (L1 ++ (10, 47) :: (pkc (if d = 1 then 12 else 11) q b.toNat ++ L5)) = exC L1 ++ (10, 47) :: (pkc (if d = 1 then 12 else 11) q b.toNat ++ exC L5) := by
    rw [exC_a]
    show exC L1 ++ (10, 47) :: exC (pkc (if d = 1 then 12 else 11) q b.toNat ++ L5) = _
    rw [exC_a, pk_C nk15]
  rw [k11, kg, kC]
  have hb : 0 ≤ cK 11 (pkc (if d = 1 then 12 else 11) q b.toNat) ∧ cK 11 (pkc (if d = 1 then 12 else 11) q b.toNat) ≤ b.toNat ∧ cK 11 (pkc (if d = 1 then 12 else 11) q b.toNat) ≤ 3 := by
    rcases g2 with ⟨d1, _⟩ | ⟨d0, b1, b3⟩
    · rw [if_pos d1, pkc_0 (by decide)]; omega
    · rw [if_neg (by omega), pkc_1]; omega
  have q1 : cK 10 (exC L1) = 0 := by rw [cK_exC (by decide) (by decide) (by decide)]; exact d10
  have q5 : cK 10 (exC L5) = 0 := by rw [cK_exC (by decide) (by decide) (by decide)]; exact f10
  have qp : cK 10 (pkc (if d = 1 then 12 else 11) q b.toNat) = 0 := pkc_0 nk10 _
  have nz5 : ∀ dn : Int, nzS dn (exC L5) := fun dn => by have := nzS_0 (dn := dn) (B := []) (exC L5) q5 True.intro; rw [List.append_nil] at this; exact this
  have st5 : ∀ dn : Int, stO dn (exC L5) := fun dn => by have := stO_0 (dn := dn) (B := []) (exC L5) q5 True.intro; rw [List.append_nil] at this; exact this
  refine ⟨⟨hb.1, hb.2.2⟩, nzS_0 _ q1 ⟨fun _ => nzT_pk nk0 _ _ (by omega), nzS_0 _ qp (nz5 _)⟩, stO_0 _ q1 ⟨fun _ => ?_, stO_0 _ qp (st5 _)⟩, ?_⟩
  · rw [List.length_append, pkc_len]; omega
  · rcases g2 with ⟨d1, g21, g22, _⟩ | ⟨d0, _⟩
    · rw [if_pos d1]; omega
    · rw [if_neg (by omega), gvF_0 _ _ (pkc_0 (by decide) _)]; decide
