/-! what the raw items say, counted -/
theorem fl_pkc {kd : Int} {q : Int32} (h : ¬ kd = 0) : ∀ n : Nat, fl (pkc kd q n) = pkc kd q n
  | 0 => rfl
  | n + 1 => by
    show fl ((kd, pch q n) :: pkc kd q n) = _
    rw [fl_1 h, fl_pkc h n]; rfl
theorem rx_17 {k : Int} : k = 1 ∨ k = 2 ∨ k = 3 ∨ k = 4 ∨ k = 5 ∨ k = 6 ∨ k = 7 ∨ k = 8 ∨ k = 9 ∨ k = 10 ∨ k = 11 ∨ k = 12 ∨ k = 13 ∨ k = 14 ∨ k = 15 ∨ k = 16 ∨ ¬ (1 ≤ k ∧ k ≤ 16) := by omega
theorem rx_no {k a b : Int} {q : Int32} (h : ¬ (1 ≤ k ∧ k ≤ 16)) : rx k a b q = [] ∧ rxF k a b q = [(0, 0)] := by
  refine ⟨?_, by unfold rxF; rw [if_neg h]⟩
  unfold rx
  rw [if_neg (by omega), if_neg (by omega), if_neg (by omega), if_neg (by omega), if_neg (by omega), if_neg (by omega), if_neg (by omega), if_neg (by omega), if_neg (by omega), if_neg (by omega), if_neg (by omega), if_neg (by omega), if_neg (by omega), if_neg (by omega), if_neg (by omega), if_neg (by omega)]
theorem fl_rx {k a b : Int} {q : Int32} : fl (rxF k a b q) = rx k a b q := by
  rcases rx_17 (k := k) with h | h | h | h | h | h | h | h | h | h | h | h | h | h | h | h | h
  iterate 7 (subst h; rfl)
  · subst h
    show fl ((7, a) :: pkc 8 q b.toNat) = (7, a) :: pkc 8 q b.toNat
    rw [fl_1 (show ¬ (7 : Int) = 0 by decide), fl_pkc (by decide)]
  · subst h; rfl
  · subst h
    show fl ((10, 47) :: pkc (if a = 1 then 12 else 11) q b.toNat) = (10, 47) :: pkc (if a = 1 then 12 else 11) q b.toNat
    rw [fl_1 (show ¬ (10 : Int) = 0 by decide), fl_pkc (by split <;> decide)]
  · subst h
    show fl [(rkR a, b)] = [(rkR a, b)]
    rw [fl_1 (by have := rkR_b (a := a); show ¬ rkR a = 0; omega)]; rfl
  · subst h
    show fl [(rkA a, b)] = [(rkA a, b)]
    rw [fl_1 (by have := rkA_b (a := a); show ¬ rkA a = 0; omega)]; rfl
  iterate 4 (subst h; rfl)
  · rw [(rx_no h).1, (rx_no h).2]; rfl
theorem rx_ck {k a b : Int} {q : Int32} : cK 6 (rxF k a b q) = (if k = 5 then 1 else 0) ∧ cK 30 (rxF k a b q) = (if k = 13 then 1 else 0) + (if k = 14 then 1 else 0) := by
  rcases rx_17 (k := k) with h | h | h | h | h | h | h | h | h | h | h | h | h | h | h | h | h
  iterate 7 (subst h; exact ⟨rfl, rfl⟩)
  · subst h
    show cK 6 ((7, a) :: pkc 8 q b.toNat) = 0 ∧ cK 30 ((7, a) :: pkc 8 q b.toNat) = 0
    refine ⟨?_, ?_⟩
    · show (0 : Int) + cK 6 (pkc 8 q b.toNat) = 0
      rw [pkc_0 (by decide)]; rfl
    · show (0 : Int) + cK 30 (pkc 8 q b.toNat) = 0
      rw [pkc_0 (by decide)]; rfl
  · subst h; exact ⟨rfl, rfl⟩
  · subst h
    show cK 6 ((10, 47) :: pkc (if a = 1 then 12 else 11) q b.toNat) = 0 ∧ cK 30 ((10, 47) :: pkc (if a = 1 then 12 else 11) q b.toNat) = 0
    refine ⟨?_, ?_⟩
    · show (0 : Int) + cK 6 (pkc (if a = 1 then 12 else 11) q b.toNat) = 0
      rw [pkc_0 (by split <;> decide)]; rfl
    · show (0 : Int) + cK 30 (pkc (if a = 1 then 12 else 11) q b.toNat) = 0
      rw [pkc_0 (by split <;> decide)]; rfl
  · subst h
    have e : 20 ≤ rkR a ∧ rkR a ≤ 25 := by unfold rkR; (repeat' split) <;> omega
    show cK 6 [(rkR a, b)] = 0 ∧ cK 30 [(rkR a, b)] = 0
    rw [cK_11, cK_11, if_neg (by omega), if_neg (by omega)]; exact ⟨rfl, rfl⟩
  · subst h
    have e : 26 ≤ rkA a ∧ rkA a ≤ 28 := by unfold rkA; (repeat' split) <;> omega
    show cK 6 [(rkA a, b)] = 0 ∧ cK 30 [(rkA a, b)] = 0
    rw [cK_11, cK_11, if_neg (by omega), if_neg (by omega)]; exact ⟨rfl, rfl⟩
  iterate 4 (subst h; exact ⟨rfl, rfl⟩)
  · rw [(rx_no h).2, if_neg (by omega), if_neg (by omega), if_neg (by omega)]; exact ⟨rfl, rfl⟩
theorem rv_all {K A B Q : Nat → Int32} : ∀ (n i : Nat), fl (fR (rv K A B Q i n)) = rl K A B Q i n ∧ c7 (rv K A B Q i n) = zcnt K 7 i n ∧ cK 6 (fR (rv K A B Q i n)) = zcnt K 5 i n ∧ cK 30 (fR (rv K A B Q i n)) = zcnt K 13 i n + zcnt K 14 i n
  | 0, _ => ⟨rfl, rfl, rfl, rfl⟩
  | n + 1, i => by
    obtain ⟨h1, h2, h3, h4⟩ := rv_all (K := K) (A := A) (B := B) (Q := Q) n (i + 1)
    obtain ⟨r1, r2⟩ := rx_ck (k := (K i).toInt) (a := (A i).toInt) (b := (B i).toInt) (q := Q i)
    refine ⟨?_, ?_, ?_, ?_⟩
    · show fl (rxF (K i).toInt (A i).toInt (B i).toInt (Q i) ++ fR (rv K A B Q (i + 1) n)) = rx (K i).toInt (A i).toInt (B i).toInt (Q i) ++ rl K A B Q (i + 1) n
      rw [fl_a, fl_rx, h1]
    · show (if (K i).toInt = 7 then 1 else 0) + c7 (rv K A B Q (i + 1) n) = (if (K i).toInt = 7 then 1 else 0) + zcnt K 7 (i + 1) n
      rw [h2]
    · show cK 6 (rxF (K i).toInt (A i).toInt (B i).toInt (Q i) ++ fR (rv K A B Q (i + 1) n)) = (if (K i).toInt = 5 then 1 else 0) + zcnt K 5 (i + 1) n
      rw [cK_a, r1, h3]
    · show cK 30 (rxF (K i).toInt (A i).toInt (B i).toInt (Q i) ++ fR (rv K A B Q (i + 1) n)) = (if (K i).toInt = 13 then 1 else 0) + zcnt K 13 (i + 1) n + ((if (K i).toInt = 14 then 1 else 0) + zcnt K 14 (i + 1) n)
      rw [cK_a, r2, h4]; omega
theorem cK_xR {k : Int} (h1 : ¬ k = 1) (h2 : ¬ k = 15) : ∀ L : List (Int × Int), cK k (exR L) = cK k L
  | [] => rfl
  | p :: r => by
    show (if (if p.1 = 15 then (1, p.2) else p).1 = k then 1 else 0) + cK k (exR r) = (if p.1 = k then 1 else 0) + cK k r
    rw [cK_xR h1 h2 r]
    by_cases c : p.1 = 15
    · rw [if_pos c, if_neg (show ¬ (1 : Int) = k by omega), if_neg (by omega)]
    · rw [if_neg c]
/-- counts of a section that is read -/
theorem secX_c {K A B Q : Nat → Int32} {x e k pc : Int} {L : List (Int × Int)} (h : secX K A B Q x e k L pc) : fl (exC L) = rs K A B Q x e ∧ zrem K 7 x e = pc ∧ zrem K 5 x e = cK 6 L ∧ hdR K x e = (if 0 < cK 30 L then 1 else 0) := by
  obtain ⟨h1, _, h3⟩ := h
  obtain ⟨r1, r2, r3, r4⟩ := rv_all (K := K) (A := A) (B := B) (Q := Q) (e - x).toNat x.toNat
  unfold rvs at h1 h3
  rw [h1] at r1 r3 r4
  refine ⟨by rw [ex_fl]; exact r1, ?_, ?_, ?_⟩
  · unfold zrem; rw [← r2]; exact h3
  · unfold zrem; rw [← r3, cK_xR (by decide) (by decide)]
  · unfold hdR zrem; rw [← r4, cK_xR (by decide) (by decide)]
