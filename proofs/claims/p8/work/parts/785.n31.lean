/-! the nearest fraction lies in 0 .. 1 -/
theorem frN_b {r d : Int} (h0 : 0 ≤ r) (h1 : r ≤ 1000000000000000) (hd : 0 ≤ d) : 0 ≤ frN r d ∧ frN r d ≤ d := by
  have a : 0 ≤ r * d := Int.mul_nonneg h0 hd
  have b : r * d ≤ 1000000000000000 * d := Int.mul_le_mul_of_nonneg_right h1 hd
  unfold frN
  split <;> omega
def frI (s : Int × Int × Int) : Prop := (s.2.1 = 0 ∧ s.1 = 0) ∨ (1 ≤ s.2.1 ∧ s.2.1 ≤ 999 ∧ 0 ≤ s.1 ∧ s.1 ≤ s.2.1)
theorem frI_f {r d : Int} {s : Int × Int × Int} (h0 : 0 ≤ r) (h1 : r ≤ 1000000000000000) (hd : 1 ≤ d) (hd2 : d ≤ 999) (h : frI s) : frI (frf r d s) ∧ ¬ (frf r d s).2.1 = 0 := by
  have b := frN_b h0 h1 (show 0 ≤ d by omega)
  unfold frf
  split
  · exact ⟨Or.inr ⟨hd, hd2, b.1, b.2⟩, by show ¬ d = 0; omega⟩
  · rename_i c
    exact ⟨h, fun q => c (Or.inl q)⟩
theorem frI_R {r : Int} (h0 : 0 ≤ r) (h1 : r ≤ 1000000000000000) : ∀ k : Nat, k ≤ 999 → frI (frR r k)
  | 0, _ => Or.inl ⟨rfl, rfl⟩
  | k + 1, h => (frI_f h0 h1 (by omega) (by omega) (frI_R h0 h1 k (by omega))).1
theorem fFx_b {s : Int × Int × Int} (h : frI s) : 1 ≤ (fFx s).2.1 ∧ (fFx s).2.1 ≤ 999 ∧ 0 ≤ (fFx s).1 ∧ (fFx s).1 ≤ (fFx s).2.1 := by
  unfold fFx
  rcases h with ⟨a, b⟩ | h
  · rw [if_pos a]; show (1 : Int) ≤ 1 ∧ (1 : Int) ≤ 999 ∧ 0 ≤ s.1 ∧ s.1 ≤ 1; omega
  · rw [if_neg (by omega)]; exact h
theorem p3 {pl : Int} (h : pl ≤ 3) : (10 ^ pl.toNat - 1 : Int).toNat ≤ 999 := by
  have := p10_le (show pl.toNat ≤ 3 by omega)
  have e : (10 : Int) ^ 3 = 1000 := by decide
  omega
theorem frE_b {r gv pl : Int} (h0 : 0 ≤ r) (h1 : r ≤ 1000000000000000) (hg : gv ≤ 999) (hp : pl ≤ 3) : 1 ≤ (frE r gv pl).2.1 ∧ (frE r gv pl).2.1 ≤ 999 ∧ 0 ≤ (frE r gv pl).1 ∧ (frE r gv pl).1 ≤ (frE r gv pl).2.1 := by
  unfold frE
  split
  · have q := frI_f (r := r) (d := gv) h0 h1 (by omega) hg (Or.inl ⟨rfl, rfl⟩ : frI (0, 0, 0))
    rcases q.1 with ⟨a, _⟩ | a
    · exact absurd a q.2
    · exact a
  · exact fFx_b (frI_R h0 h1 _ (p3 hp))
theorem frN_0 {d : Int} : frN 0 d = 0 ∧ frD 0 d = 0 := by unfold frN frD; rw [Int.zero_mul]; exact ⟨rfl, rfl⟩
theorem frR_0 : ∀ k : Nat, (frR 0 k).1 = 0 ∧ (frR 0 k).2.2 = 0
  | 0 => ⟨rfl, rfl⟩
  | k + 1 => by
    have ih := frR_0 k
    show (frf 0 ((k : Int) + 1) (frR 0 k)).1 = 0 ∧ (frf 0 ((k : Int) + 1) (frR 0 k)).2.2 = 0
    unfold frf
    split
    · exact frN_0
    · exact ih
theorem frE_0 {gv pl : Int} : (frE 0 gv pl).1 = 0 := by
  unfold frE
  split
  · unfold frf; split
    · exact frN_0.1
    · rfl
  · unfold fFx; split
    · exact (frR_0 _).1
    · exact (frR_0 _).1
/-- a rest that makes a whole comes from a scale below 0 -/
theorem frE_s {v s gv pl : Int} (h0 : 0 ≤ v) (h1 : v < 100000000000000000) (hg : gv ≤ 999) (hp : pl ≤ 3) (h : (frE (spR v s) gv pl).1 = (frE (spR v s) gv pl).2.1) : s < 0 ∧ 0 ≤ spW v s ∧ spW v s < 100000000000000000 := by
  have b := spR_bd (v := v) (s := s) h0 h1
  have q := frE_b (gv := gv) (pl := pl) b.1 b.2 hg hp
  rcases Int.lt_or_le s 0 with k | k
  · refine ⟨k, ?_⟩
    unfold spW
    rw [if_pos k]
    exact ⟨Int.ediv_nonneg h0 (Int.le_of_lt (p10 _)), Int.lt_of_le_of_lt (Int.ediv_le_self _ h0) h1⟩
  · have e : spR v s = 0 := by unfold spR; rw [if_neg (by omega)]
    rw [e] at h q
    rw [frE_0] at h
    omega
theorem small_v {I : Nat → Int32} {J : Nat → Int64} {r : Int64} {M d : Int} (h : dgM I J M d) (hM : M < 1000000000000000000) (hr : ((0 ≤ (I 1).toInt ∧ (I 1).toInt ≤ 18) ∧ r.toInt = 10 ^ (I 1).toInt.toNat) ∨ (¬ (0 ≤ (I 1).toInt ∧ (I 1).toInt ≤ 18) ∧ r.toInt = 1)) : (J 0 * r).toInt = M := by
  obtain ⟨⟨a, b, c, e, _⟩, m, _⟩ := h
  by_cases z : (J 0).toInt = 0
  · have e0 : M = 0 := by rw [← m, z, Int.zero_mul]
    rw [zl_mul1 (by rw [z, Int.zero_mul]; decide) (by rw [z, Int.zero_mul]; decide), z, Int.zero_mul, e0]
  · have p := p10 (I 1).toInt.toNat
    have l : 1 * 10 ^ (I 1).toInt.toNat ≤ (J 0).toInt * 10 ^ (I 1).toInt.toNat := Int.mul_le_mul_of_nonneg_right (by omega) (by omega)
    have z18 : (I 1).toInt ≤ 18 := by
      rcases Int.lt_or_le 18 (I 1).toInt with k | k
      · have k1 := p10_le (show 18 ≤ (I 1).toInt.toNat by omega)
        have k2 : (10 : Int) ^ 18 = 1000000000000000000 := by decide
        omega
      · exact k
    have hr := (hr.resolve_right (fun q => q.1 ⟨c, z18⟩)).2
    have n : 0 ≤ (J 0).toInt * 10 ^ (I 1).toInt.toNat := Int.mul_nonneg a (by omega)
    rw [zl_mul1 (by rw [hr]; omega) (by rw [hr]; omega), hr, m]
