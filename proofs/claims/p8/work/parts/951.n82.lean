/-! packed marks -/
theorem pq_hi {c : Int32} (hc : 0 ≤ c.toInt ∧ c.toInt ≤ 255) {i : Nat} (hi : 8 ≤ i) : c.toBitVec.getLsbD i = false := by
  have e : c.toInt = c.toBitVec.toInt := rfl
  have e2 := BitVec.toInt_eq_toNat_cond c.toBitVec
  have l : c.toBitVec.toNat < 256 := by
    have := c.toBitVec.isLt
    rw [← e] at e2
    split at e2 <;> omega
  unfold BitVec.getLsbD
  exact Nat.testBit_lt_two_pow (Nat.lt_of_lt_of_le l (show 2 ^ 8 ≤ 2 ^ i from Nat.pow_le_pow_right (by decide) hi))
theorem pq_255 {i : Nat} (h : 8 ≤ i) : (255 : Int32).toBitVec.getLsbD i = false := pq_hi (by decide) h
theorem pq_s {q c : Int32} (hc : 0 ≤ c.toInt ∧ c.toInt ≤ 255) {i : Nat} (hi : i < 8) (s : Nat) (hs : s ≤ 16) : (q <<< (8 : Int32) ||| c).toBitVec.getLsbD (8 + s + i) = q.toBitVec.getLsbD (s + i) := by
  have e8 : (8 : Int32).toBitVec.smod 32 = 8#32 := by decide
  rw [Int32.toBitVec_or, Int32.toBitVec_shiftLeft, e8, BitVec.getLsbD_or, pq_hi hc (show 8 ≤ 8 + s + i by omega), Bool.or_false, BitVec.shiftLeft_eq', BitVec.getLsbD_shiftLeft]
  rw [show (8#32).toNat = 8 by decide, show 8 + s + i - 8 = s + i by omega]
  rw [decide_eq_true (show 8 + s + i < 32 by omega), decide_eq_false (show ¬ 8 + s + i < 8 by omega)]
  rfl
theorem pq_n {q c : Int32} (hc : 0 ≤ c.toInt ∧ c.toInt ≤ 255) {i : Nat} (hi : i < 8) : (q <<< (8 : Int32) ||| c).toBitVec.getLsbD i = c.toBitVec.getLsbD i := by
  have e8 : (8 : Int32).toBitVec.smod 32 = 8#32 := by decide
  rw [Int32.toBitVec_or, Int32.toBitVec_shiftLeft, e8, BitVec.getLsbD_or, BitVec.shiftLeft_eq', BitVec.getLsbD_shiftLeft]
  rw [show (8#32).toNat = 8 by decide, decide_eq_true (show i < 8 from hi)]
  simp
theorem pq_sh {x : Int32} {k : Int32} {s i : Nat} (hk : (k.toBitVec.smod 32).toNat = s) (h : s + i < 32) : (x >>> k).toBitVec.getLsbD i = x.toBitVec.getLsbD (s + i) := by
  rw [Int32.toBitVec_shiftRight, BitVec.sshiftRight_eq', hk, BitVec.getLsbD_sshiftRight]
  rw [decide_eq_false (show ¬ 32 ≤ i by omega), if_pos h]; rfl
theorem pq_eq {x y : Int32} {k l : Int32} {s t : Nat} (hk : (k.toBitVec.smod 32).toNat = s) (hl : (l.toBitVec.smod 32).toNat = t) (hs : s ≤ 24) (ht : t ≤ 24) (h : ∀ i, i < 8 → x.toBitVec.getLsbD (s + i) = y.toBitVec.getLsbD (t + i)) : (x >>> k) &&& 255 = (y >>> l) &&& 255 := by
  apply Int32.toBitVec_inj.1
  apply BitVec.eq_of_getLsbD_eq
  intro i hi
  rw [Int32.toBitVec_and, Int32.toBitVec_and, BitVec.getLsbD_and, BitVec.getLsbD_and]
  rcases Nat.lt_or_ge i 8 with c | c
  · rw [pq_sh hk (by omega), pq_sh hl (by omega), h i c]
  · rw [pq_255 c, Bool.and_false, Bool.and_false]
theorem pq_c {c : Int32} (hc : 0 ≤ c.toInt ∧ c.toInt ≤ 255) : (c >>> (0 : Int32)) &&& 255 = c := by
  apply Int32.toBitVec_inj.1
  apply BitVec.eq_of_getLsbD_eq
  intro i hi
  rw [Int32.toBitVec_and, BitVec.getLsbD_and]
  rcases Nat.lt_or_ge i 8 with d | d
  · rw [pq_sh (s := 0) (by decide) (by omega), Nat.zero_add]
    have : (255 : Int32).toBitVec.getLsbD i = true := by
      match i, d with
      | 0, _ => decide | 1, _ => decide | 2, _ => decide | 3, _ => decide | 4, _ => decide | 5, _ => decide | 6, _ => decide | 7, _ => decide
    rw [this, Bool.and_true]
  · rw [pq_255 d, Bool.and_false, pq_hi hc d]
theorem pch3 {q c : Int32} (hc : 0 ≤ c.toInt ∧ c.toInt ≤ 255) : pch (q <<< ((8 : Int32) &&& 31) ||| c) 0 = c.toInt ∧ pch (q <<< ((8 : Int32) &&& 31) ||| c) 1 = pch q 0 ∧ pch (q <<< ((8 : Int32) &&& 31) ||| c) 2 = pch q 1 := by
  have s0 : ((8 : Int32) * Int32.ofInt 0) &&& 31 = 0 := by decide
  have s1 : ((8 : Int32) * Int32.ofInt 1) &&& 31 = 8 := by decide
  have s2 : ((8 : Int32) * Int32.ofInt 2) &&& 31 = 16 := by decide
  have s8 : ((8 : Int32) &&& 31) = 8 := by decide
  unfold pch
  rw [s0, s1, s2, s8]
  refine ⟨congrArg Int32.toInt ?_, congrArg Int32.toInt ?_, congrArg Int32.toInt ?_⟩
  · refine Eq.trans ?_ (pq_c hc)
    exact pq_eq (s := 0) (t := 0) (by decide) (by decide) (by decide) (by decide) (fun i hi => by rw [Nat.zero_add]; exact pq_n hc hi)
  · exact pq_eq (s := 8) (t := 0) (by decide) (by decide) (by decide) (by decide) (fun i hi => by have := pq_s (q := q) hc hi 0 (by decide); rw [Nat.add_zero] at this; exact this)
  · exact pq_eq (s := 16) (t := 8) (by decide) (by decide) (by decide) (by decide) (fun i hi => by have := pq_s (q := q) hc hi 8 (by decide); exact this)
theorem pkc_s {kd : Int} {q p : Int32} {c : Int} : ∀ n : Nat, pch p 0 = c → (∀ i : Nat, i < n → pch p ((i + 1 : Nat) : Int) = pch q (i : Int)) → pkc kd p (n + 1) = pkc kd q n ++ [(kd, c)]
  | 0, h0, _ => by show [(kd, pch p ((0 : Nat) : Int))] = [(kd, c)]; rw [show ((0 : Nat) : Int) = 0 from rfl, h0]
  | n + 1, h0, h => by
    show (kd, pch p ((n + 1 : Nat) : Int)) :: pkc kd p (n + 1) = (kd, pch q (n : Int)) :: (pkc kd q n ++ [(kd, c)])
    rw [h n (by omega), pkc_s n h0 (fun i hi => h i (by omega))]
theorem pkc_3 {kd : Int} {q c : Int32} (hc : 0 ≤ c.toInt ∧ c.toInt ≤ 255) {n : Nat} (hn : n ≤ 2) : pkc kd (q <<< ((8 : Int32) &&& 31) ||| c) (n + 1) = pkc kd q n ++ [(kd, c.toInt)] := by
  obtain ⟨a, b, d⟩ := pch3 (q := q) hc
  refine pkc_s n a (fun i hi => ?_)
  match i, hi with
  | 0, _ => exact b
  | 1, _ => exact d
  | i + 2, hi => omega
