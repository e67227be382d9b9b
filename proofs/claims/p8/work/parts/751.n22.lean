/-! floorDiv; what takeWithPower leaves -/
theorem xsg {x y : Int32} (hy : 0 ≤ y.toInt) : (x ^^^ y).toInt < 0 ↔ x.toInt < 0 := by
  have e : ((x ^^^ y).toBitVec).msb = (x.toBitVec.msb ^^ y.toBitVec.msb) := by rw [Int32.toBitVec_xor]; exact BitVec.msb_xor
  rw [BitVec.msb_eq_toInt, BitVec.msb_eq_toInt, BitVec.msb_eq_toInt] at e
  have hy2 : ¬ y.toBitVec.toInt < 0 := by show ¬ y.toInt < 0; omega
  rw [decide_eq_false hy2, Bool.xor_false] at e
  exact decide_eq_decide.1 e
theorem ediv_u {t w q : Int} (hw : 1 ≤ w) (h1 : q * w ≤ t) (h2 : t < q * w + w) : t / w = q := by
  have e : t = (t - q * w) + w * q := by rw [Int.mul_comm w q]; omega
  rw [e, Int.add_mul_ediv_left _ _ (by omega), Int.ediv_eq_zero_of_lt (by omega) (by omega)]; omega
theorem zdivn {t w : Int32} (h0 : t.toInt < 0) (hw : 1 ≤ w.toInt) : (t / w).toInt = -((-t.toInt) / w.toInt) := by
  have e : t.toInt.tdiv w.toInt = -((-t.toInt) / w.toInt) := by
    rw [← Int.tdiv_eq_ediv_of_nonneg (by omega), Int.neg_tdiv, Int.neg_neg]
  have b1 : 0 ≤ (-t.toInt) / w.toInt := Int.ediv_nonneg (by omega) (by omega)
  have b2 : (-t.toInt) / w.toInt ≤ -t.toInt := Int.ediv_le_self _ (by omega)
  have lo := zlo t
  rw [Int32.toInt_div, e, zbm32 (by omega) (by omega)]
theorem fd_p {x y : Int32} (h0 : 0 ≤ (x ^^^ y).toInt) (hy : 1 ≤ y.toInt) : (x / y).toInt = x.toInt / y.toInt := by
  have h : ¬ x.toInt < 0 := fun c => by have := (xsg (x := x) (y := y) (by omega)).2 c; omega
  exact zdivp (by omega) hy
theorem fd_m {x y : Int32} (h0 : ¬ 0 ≤ (x ^^^ y).toInt) (hy : 1 ≤ y.toInt) (hx : -100000 ≤ x.toInt) : (x / y).toInt = -((-x.toInt) / y.toInt) ∧ (x / y * y).toInt = -((-x.toInt) / y.toInt * y.toInt) ∧ x.toInt < 0 ∧ -100000 ≤ (x / y).toInt ∧ (x / y).toInt ≤ 0 := by
  have h : x.toInt < 0 := (xsg (x := x) (y := y) (by omega)).1 (by omega)
  have e := zdivn h hy
  have m := zmw (m := -x.toInt) hy
  have b1 : 0 ≤ (-x.toInt) / y.toInt := Int.ediv_nonneg (by omega) (by omega)
  have b2 : (-x.toInt) / y.toInt ≤ -x.toInt := Int.ediv_le_self _ (by omega)
  have e2 : (x / y).toInt * y.toInt = -((-x.toInt) / y.toInt * y.toInt) := by rw [e, Int.neg_mul]
  have b3 : 0 ≤ (-x.toInt) / y.toInt * y.toInt := Int.mul_nonneg b1 (by omega)
  exact ⟨e, by rw [zmul1 (by rw [e2]; omega) (by rw [e2]; omega), e2], h, by omega, by omega⟩
theorem fd_1 {x y : Int32} (h0 : ¬ 0 ≤ (x ^^^ y).toInt) (hy : 1 ≤ y.toInt) (hx : -100000 ≤ x.toInt) (h : (x / y * y).toInt = x.toInt) : (x / y).toInt = x.toInt / y.toInt := by
  obtain ⟨e, e2, e3, _⟩ := fd_m h0 hy hx
  symm
  refine ediv_u hy ?_ ?_ <;> rw [e, Int.neg_mul] <;> omega
theorem fd_2 {x y : Int32} (h0 : ¬ 0 ≤ (x ^^^ y).toInt) (hy : 1 ≤ y.toInt) (hx : -100000 ≤ x.toInt) (h : ¬ (x / y * y).toInt = x.toInt) : (x / y - 1).toInt = x.toInt / y.toInt := by
  obtain ⟨e, e2, e3, e4, e5⟩ := fd_m h0 hy hx
  have m := zmw (m := -x.toInt) hy
  rw [zsub1 (by simp only [Int32.reduceToInt]; omega) (by simp only [Int32.reduceToInt]; omega)]
  simp only [Int32.reduceToInt]
  symm
  refine ediv_u hy ?_ ?_ <;> rw [e, Int.sub_mul, Int.neg_mul, Int.one_mul] <;> omega
def twP (v s W d : Int) (I3 : Nat → Int32) (J3 : Nat → Int64) (I4 : Nat → Int32) (J4 : Nat → Int64) (p : Int) : Prop :=
  ∃ nd n0, dgs v nd ∧ dnc (rdM v (s - pE v (nd + s) (pW W)) d) n0 ∧ dgM I3 J3 (rdM v (s - pF v (nd + s) (pW W) n0 d) d) d ∧ dgM I4 J4 (iab (pF v (nd + s) (pW W) n0 d)) 0 ∧ p = pF v (nd + s) (pW W) n0 d
theorem zab {x : Int32} (h : -100000 ≤ x.toInt ∧ x.toInt ≤ 100000) : (zabs x).toInt64.toInt = iab x.toInt ∧ 0 ≤ iab x.toInt ∧ iab x.toInt ≤ 100000 := by
  have e : (zabs x).toInt = iab x.toInt := by
    unfold zabs iab
    simp only [zle_lt, zle_le, Int32.reduceToInt]
    split <;> split <;> first | omega | (rw [zsub1 (by simp only [Int32.reduceToInt]; omega) (by simp only [Int32.reduceToInt]; omega)]; simp only [Int32.reduceToInt]; omega) | rfl
  refine ⟨by rw [zi64, e], ?_, ?_⟩ <;> (unfold iab; split <;> omega)
theorem dgM_1 {I : Nat → Int32} {J : Nat → Int64} {M d : Int} (h : dgM I J (M * 10 ^ ((0 : Int32).toInt).toNat) d) : dgM I J M d := by
  have e : M * 10 ^ ((0 : Int32).toInt).toNat = M := by show M * 1 = M; exact Int.mul_one M
  rw [e] at h; exact h
theorem pF_W {I : Nat → Int32} {J : Nat → Int64} {M d w r : Int} (h : dgM I J M d) (hr : dgW I = r) (hw : 1 ≤ w) : (w < (I 2).toInt - d ↔ w < r) := by
  have e : (I 3).toInt = d := h.1.2.2.2.2
  unfold dgW at hr
  split at hr <;> omega
theorem tw_1 {v s W d nd r p t : Int} {I3 : Nat → Int32} {J3 : Nat → Int64} {I4 : Nat → Int32} {J4 : Nat → Int64} (hd : dgs v nd) (h3 : dgM I3 J3 (rdM v (s - t) d) d) (ht : t = pE v (nd + s) (pW W)) (hw : 1 ≤ pW W) (hr : dgW I3 = r) (hc : r ≤ pW W) (h4 : dgM I4 J4 (iab t) 0) (hp : p = t) : twP v s W d I3 J3 I4 J4 p := by
  subst hp
  have e : pF v (nd + s) (pW W) (I3 2).toInt d = p := by
    unfold pF; rw [if_neg (fun q => by have := (pF_W h3 hr hw).1 q; omega), ht]
  refine ⟨nd, (I3 2).toInt, hd, by rw [← ht]; exact h3.2.2, ?_, ?_, e.symm⟩
  · rw [e]; exact h3
  · rw [e]; exact h4
theorem tw_2 {v s W d nd r p t : Int} {I0 : Nat → Int32} {J0 : Nat → Int64} {I3 : Nat → Int32} {J3 : Nat → Int64} {I4 : Nat → Int32} {J4 : Nat → Int64} (hd : dgs v nd) (h0 : dgM I0 J0 (rdM v (s - t) d) d) (ht : t = pE v (nd + s) (pW W)) (hw : 1 ≤ pW W) (hr : dgW I0 = r) (hc : ¬ r ≤ pW W) (h3 : dgM I3 J3 (rdM v (s - (t + pW W)) d) d) (h4 : dgM I4 J4 (iab (t + pW W)) 0) (hp : p = t + pW W) : twP v s W d I3 J3 I4 J4 p := by
  subst hp
  have e : pF v (nd + s) (pW W) (I0 2).toInt d = t + pW W := by
    unfold pF; rw [if_pos ((pF_W h0 hr hw).2 (by omega)), ht]
  refine ⟨nd, (I0 2).toInt, hd, by rw [← ht]; exact h0.2.2, ?_, ?_, e.symm⟩
  · rw [e]; exact h3
  · rw [e]; exact h4
theorem pE_c {v nd s W : Int} {r x : Int32} (hv : ¬ v = 0) (h0 : 0 ≤ v) (hr : r.toInt = (nd + s - 1) / pW W) (hx : x.toInt = pW W) (hw : 1 ≤ pW W) (hb : -1000 ≤ nd + s ∧ nd + s ≤ 1000 ∧ pW W ≤ 64) : (r * x).toInt = pE v (nd + s) (pW W) := by
  have m := zmw (m := nd + s - 1) hw
  unfold pE
  rw [if_neg (by omega), zmul1 (by rw [hr, hx]; omega) (by rw [hr, hx]; omega), hr, hx]
theorem pWm {x : Int32} : (zmax 1 x).toInt = pW x.toInt := by
  rw [qmax]; unfold pW; simp only [Int32.reduceToInt]; split <;> split <;> omega
def tw0 (v s W S : Int) : Prop := ∃ nd, dgs v nd ∧ (0 ≤ nd ∧ nd ≤ 19) ∧ S = pE v (nd + s) (pW W)
theorem tw0_i {v s W S nd : Int} (h : dgs v nd) (hb : 0 ≤ nd ∧ nd ≤ 19) (hS : S = pE v (nd + s) (pW W)) : tw0 v s W S := ⟨nd, h, hb, hS⟩
theorem pE_z {v p w : Int} {z : Int} (h : v = 0) (hz : z = 0) : z = pE v p w := by unfold pE; rw [if_pos (by omega), hz]
