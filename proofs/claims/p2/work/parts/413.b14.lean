theorem yG_hi {kd fi se kd' fi' se' : Nat → Int32} {a b pt : Int} (h : yG kd fi se a b pt) (hh : ∀ n : Nat, 160 ≤ (n : Int) → kd' n = kd n ∧ fi' n = fi n ∧ se' n = se n) (h0 : 160 ≤ a) : yG kd' fi' se' a b pt := by
  refine ⟨fun n k1 k2 => ?_, ?_⟩
  · obtain ⟨e1, e2, e3⟩ := hh n (by omega)
    rw [e1, e2, e3]; exact h.1 n k1 k2
  · rw [← zrem_congr (f := kd) (by omega) (fun j k1 _ => by rw [(hh j (by omega)).1])]; exact h.2
theorem yO_hi {sK sI sE kd fi se kd' fi' se' : Nat → Int32} {b : Int} {s : Nat} (h : yO sK sI sE kd fi se b s) (hh : ∀ n : Nat, 160 ≤ (n : Int) → kd' n = kd n ∧ fi' n = fi n ∧ se' n = se n) : yO sK sI sE kd' fi' se' b s := by
  obtain ⟨a, g, k⟩ := h
  refine ⟨a, yG_hi g hh a.1, fun q4 => ?_⟩
  obtain ⟨q, q1, q2, q3⟩ := k q4
  exact ⟨q, q1, q2, by rw [(hh q (by omega)).1]; exact q3⟩
theorem yO_se {sK sI sE sK' sI' sE' kd fi se : Nat → Int32} {b : Int} {s : Nat} (h : yO sK sI sE kd fi se b s) (e1 : sK' (5 + s) = sK (5 + s)) (e2 : sI' (5 + s) = sI (5 + s)) (e3 : sE' (5 + s) = sE (5 + s)) : yO sK' sI' sE' kd fi se b s := by
  unfold yO at h ⊢; rw [e1, e2, e3]; exact h
def yC (sK sI sE : Nat → Int32) (n : Int) : Prop := ∀ s : Nat, (s : Int) < n → sK s = sK (5 + s) ∧ (sI s).toInt = (sI (5 + s)).toInt - 160 ∧ (sE s).toInt = (sE (5 + s)).toInt - 160
def yCk (kd fi se : Nat → Int32) (n : Int) : Prop := ∀ k : Nat, (k : Int) < n → kd k = kd (160 + k) ∧ fi k = fi (160 + k) ∧ se k = se (160 + k)
def yOs (sK sI sE kd fi se : Nat → Int32) (b n : Int) : Prop := ∀ s : Nat, (s : Int) < n → yO sK sI sE kd fi se b s
theorem y5 {x : Int32} (h0 : 0 ≤ x.toInt) (h4 : x.toInt ≤ 100) : (5 + x).toNatClampNeg = 5 + x.toNatClampNeg ∧ (160 + x).toNatClampNeg = 160 + x.toNatClampNeg ∧ (x.toNatClampNeg : Int) = x.toInt := by
  refine ⟨?_, ?_, by rw [← ztn]; omega⟩
  · rw [← ztn, ← ztn, zadd1 (by simp only [Int32.reduceToInt]; omega) (by simp only [Int32.reduceToInt]; omega)]; simp only [Int32.reduceToInt]; omega
  · rw [← ztn, ← ztn, zadd1 (by simp only [Int32.reduceToInt]; omega) (by simp only [Int32.reduceToInt]; omega)]; simp only [Int32.reduceToInt]; omega
theorem yOs_c {sK sI sE kd fi se : Nat → Int32} {b n : Int} {x u v w : Int32} (h : yOs sK sI sE kd fi se b n) (h0 : 0 ≤ x.toInt) (h4 : x.toInt < 5) : yOs (upd sK x.toNatClampNeg u) (upd sI x.toNatClampNeg v) (upd sE x.toNatClampNeg w) kd fi se b n := fun s hs => by
  have hx := (y5 h0 (by omega)).2.2
  refine yO_se (h s hs) ?_ ?_ ?_ <;> exact pk_un (by omega)
theorem yC_step {sK sI sE kd fi se : Nat → Int32} {b n r : Int} {x : Int32} (hO : yOs sK sI sE kd fi se b n) (h : yC sK sI sE x.toInt) (h0 : 0 ≤ x.toInt) (h4 : x.toInt < 5) (hn : x.toInt < n) (hb : b ≤ 400) (hr : r = x.toInt + 1) : yC (upd sK x.toNatClampNeg (sK (5 + x).toNatClampNeg)) (upd sI x.toNatClampNeg (sI (5 + x).toNatClampNeg - 160)) (upd sE x.toNatClampNeg (sE (5 + x).toNatClampNeg - 160)) r := fun s hs => by
  obtain ⟨e5, _, hx⟩ := y5 h0 (show x.toInt ≤ 100 by omega)
  rw [e5, pk_un (show 5 + s ≠ x.toNatClampNeg by omega), pk_un (show 5 + s ≠ x.toNatClampNeg by omega), pk_un (show 5 + s ≠ x.toNatClampNeg by omega)]
  by_cases c : s = x.toNatClampNeg
  · subst c
    rw [pk_us, pk_us, pk_us]
    obtain ⟨⟨a1, a2, a3⟩, _, _⟩ := hO x.toNatClampNeg (by omega)
    exact ⟨rfl, zsub1 (by simp only [Int32.reduceToInt]; omega) (by simp only [Int32.reduceToInt]; omega), zsub1 (by simp only [Int32.reduceToInt]; omega) (by simp only [Int32.reduceToInt]; omega)⟩
  · rw [pk_un c, pk_un c, pk_un c]; exact h s (by omega)
theorem yOs_k {sK sI sE kd fi se : Nat → Int32} {b n : Int} {x u v w : Int32} (h : yOs sK sI sE kd fi se b n) (h0 : 0 ≤ x.toInt) (h4 : x.toInt < 100) : yOs sK sI sE (upd kd x.toNatClampNeg u) (upd fi x.toNatClampNeg v) (upd se x.toNatClampNeg w) b n := fun s hs => by
  have hx := (y5 h0 (show x.toInt ≤ 100 by omega)).2.2
  refine yO_hi (h s hs) (fun m hm => ⟨?_, ?_, ?_⟩) <;> exact pk_un (by omega)
theorem yCk_step {kd fi se : Nat → Int32} {r : Int} {x : Int32} (h : yCk kd fi se x.toInt) (h0 : 0 ≤ x.toInt) (h4 : x.toInt < 100) (hr : r = x.toInt + 1) : yCk (upd kd x.toNatClampNeg (kd (160 + x).toNatClampNeg)) (upd fi x.toNatClampNeg (fi (160 + x).toNatClampNeg)) (upd se x.toNatClampNeg (se (160 + x).toNatClampNeg)) r := fun s hs => by
  obtain ⟨_, e5, hx⟩ := y5 h0 (show x.toInt ≤ 100 by omega)
  rw [e5, pk_un (show 160 + s ≠ x.toNatClampNeg by omega), pk_un (show 160 + s ≠ x.toNatClampNeg by omega), pk_un (show 160 + s ≠ x.toNatClampNeg by omega)]
  by_cases c : s = x.toNatClampNeg
  · subst c; rw [pk_us, pk_us, pk_us]; exact ⟨rfl, rfl, rfl⟩
  · rw [pk_un c, pk_un c, pk_un c]; exact h s (by omega)
theorem yOs_nil {sK sI sE kd fi se : Nat → Int32} {b n : Int} (h : n ≤ 0) : yOs sK sI sE kd fi se b n := fun s hs => by omega
theorem yC_nil {sK sI sE : Nat → Int32} {n : Int} (h : n ≤ 0) : yC sK sI sE n := fun s hs => by omega
theorem yCk_nil {kd fi se : Nat → Int32} {n : Int} (h : n ≤ 0) : yCk kd fi se n := fun s hs => by omega
theorem yOs_n {sK sI sE kd fi se : Nat → Int32} {b n b' n' : Int} (h : yOs sK sI sE kd fi se b n) (hb : b' = b) (hn : n' = n) : yOs sK sI sE kd fi se b' n' := by subst hb; subst hn; exact h
theorem yC_n {sK sI sE : Nat → Int32} {n n' : Int} (h : yC sK sI sE n) (hn : n' = n) : yC sK sI sE n' := by subst hn; exact h
theorem yOs_st {sK sI sE kd fi se sK' sI' sE' kd' fi' se' : Nat → Int32} {x u v : Int32} {b b' b2 n n' : Int} (hall : yOs sK sI sE kd fi se b n) (hR : yR kd fi se sK kd' fi' se' sK' (5 + x).toNatClampNeg b b' 1) (eI : sI' = upd sI (5 + x).toNatClampNeg u) (eE : sE' = upd sE (5 + x).toNatClampNeg v) (hn : n = x.toInt) (hu : u.toInt = b) (hv : v.toInt = b') (h0 : 0 ≤ x.toInt) (h3 : x.toInt ≤ 3) (hb : 160 ≤ b) (hbb : b ≤ b') (hn' : n' = x.toInt + 1) (hb2 : b2 = b') : yOs sK' sI' sE' kd' fi' se' b2 n' := by
  subst hn; subst hn'; subst hb2
  exact yO_step (i0 := 0) (i1 := 0) hall hR eI hu eE hv h0 h3 hb hbb
theorem yOr {sK sI sE kd fi se : Nat → Int32} {w w' b n b' n' : Int} (h : 0 ≤ w ∨ yOs sK sI sE kd fi se b n) (hw : w' = w) (hb : b' = b) (hn : n' = n) : 0 ≤ w' ∨ yOs sK sI sE kd fi se b' n' := by subst hw; subst hb; subst hn; exact h
