/-! dress of a fraction -/
def fWf (W V o u : Int) : Int := if W = 0 then V else if o = u then V + 1 else V
def fOf (W V o u : Int) : Int := if W = 0 then o + u * V else if o = u then 0 else o
def fMd (v s W gv pl : Int) (J : Nat → Int64) (I3 : Nat → Int32) (J3 : Nat → Int64) : Prop :=
  dgM I3 J3 (fWf W (spW v s) (frE (spR v s) gv pl).1 (frE (spR v s) gv pl).2.1) 0 ∧ (J 2).toInt = fOf W (spW v s) (frE (spR v s) gv pl).1 (frE (spR v s) gv pl).2.1 ∧ (J 3).toInt = (frE (spR v s) gv pl).2.1 ∧ (0 ≤ (J 2).toInt ∧ (J 2).toInt < 1000000000000000000) ∧ 1 ≤ (J 3).toInt ∧ (J 3).toInt ≤ 999
def fsg (b x y : Int) : List Int := if ¬ b = 0 ∧ ¬ (x = 0 ∧ y = 0) then [45] else []
theorem fsg_0 {b x y : Int} {X : List Int} (h : b = 0 ∨ (x = 0 ∧ y = 0)) : X = fsg b x y ++ X := by unfold fsg; rw [if_neg (by omega)]; rfl
theorem fsg_1 {b x y : Int} {X : List Int} (h : ¬ b = 0) (h2 : ¬ x = 0 ∨ ¬ y = 0) : [45] ++ X = fsg b x y ++ X := by unfold fsg; rw [if_pos ⟨h, by omega⟩]
/-- W no whole places and a whole part of more than nine digits, or the fraction's items -/
def fdP (v s W V gv pl b : Int) (L : List (Int × Int)) (I3 : Nat → Int32) (J3 : Nat → Int64) (I7 : Nat → Int32) (J7 : Nat → Int64) (T : List Int) : Prop :=
  (W = 0 ∧ dgM I3 J3 (spW v s) 0 ∧ 9 < dgW I3 ∧ T = [35]) ∨
  ((W = 0 → spW v s < 1000000000) ∧ (dgM I3 J3 (fWf W (spW v s) (frE (spR v s) gv pl).1 (frE (spR v s) gv pl).2.1) 0 ∧ dgM I7 J7 (fOf W (spW v s) (frE (spR v s) gv pl).1 (frE (spR v s) gv pl).2.1) 0) ∧ T = fsg b (dgN I3 J3) (dgN I7 J7) ++ frun (nPl (dgD I3 J3) (dgW I3) W 0) (nPl (dgD I7 J7) (dgW I7) V 0) (fBl (fOf W (spW v s) (frE (spR v s) gv pl).1 (frE (spR v s) gv pl).2.1) W) (uL pl (frE (spR v s) gv pl).2.1) W V L)
theorem spW_0 {v s : Int} (h : 0 ≤ v) : 0 ≤ spW v s := by
  unfold spW; split
  · exact Int.ediv_nonneg h (Int.le_of_lt (p10 _))
  · exact Int.mul_nonneg h (Int.le_of_lt (p10 _))
theorem dg9 {I : Nat → Int32} {J : Nat → Int64} {M r : Int} (h : dgM I J M 0) (hr : dgW I = r) (h9 : r ≤ 9) : M < 1000000000 := by
  have e3 : (I 3).toInt = 0 := h.1.2.2.2.2
  have n9 : (I 2).toInt ≤ 9 := by unfold dgW at hr; split at hr <;> omega
  rcases h.2.2 with ⟨a, _⟩ | ⟨_, _, _, d⟩
  · omega
  · have := p10_le (show (I 2).toInt.toNat ≤ 9 by omega)
    have e : (10 : Int) ^ 9 = 1000000000 := by decide
    omega
theorem jst_v {J : Nat → Int64} {s : Int × Int × Int} (h : jst J = s) : (J 2).toInt = s.1 ∧ (J 3).toInt = s.2.1 := by subst h; exact ⟨rfl, rfl⟩
section
variable {v s W gv pl : Int} {J : Nat → Int64} {I3 : Nat → Int32} {J3 : Nat → Int64}
theorem fMd_n (hj : jst J = frE (spR v s) gv pl) (h3 : dgM I3 J3 (spW v s) 0) (hW : ¬ W = 0) (hn : ¬ (J 2).toInt = (J 3).toInt) (hb : 1 ≤ (frE (spR v s) gv pl).2.1 ∧ (frE (spR v s) gv pl).2.1 ≤ 999 ∧ 0 ≤ (frE (spR v s) gv pl).1 ∧ (frE (spR v s) gv pl).1 ≤ (frE (spR v s) gv pl).2.1) : fMd v s W gv pl J I3 J3 := by
  have q := jst_v hj
  unfold fMd fWf fOf
  rw [if_neg hW, if_neg hW, if_neg (by omega), if_neg (by omega)]
  exact ⟨h3, q.1, q.2, by omega, by omega⟩
theorem fMd_c (hj : jst J = frE (spR v s) gv pl) (h3 : dgM I3 J3 (spW v s + 1) 0) (hW : ¬ W = 0) (hn : (J 2).toInt = (J 3).toInt) (hb : 1 ≤ (frE (spR v s) gv pl).2.1 ∧ (frE (spR v s) gv pl).2.1 ≤ 999 ∧ 0 ≤ (frE (spR v s) gv pl).1 ∧ (frE (spR v s) gv pl).1 ≤ (frE (spR v s) gv pl).2.1) : fMd v s W gv pl (zul J 2 0) I3 J3 := by
  have q := jst_v hj
  unfold fMd fWf fOf
  rw [if_neg hW, if_neg hW, if_pos (by omega), if_pos (by omega)]
  refine ⟨h3, rfl, q.2, ?_, ?_⟩
  · show (0 : Int) ≤ 0 ∧ (0 : Int) < 1000000000000000000; decide
  · show 1 ≤ (J 3).toInt ∧ (J 3).toInt ≤ 999; omega
theorem fMd_0 {r : Int64} (hj : jst J = frE (spR v s) gv pl) (h3 : dgM I3 J3 (spW v s) 0) (hW : W = 0) (hr : r.toInt = spW v s) (h0 : 0 ≤ spW v s) (h9 : spW v s < 1000000000) (hb : 1 ≤ (frE (spR v s) gv pl).2.1 ∧ (frE (spR v s) gv pl).2.1 ≤ 999 ∧ 0 ≤ (frE (spR v s) gv pl).1 ∧ (frE (spR v s) gv pl).1 ≤ (frE (spR v s) gv pl).2.1) : fMd v s W gv pl (zul J 2 (J 2 + J 3 * r)) I3 J3 := by
  have q := jst_v hj
  have b := frB (r := spW v s) (d := (J 3).toInt) h0 (by omega) (by omega) (by omega)
  have b2 : spW v s * (J 3).toInt ≤ 1000000000 * 999 := Int.le_trans (Int.mul_le_mul_of_nonneg_right (Int.le_of_lt h9) (by omega)) (Int.mul_le_mul_of_nonneg_left (by omega) (by decide))
  have m : (J 3 * r).toInt = (J 3).toInt * spW v s := by
    have c : (J 3).toInt * r.toInt = spW v s * (J 3).toInt := by rw [hr, Int.mul_comm]
    rw [zl_mul1 (by rw [c]; omega) (by rw [c]; omega), hr]
  have c2 : (J 3).toInt * spW v s = spW v s * (J 3).toInt := Int.mul_comm _ _
  have e : (J 2 + J 3 * r).toInt = (J 2).toInt + (J 3).toInt * spW v s := by rw [zl_add1 (by rw [m]; omega) (by rw [m]; omega), m]
  unfold fMd fWf fOf
  rw [if_pos hW, if_pos hW]
  refine ⟨h3, ?_, q.2, ?_, ?_⟩
  · show (J 2 + J 3 * r).toInt = _
    rw [e, q.1, q.2]
  · show 0 ≤ (J 2 + J 3 * r).toInt ∧ (J 2 + J 3 * r).toInt < 1000000000000000000
    omega
  · show 1 ≤ (J 3).toInt ∧ (J 3).toInt ≤ 999; omega
theorem fMd_O (h : fMd v s W gv pl J I3 J3) : dgO I3 J3 ∧ (0 ≤ (J 2).toInt ∧ (J 2).toInt < 1000000000000000000) ∧ 1 ≤ (J 3).toInt ∧ (J 3).toInt ≤ 999 := ⟨(dgO_i h.1 (by decide) (by decide)).1, h.2.2.2.1, h.2.2.2.2⟩
theorem fdP_i {b V : Int} {L : List (Int × Int)} {I7 : Nat → Int32} {J7 : Nat → Int64} {X : List Int} (h : fMd v s W gv pl J I3 J3) (hw : W = 0 → spW v s < 1000000000) (h7 : dgM I7 J7 (J 2).toInt 0) (hX : X = fsg b (dgN I3 J3) (dgN I7 J7) ++ frun (nPl (dgD I3 J3) (dgW I3) W 0) (nPl (dgD I7 J7) (dgW I7) V 0) (fBl (J 2).toInt W) (uL pl (J 3).toInt) W V L) : fdP v s W V gv pl b L I3 J3 I7 J7 X := by
  obtain ⟨a, b1, c, _⟩ := h
  rw [b1] at h7 hX
  rw [c] at hX
  exact Or.inr ⟨hw, ⟨a, h7⟩, hX⟩
end
def fW9 (v s W : Int) : Prop := W = 0 → spW v s < 1000000000
theorem fW9_1 {v s W : Int} (h : ¬ W = 0) : fW9 v s W := fun c => absurd c h
theorem fW9_0 {v s W : Int} (h : spW v s < 1000000000) : fW9 v s W := fun _ => h
theorem fdE_1 {c c2 : Nat} {f g : Nat → Int32} {n k v s W V gv pl b : Int} {J : Nat → Int64} {L : List (Int × Int)} {I3 : Nat → Int32} {J3 : Nat → Int64} {I7 : Nat → Int32} {J7 : Nat → Int64} {X : List Int} (h : fMd v s W gv pl J I3 J3) (hw : fW9 v s W) (h7 : dgM I7 J7 (J 2).toInt 0) (hA : pC c f n c2 g k X) (hX : X = fsg b (dgN I3 J3) (dgN I7 J7) ++ frun (nPl (dgD I3 J3) (dgW I3) W 0) (nPl (dgD I7 J7) (dgW I7) V 0) (fBl (J 2).toInt W) (uL pl (J 3).toInt) W V L) : ∃ T, fdP v s W V gv pl b L I3 J3 I7 J7 T ∧ pC c f n c2 g k T := ⟨X, fdP_i h hw h7 hX, hA⟩
theorem fdE_0 {c c2 : Nat} {f g : Nat → Int32} {n k v s W V gv pl b r : Int} {L : List (Int × Int)} {I3 : Nat → Int32} {J3 : Nat → Int64} {I7 : Nat → Int32} {J7 : Nat → Int64} (hW : W = 0) (h3 : dgM I3 J3 (spW v s) 0) (hr : dgW I3 = r) (h9 : ¬ r ≤ 9) (hA : pC c f n c2 g k [35]) : ∃ T, fdP v s W V gv pl b L I3 J3 I7 J7 T ∧ pC c f n c2 g k T := ⟨[35], Or.inl ⟨hW, h3, by omega, rfl⟩, hA⟩
