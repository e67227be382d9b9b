/-! the reference's denominator -/
def uG (f : Nat → Int32) (n : Int) (g : Nat → Int32) (k : Int) (q : Int32) (N m j sp d : Int) (T : List Int) : Prop :=
  gR f n g k (lkL 48 (N - m - j).toNat (pkc 11 q (N - j).toNat) ++ (fig d 1 ++ lkL 63 (N - m).toNat (pkc 11 q N.toNat))) T ∧ List.replicate sp.toNat 32 ++ lkL 63 (N - m - j).toNat (pkc 11 q (N - j).toNat) = lkL 63 (N - m).toNat (pkc 11 q N.toNat) ∧ 0 ≤ sp ∧ sp ≤ j
theorem lk_s {c N m j : Int} {q : Int32} (h : ¬ N - m ≤ j) (hm : 0 ≤ m) : lkL c (N - m - j).toNat (pkc 11 q (N - j).toNat) = (if pch q (N - 1 - j) = c then [if c = 63 then 32 else c] else []) ++ lkL c (N - m - (j + 1)).toNat (pkc 11 q (N - (j + 1)).toNat) := by
  rw [show (N - m - j).toNat = (N - m - (j + 1)).toNat + 1 by omega, show (N - j).toNat = (N - (j + 1)).toNat + 1 by omega]
  show (if pch q (((N - (j + 1)).toNat : Nat) : Int) = c then _ else _) ++ _ = _
  rw [show (((N - (j + 1)).toNat : Nat) : Int) = N - 1 - j by omega]
section
variable {f g h : Nat → Int32} {n k k2 k3 : Int} {q : Int32} {N m j j2 sp sp2 d y : Int} {T : List Int}
theorem uG_a (H : uG f n g k q N m j sp d T) (hj : ¬ N - m ≤ j) (hm : 0 ≤ m) (hy : y = pch q (N - 1 - j)) (h48 : y = 48) (hA : pR g k h k2 [48]) (hj2 : j2 = j + 1) (hs : sp2 = sp) (hk : k3 = k2) : uG f n h k3 q N m j2 sp2 d T := by
  obtain ⟨a, b, c⟩ := H
  subst hk; subst hj2; subst hs
  rw [lk_s hj hm, if_pos (by omega)] at a
  rw [lk_s (c := 63) hj hm, if_neg (by omega)] at b
  exact ⟨gR_s a hA (by rw [List.append_assoc]; rfl), b, by omega, by omega⟩
theorem uG_b (H : uG f n g k q N m j sp d T) (hj : ¬ N - m ≤ j) (hm : 0 ≤ m) (hy : y = pch q (N - 1 - j)) (h63 : y = 63) (hj2 : j2 = j + 1) (hs : sp2 = sp + 1) (hk : k3 = k) : uG f n g k3 q N m j2 sp2 d T := by
  obtain ⟨a, b, c⟩ := H
  subst hk; subst hj2; subst hs
  rw [lk_s hj hm, if_neg (by omega)] at a
  rw [lk_s (c := 63) hj hm, if_pos (by omega)] at b
  refine ⟨a, ?_, by omega, by omega⟩
  rw [← b, show (sp + 1).toNat = sp.toNat + 1 by omega, List.replicate_succ', List.append_assoc]
  rfl
theorem uG_n (H : uG f n g k q N m j sp d T) (hj : ¬ N - m ≤ j) (hm : 0 ≤ m) (hy : y = pch q (N - 1 - j)) (h48 : ¬ y = 48) (h63 : ¬ y = 63) (hj2 : j2 = j + 1) (hs : sp2 = sp) (hk : k3 = k) : uG f n g k3 q N m j2 sp2 d T := by
  obtain ⟨a, b, c⟩ := H
  subst hk; subst hj2; subst hs
  rw [lk_s hj hm, if_neg (by omega)] at a
  rw [lk_s (c := 63) hj hm, if_neg (by omega)] at b
  exact ⟨a, b, by omega, by omega⟩
theorem uG_x {z : Int} (H : uG f n g k q N m j sp d T) (hj : N - m ≤ j) (hA : pR g k h k2 (fig d 1)) (hz : z = 0) (hk : k3 = k2) : gR f n h k3 (List.replicate (sp - z).toNat 32) T := by
  obtain ⟨a, b, c⟩ := H
  subst hk
  have e : ∀ cc : Int, lkL cc (N - m - j).toNat (pkc 11 q (N - j).toNat) = [] := fun cc => by rw [show (N - m - j).toNat = 0 by omega]; rfl
  rw [e] at a
  rw [e, List.append_nil] at b
  rw [← b] at a
  rw [hz, Int.sub_zero]
  exact gR_s a hA rfl
theorem uG_i {z z2 : Int} (hz : z = 0) (hz2 : z2 = 0) (hk : k2 = k) : uG f k f k2 q N m z z2 d (lkL 48 (N - m).toNat (pkc 11 q N.toNat) ++ (fig d 1 ++ lkL 63 (N - m).toNat (pkc 11 q N.toNat))) := by
  subst hz; subst hz2
  refine ⟨gR_i hk ?_, ?_, by decide, by decide⟩
  · rw [Int.sub_zero, Int.sub_zero]
  · rw [Int.sub_zero, Int.sub_zero]; rfl
end
def uPk (b : Int) (q : Int32) (N d : Int) : List Int := if b = 0 then lkL 48 (N - nd3 d).toNat (pkc 11 q N.toNat) ++ (fig d 1 ++ lkL 63 (N - nd3 d).toNat (pkc 11 q N.toNat)) else List.replicate N.toNat 32
theorem uPk_0 {b : Int} {q : Int32} {N d m : Int} (h : b = 0) (hm : m = nd3 d) : lkL 48 (N - m).toNat (pkc 11 q N.toNat) ++ (fig d 1 ++ lkL 63 (N - m).toNat (pkc 11 q N.toNat)) = uPk b q N d := by unfold uPk; rw [if_pos h, hm]
theorem uPk_1 {b : Int} {q : Int32} {N d z : Int} (h : ¬ b = 0) (hz : z = 0) : List.replicate (N - z).toNat 32 = uPk b q N d := by unfold uPk; rw [if_neg h, hz, Int.sub_zero]
theorem nd3_1 {d : Int} (h : 1 ≤ d) (h9 : d ≤ 9) : (1 : Int32).toInt = nd3 d := by unfold nd3; rw [if_neg (by omega), if_pos (by omega)]; rfl
theorem nd3_2 {d : Int} (h : ¬ d ≤ 9) (h9 : d ≤ 99) : (2 : Int32).toInt = nd3 d := by unfold nd3; rw [if_neg (by omega), if_neg (by omega), if_pos (by omega)]; rfl
theorem nd3_3 {d : Int} (h : ¬ d ≤ 99) : (3 : Int32).toInt = nd3 d := by unfold nd3; rw [if_neg (by omega), if_neg (by omega), if_neg (by omega)]; rfl
