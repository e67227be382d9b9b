/-! items that are put behind the last one; counts over split ranges -/
theorem zcnt_add (f : Nat → Int32) (w : Int) : ∀ (n m k : Nat), zcnt f w k (n + m) = zcnt f w k n + zcnt f w (k + n) m
  | 0, m, k => by simp [zcnt]
  | n + 1, m, k => by
    rw [show n + 1 + m = (n + m) + 1 by omega]
    simp only [zcnt]
    rw [zcnt_add f w n m (k + 1), show k + 1 + n = k + (n + 1) by omega]
    omega
theorem zrem_split {f : Nat → Int32} {w a b c : Int} (h0 : 0 ≤ a) (h1 : a ≤ b) (h2 : b ≤ c) : zrem f w a c = zrem f w a b + zrem f w b c := by
  unfold zrem
  rw [show (c - a).toNat = (b - a).toNat + (c - b).toNat by omega, zcnt_add, show a.toNat + (b - a).toNat = b.toNat by omega]
theorem zcnt_congr {f g : Nat → Int32} {w : Int} : ∀ (n k : Nat), (∀ j : Nat, k ≤ j → j < k + n → ((f j).toInt = w ↔ (g j).toInt = w)) → zcnt f w k n = zcnt g w k n
  | 0, k, _ => rfl
  | n + 1, k, h => by
    simp only [zcnt]
    rw [zcnt_congr n (k + 1) (fun j h1 h2 => h j (by omega) (by omega))]
    have := h k (by omega) (by omega)
    by_cases c : (f k).toInt = w
    · rw [if_pos c, if_pos (this.mp c)]
    · rw [if_neg c, if_neg (fun d => c (this.mpr d))]
theorem zrem_congr {f g : Nat → Int32} {w a b : Int} (h0 : 0 ≤ a) (h : ∀ j : Nat, a ≤ (j : Int) → (j : Int) < b → ((f j).toInt = w ↔ (g j).toInt = w)) : zrem f w a b = zrem g w a b := by
  unfold zrem
  exact zcnt_congr _ _ (fun j h1 h2 => h j (by omega) (by omega))
theorem zcnt_zero {f : Nat → Int32} {w : Int} : ∀ (n k : Nat), (∀ j : Nat, k ≤ j → j < k + n → (f j).toInt ≠ w) → zcnt f w k n = 0
  | 0, k, _ => rfl
  | n + 1, k, h => by
    simp only [zcnt]
    rw [zcnt_zero n (k + 1) (fun j h1 h2 => h j (by omega) (by omega)), if_neg (h k (by omega) (by omega))]
    rfl
theorem zrem_zero {f : Nat → Int32} {w a b : Int} (h0 : 0 ≤ a) (h : ∀ j : Nat, a ≤ (j : Int) → (j : Int) < b → (f j).toInt ≠ w) : zrem f w a b = 0 := by
  unfold zrem
  exact zcnt_zero _ _ (fun j h1 h2 => h j (by omega) (by omega))
def yA (kd fi se kd' fi' se' : Nat → Int32) (b b' : Int) : Prop := (∀ n : Nat, (n : Int) < b → kd' n = kd n ∧ fi' n = fi n ∧ se' n = se n) ∧ (∀ n : Nat, b ≤ (n : Int) → (n : Int) < b' → (kd' n).toInt ≠ 4 ∧ ((kd' n).toInt = 15 → 0 ≤ (fi' n).toInt ∧ (fi' n).toInt ≤ 3) ∧ 0 ≤ (se' n).toInt ∧ (se' n).toInt ≤ 5)
theorem yA_refl {kd fi se : Nat → Int32} {b b' : Int} (h : b' ≤ b) : yA kd fi se kd fi se b b' := ⟨fun _ _ => ⟨rfl, rfl, rfl⟩, fun n h1 h2 => by omega⟩
theorem yA_item {kd fi se kd' fi' se' : Nat → Int32} {b b' c : Int} {i v x y : Int32} (h : yA kd fi se kd' fi' se' b b') (hi : i.toInt = b') (hb : b ≤ b') (h0 : 0 ≤ b') (hc : c = b' + 1) (hv : v.toInt ≠ 4) (hx : v.toInt = 15 → 0 ≤ x.toInt ∧ x.toInt ≤ 3) (hy : 0 ≤ y.toInt ∧ y.toInt ≤ 5) : yA kd fi se (upd kd' i.toNatClampNeg v) (upd fi' i.toNatClampNeg x) (upd se' i.toNatClampNeg y) b c := by
  subst hc
  have hn : i.toNatClampNeg = b'.toNat := by rw [← hi]; rfl
  refine ⟨fun n h1 => ?_, fun n h1 h2 => ?_⟩
  · have hne : n ≠ i.toNatClampNeg := by omega
    rw [pk_un hne, pk_un hne, pk_un hne]; exact h.1 n h1
  · by_cases e : n = i.toNatClampNeg
    · subst e; rw [pk_us, pk_us, pk_us]; exact ⟨hv, hx, hy⟩
    · rw [pk_un e, pk_un e, pk_un e]; exact h.2 n h1 (by omega)
theorem yA_trans {kd fi se kd' fi' se' kd2 fi2 se2 : Nat → Int32} {b b' b2 : Int} (h : yA kd fi se kd' fi' se' b b') (h2 : yA kd' fi' se' kd2 fi2 se2 b' b2) (hb : b ≤ b') : yA kd fi se kd2 fi2 se2 b b2 := by
  refine ⟨fun n h1 => ?_, fun n h1 h3 => ?_⟩
  · have a := h.1 n h1; have c := h2.1 n (by omega)
    exact ⟨c.1.trans a.1, c.2.1.trans a.2.1, c.2.2.trans a.2.2⟩
  · rcases Int.lt_or_le (n : Int) b' with k | k
    · have a := h.2 n h1 k; have c := h2.1 n k
      rw [c.1, c.2.1, c.2.2]; exact a
    · exact h2.2 n k h3
/-- what the items of a section that is being read keep -/
def yG (kd fi se : Nat → Int32) (a b pt : Int) : Prop := (∀ n : Nat, a ≤ (n : Int) → (n : Int) < b → ((kd n).toInt = 15 → 0 ≤ (fi n).toInt ∧ (fi n).toInt ≤ 3) ∧ 0 ≤ (se n).toInt ∧ (se n).toInt ≤ 5) ∧ zrem kd 4 a b ≤ pt
theorem yG_nil {kd fi se : Nat → Int32} {a b pt : Int} (h : b ≤ a) (hp : 0 ≤ pt) : yG kd fi se a b pt := ⟨fun n h1 h2 => by omega, by rw [zrem_end h]; exact hp⟩
theorem yG_A {kd fi se kd' fi' se' : Nat → Int32} {a b b' pt : Int} (h : yG kd fi se a b pt) (hA : yA kd fi se kd' fi' se' b b') (h0 : 0 ≤ a) (h1 : a ≤ b) (h2 : b ≤ b') : yG kd' fi' se' a b' pt := by
  refine ⟨fun n h3 h4 => ?_, ?_⟩
  · rcases Int.lt_or_le (n : Int) b with k | k
    · have c := hA.1 n k
      rw [c.1, c.2.1, c.2.2]; exact h.1 n h3 k
    · exact (hA.2 n k h4).2
  · rw [zrem_split h0 h1 h2, zrem_zero (by omega) (fun j h3 h4 => (hA.2 j h3 h4).1), ← zrem_congr (g := kd') (f := kd) h0 (fun j h3 h4 => by rw [(hA.1 j h4).1])]
    have := h.2; omega
theorem yG_pt {kd fi se kd' fi' se' : Nat → Int32} {a b pt pt' c : Int} {i v x y : Int32} (h : yG kd fi se a b pt) (hi : i.toInt = b) (h0 : 0 ≤ a) (h1 : a ≤ b) (hc : c = b + 1) (hp : pt + 1 ≤ pt') (hv : v.toInt = 4) (hy : 0 ≤ y.toInt ∧ y.toInt ≤ 5) (e1 : kd' = upd kd i.toNatClampNeg v) (e2 : fi' = upd fi i.toNatClampNeg x) (e3 : se' = upd se i.toNatClampNeg y) : yG kd' fi' se' a c pt' := by
  subst hc; subst e1; subst e2; subst e3
  have hn : i.toNatClampNeg = b.toNat := by rw [← hi]; rfl
  refine ⟨fun n h3 h4 => ?_, ?_⟩
  · by_cases e : n = i.toNatClampNeg
    · subst e; rw [pk_us, pk_us, pk_us]; exact ⟨fun q => by omega, hy⟩
    · rw [pk_un e, pk_un e, pk_un e]; exact h.1 n h3 (by omega)
  · have z1 := zrem_bd (upd kd i.toNatClampNeg v) 4 b (b + 1)
    rw [zrem_split h0 h1 (show b ≤ b + 1 by omega), ← zrem_congr (f := kd) h0 (fun j h3 h4 => by rw [pk_un (by omega)])]
    have := h.2; omega
