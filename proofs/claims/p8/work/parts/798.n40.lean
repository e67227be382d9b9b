/-! the denominator's places as items -/
theorem lkL_a {c kd : Int} {q : Int32} {r : List (Int × Int)} : ∀ (k n : Nat), k ≤ n → lkL c k (pkc kd q n ++ r) = lkL c k (pkc 11 q n)
  | 0, n, _ => by cases n <;> rfl
  | k + 1, 0, h => by omega
  | k + 1, n + 1, h => by
    show (if pch q n = c then _ else _) ++ lkL c k (pkc kd q n ++ r) = (if pch q n = c then _ else _) ++ lkL c k (pkc 11 q n)
    rw [lkL_a k n (by omega)]
theorem uL_pk {dn u : Int} {kd b : Int} {q : Int32} {r : List (Int × Int)} (hb : b = 0) (h0 : 0 ≤ dn) : uL dn u (pkc kd q dn.toNat ++ r) = uPk b q dn u := by
  have p := nd3_p (u := u)
  unfold uL uPk
  rw [if_pos hb, lkL_a _ _ (by omega), lkL_a _ _ (by omega), List.append_assoc]
/-- a given denominator lacks nothing -/
theorem uL_gv {u : Int} {r : List (Int × Int)} {b N : Int} {q : Int32} (hb : b = 0) (hN : N = nd3 u) : uL 0 u r = uPk b q N u := by
  have p := nd3_p (u := u)
  have e : ∀ (c : Int) (l : List (Int × Int)), lkL c 0 l = [] := fun c l => by cases l <;> rfl
  unfold uL uPk
  rw [if_pos hb, show (0 - nd3 u).toNat = 0 by omega, show (N - nd3 u).toNat = 0 by omega, e, e, e, e]; rfl
