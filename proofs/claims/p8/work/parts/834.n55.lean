/-- only kind and mark of the parts count -/
theorem pm_z {K A B Q B2 Q2 : Nat → Int32} {e : Int} : ∀ (n : Nat) (x a : Int), 0 ≤ x → (e - x).toNat = n → pmA a (rs K A B Q x e) = pmA a (rs K A B2 Q2 x e)
  | 0, x, a, _, hn => by rw [rs_x (by omega), rs_x (by omega)]
  | n + 1, x, a, h0, hn => by
    have ih := fun a => pm_z (K := K) (A := A) (B := B) (Q := Q) (B2 := B2) (Q2 := Q2) (e := e) n (x + 1) a (by omega) (by omega)
    rw [rs_s (B := B) (Q := Q) h0 (by omega) rfl, rs_s (B := B2) (Q := Q2) h0 (by omega) rfl]
    by_cases k : (K x.toNat).toInt = 15
    · rw [k]
      show pmA (if (29 : Int) = 29 ∧ a < (A x.toNat).toInt then (A x.toNat).toInt else a) (rs K A B Q (x + 1) e) = pmA (if (29 : Int) = 29 ∧ a < (A x.toNat).toInt then (A x.toNat).toInt else a) (rs K A B2 Q2 (x + 1) e)
      exact ih _
    · rw [pmA_n _ (rx_29 k), pmA_n _ (rx_29 k), ih]
theorem pmA_fl : ∀ (l : List (Int × Int)) (a : Int), pmA a (fl l) = pmA a l
  | [], _ => rfl
  | p :: r, a => by
    by_cases h : p.1 = 0
    · rw [fl_0 h, pmA_fl r]
      show _ = pmA (if p.1 = 29 ∧ a < p.2 then p.2 else a) r
      rw [if_neg (by omega)]
    · rw [fl_1 h]
      show pmA (if p.1 = 29 ∧ a < p.2 then p.2 else a) (fl r) = pmA (if p.1 = 29 ∧ a < p.2 then p.2 else a) r
      exact pmA_fl r _
theorem drun_fl {E : Int → Int → List Int} (hE : ∀ c : Int, E 0 c = []) : ∀ l : List (Int × Int), drun E (fl l) = drun E l
  | [] => rfl
  | p :: r => by
    by_cases h : p.1 = 0
    · rw [fl_0 h, drun_fl hE r]
      show _ = E p.1 p.2 ++ drun E r
      rw [h, hE]; rfl
    · rw [fl_1 h]
      show E p.1 p.2 ++ drun E (fl r) = E p.1 p.2 ++ drun E r
      rw [drun_fl hE r]
theorem drun_a {E : Int → Int → List Int} : ∀ l r : List (Int × Int), drun E (l ++ r) = drun E l ++ drun E r
  | [], _ => rfl
  | p :: l, r => by
    show E p.1 p.2 ++ drun E (l ++ r) = (E p.1 p.2 ++ drun E l) ++ drun E r
    rw [drun_a l r, List.append_assoc]
