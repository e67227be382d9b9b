/-! one list of items on both sides: without the items that show nothing -/
def fl : List (Int × Int) → List (Int × Int)
  | [] => []
  | p :: r => if p.1 = 0 then fl r else p :: fl r
theorem fl_0 {p : Int × Int} {r : List (Int × Int)} (h : p.1 = 0) : fl (p :: r) = fl r := by show (if p.1 = 0 then _ else _) = _; rw [if_pos h]
theorem fl_1 {p : Int × Int} {r : List (Int × Int)} (h : ¬ p.1 = 0) : fl (p :: r) = p :: fl r := by show (if p.1 = 0 then _ else _) = _; rw [if_neg h]
theorem fl_a : ∀ l r : List (Int × Int), fl (l ++ r) = fl l ++ fl r
  | [], _ => rfl
  | p :: l, r => by
    show fl (p :: (l ++ r)) = _
    by_cases h : p.1 = 0
    · rw [fl_0 h, fl_0 h, fl_a l r]
    · rw [fl_1 h, fl_1 h, fl_a l r]; rfl
theorem cK_fl {k : Int} (hk : ¬ k = 0) : ∀ l : List (Int × Int), cK k (fl l) = cK k l
  | [] => rfl
  | p :: r => by
    by_cases h : p.1 = 0
    · rw [fl_0 h, cK_fl hk r]
      show _ = (if p.1 = k then 1 else 0) + cK k r
      rw [if_neg (by omega), Int.zero_add]
    · rw [fl_1 h]
      show (if p.1 = k then 1 else 0) + cK k (fl r) = (if p.1 = k then 1 else 0) + cK k r
      rw [cK_fl hk r]
theorem wrun_fl {TX : List Int} : ∀ l : List (Int × Int), wrun TX (fl l) = wrun TX l
  | [] => rfl
  | p :: r => by
    by_cases h : p.1 = 0
    · rw [fl_0 h, wrun_fl r]
      show _ = (if p.1 = 1 then [p.2] else if p.1 = 13 then TX else []) ++ wrun TX r
      rw [if_neg (by omega), if_neg (by omega)]; rfl
    · rw [fl_1 h]
      show (if p.1 = 1 then [p.2] else if p.1 = 13 then TX else []) ++ wrun TX (fl r) = (if p.1 = 1 then [p.2] else if p.1 = 13 then TX else []) ++ wrun TX r
      rw [wrun_fl r]
theorem nrun_fl {e : Int → Int → Int → List Int} (he : ∀ c : Int, e 0 c 0 = []) : ∀ (l : List (Int × Int)) (a b p : Int), nrun e a b p (fl l) = nrun e a b p l
  | [], _, _, _ => rfl
  | i :: r, a, b, p => by
    by_cases h : i.1 = 0
    · rw [fl_0 h, nrun_fl he r]
      show _ = nrun e a b p ((i.1, i.2) :: r)
      rw [nrun_k (by omega) (by omega) (by omega), h, he]; rfl
    · rw [fl_1 h]
      show (if i.1 = 2 then e 2 i.2 (a - 1) ++ nrun e (a - 1) b p (fl r) else if i.1 = 3 then e 3 i.2 (b + 1) ++ nrun e a (b + 1) p (fl r) else if i.1 = 8 then e 8 i.2 (p - 1) ++ nrun e a b (p - 1) (fl r) else e i.1 i.2 0 ++ nrun e a b p (fl r)) = (if i.1 = 2 then e 2 i.2 (a - 1) ++ nrun e (a - 1) b p r else if i.1 = 3 then e 3 i.2 (b + 1) ++ nrun e a (b + 1) p r else if i.1 = 8 then e 8 i.2 (p - 1) ++ nrun e a b (p - 1) r else e i.1 i.2 0 ++ nrun e a b p r)
      rw [nrun_fl he r, nrun_fl he r, nrun_fl he r, nrun_fl he r]
theorem wrun_a {TX : List Int} : ∀ l r : List (Int × Int), wrun TX (l ++ r) = wrun TX l ++ wrun TX r
  | [], _ => rfl
  | p :: l, r => by
    show (if p.1 = 1 then [p.2] else if p.1 = 13 then TX else []) ++ wrun TX (l ++ r) = ((if p.1 = 1 then [p.2] else if p.1 = 13 then TX else []) ++ wrun TX l) ++ wrun TX r
    rw [wrun_a l r, List.append_assoc]
/-- kinds of PLAIN and TEXT in the reference -/
def wk (K : Nat → Int32) (x e : Int) : Prop := ∀ j : Nat, x ≤ (j : Int) → (j : Int) < e → (K j).toInt = 0 ∨ (K j).toInt = 1 ∨ (K j).toInt = 16
theorem wls_rs {K A B Q : Nat → Int32} {TX : List Int} {e : Int} : ∀ (n : Nat) (x : Int), 0 ≤ x → (e - x).toNat = n → wk K x e → wls K A TX x e = wrun TX (rs K A B Q x e)
  | 0, x, _, hn, _ => by rw [wls_x (by omega), rs_x (by omega)]; rfl
  | n + 1, x, h0, hn, h => by
    have ih := wls_rs (K := K) (A := A) (B := B) (Q := Q) (TX := TX) (e := e) n (x + 1) (by omega) (by omega) (fun j a b => h j (by omega) b)
    have hk := h x.toNat (by omega) (by omega)
    rw [rs_s h0 (by omega) rfl, wrun_a, ← ih]
    have es : wls K A TX x e = (if (K x.toNat).toInt = 1 then [(A x.toNat).toInt] else []) ++ ((if (K x.toNat).toInt = 16 then TX else []) ++ wls K A TX (x + 1) e) := by
      unfold wls
      rw [show (e - x).toNat = (e - (x + 1)).toNat + 1 by omega, show (x + 1).toNat = x.toNat + 1 by omega]; rfl
    rw [es]
    rcases hk with hk | hk | hk
    · rw [hk]; rfl
    · rw [hk]; rfl
    · rw [hk]
      show [] ++ (TX ++ _) = (TX ++ []) ++ _
      rw [List.append_nil]; rfl
/-- words: both looks are one, where the items are -/
theorem w_eq {K M : Nat → Int32} {x e : Int} {K2 A B Q : Nat → Int32} {x2 e2 : Int} {TX : List Int} (h0 : 0 ≤ x2) (hk : wk K2 x2 e2) (h : fl (cs K M x e) = rs K2 A B Q x2 e2) : wrun TX (cs K M x e) = wls K2 A TX x2 e2 := by
  rw [wls_rs (B := B) (Q := Q) (e2 - x2).toNat x2 h0 rfl hk, ← h, wrun_fl]
