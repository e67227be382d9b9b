/-! the reference's fraction: its items -/
theorem rx_9 {k a b : Int} {q : Int32} : cK 9 (rx k a b q) = if k = 9 then 1 else 0 := by
  unfold rx
  by_cases h1 : k = 1
  · subst h1; rfl
  rw [if_neg h1]
  by_cases h2 : k = 2
  · subst h2; rfl
  rw [if_neg h2]
  by_cases h3 : k = 3
  · subst h3; rfl
  rw [if_neg h3]
  by_cases h4 : k = 4
  · subst h4; rfl
  rw [if_neg h4]
  by_cases h5 : k = 5
  · subst h5; rfl
  rw [if_neg h5]
  by_cases h6 : k = 6
  · subst h6; rfl
  rw [if_neg h6]
  by_cases h7 : k = 7
  · subst h7; rfl
  rw [if_neg h7]
  by_cases h8 : k = 8
  · rw [if_pos h8, if_neg (by omega)]
    show (0 : Int) + cK 9 (pkc 8 q b.toNat) = 0
    rw [pkc_0 (by decide)]; rfl
  rw [if_neg h8]
  by_cases h9 : k = 9
  · subst h9; rfl
  rw [if_neg h9, if_neg h9]
  split
  · show (0 : Int) + cK 9 (pkc _ q b.toNat) = 0
    rw [pkc_0 (by split <;> decide)]; rfl
  split
  · show (if rkR a = 9 then 1 else 0) + 0 = (0 : Int)
    rw [if_neg (by have := rkR_b (a := a); omega)]; rfl
  split
  · show (if rkA a = 9 then 1 else 0) + 0 = (0 : Int)
    rw [if_neg (by have := rkA_b (a := a); omega)]; rfl
  split
  · rfl
  split
  · rfl
  split
  · rfl
  split <;> rfl
def sf (l : List (Int × Int)) : Prop := ∀ p ∈ l, ¬ p.1 = 1 ∧ ¬ p.1 = 2 ∧ ¬ (9 ≤ p.1 ∧ p.1 ≤ 12)
theorem sf_1 {k c : Int} (h : ¬ k = 1 ∧ ¬ k = 2 ∧ ¬ (9 ≤ k ∧ k ≤ 12)) : sf [(k, c)] := fun p hp => by
  rw [List.mem_singleton] at hp; subst hp; exact h
theorem sf_p {k : Int} {q : Int32} (h : ¬ k = 1 ∧ ¬ k = 2 ∧ ¬ (9 ≤ k ∧ k ≤ 12)) : ∀ n : Nat, sf (pkc k q n)
  | 0 => fun p hp => by cases hp
  | n + 1 => fun p hp => by
    rcases List.mem_cons.1 hp with e | e
    · subst e; exact h
    · exact sf_p h n p e
theorem rx_f {k a b : Int} {q : Int32} (h1 : ¬ k = 1) (h2 : ¬ k = 2) (h7 : ¬ k = 7) (h9 : ¬ k = 9) (h10 : ¬ k = 10) : sf (rx k a b q) := by
  unfold rx
  rw [if_neg h1, if_neg h2, if_neg h7, if_neg h9, if_neg h10]
  split
  · exact sf_1 (by decide)
  split
  · exact sf_1 (by decide)
  split
  · exact sf_1 (by decide)
  split
  · exact sf_1 (by decide)
  split
  · intro p hp
    rcases List.mem_cons.1 hp with e | e
    · subst e; exact ⟨by show ¬ (7 : Int) = 1; decide, by show ¬ (7 : Int) = 2; decide, by show ¬ (9 ≤ (7 : Int) ∧ (7 : Int) ≤ 12); decide⟩
    · exact sf_p (by decide) _ p e
  split
  · exact sf_1 (by have := rkR_b (a := a); omega)
  split
  · exact sf_1 (by have := rkA_b (a := a); omega)
  split
  · exact sf_1 (by decide)
  split
  · exact sf_1 (by decide)
  split
  · exact sf_1 (by decide)
  split
  · exact sf_1 (by decide)
  · intro p hp; cases hp
section
variable {A B : Int → Int → List Int} {bl : Int} {U : List (Int × Int) → List Int} {a q : Int} {r : List (Int × Int)}
theorem frun_s : ∀ l : List (Int × Int), sf l → frun A B bl U a q (l ++ r) = frun A B bl U a q r
  | [], _ => rfl
  | x :: l, h => by
    have hp := h x (List.mem_cons_self ..)
    show frun A B bl U a q ((x.1, x.2) :: (l ++ r)) = _
    rw [fr_n hp.1 hp.2.1 (by omega) (by omega) (Or.inr hp.2.2)]
    exact frun_s l (fun y hy => h y (List.mem_cons_of_mem _ hy))
theorem frun_p0 {kd : Int} {Q : Int32} (hb : bl = 0) (hk : kd = 11 ∨ kd = 12) : ∀ n : Nat, frun A B bl U a q (pkc kd Q n ++ r) = frun A B bl U a q r
  | 0 => rfl
  | n + 1 => by
    show frun A B bl U a q ((kd, pch Q n) :: (pkc kd Q n ++ r)) = _
    rw [fr_n (by omega) (by omega) (by omega) (by omega) (Or.inl hb)]
    exact frun_p0 hb hk n
theorem frun_p1 {kd : Int} {Q : Int32} (hb : ¬ bl = 0) (hk : kd = 11 ∨ kd = 12) : ∀ n : Nat, frun A B bl U a q (pkc kd Q n ++ r) = List.replicate n 32 ++ frun A B bl U a q r
  | 0 => rfl
  | n + 1 => by
    show frun A B bl U a q ((kd, pch Q n) :: (pkc kd Q n ++ r)) = _
    rw [fr_b (by omega) hb, frun_p1 hb hk n]
    rfl
end
theorem hN_x {a b : Int} {P : Prop} (h : a = b) (k : hN a b) : P := absurd h k
/-- the strokes of a section: so many places of a denominator, or a given one of so many digits; no percents -/
def stk (K A B : Nat → Int32) (x e pl u : Int) : Prop := ∀ j : Nat, x ≤ (j : Int) → (j : Int) < e → ¬ (K j).toInt = 7 ∧ ((K j).toInt = 10 → (0 ≤ (B j).toInt ∧ (B j).toInt ≤ 5) ∧ (((A j).toInt = 1 ∧ pl = 0 ∧ (B j).toInt = nd3 u) ∨ (¬ (A j).toInt = 1 ∧ pl = (B j).toInt)))
def pfR (wf : Nat → Int32) (wh : Int) (rf : Nat → Int32) (mr bl u W V pl : Int) : Int → Int → List (Int × Int) → List Int := frun (nPl (whD wf) wh W 0) (nPl (whD rf) mr V 0) bl (uL pl u)
def pfG (f : Nat → Int32) (n : Int) (g : Nat → Int32) (m : Int) (wf : Nat → Int32) (wh : Int) (rf : Nat → Int32) (mr : Int) (K A B Q : Nat → Int32) (bl u W V pl a q x e : Int) (T : List Int) : Prop :=
  gR f n g m (pfR wf wh rf mr bl u W V pl a q (rs K A B Q x e)) T ∧ (0 ≤ x ∧ a = cK 2 (rs K A B Q x e) ∧ (bl = 0 → q = cK 9 (rs K A B Q x e))) ∧ stk K A B x e pl u
def pfN (f : Nat → Int32) (n : Int) (g : Nat → Int32) (m : Int) (wf : Nat → Int32) (wh : Int) (rf : Nat → Int32) (mr : Int) (K A B Q : Nat → Int32) (bl u W V pl a q x e z : Int) (T : List Int) : Prop :=
  gR f n g m (plr (whD rf) mr (A x.toNat).toInt 0 q (pck (if q = V - 1 then 1 else 0) (z - q)) ++ pfR wf wh rf mr bl u W V pl a q (rs K A B Q (x + 1) e)) T ∧ (0 ≤ x ∧ a = cK 2 (rs K A B Q (x + 1) e) ∧ q = cK 9 (rs K A B Q (x + 1) e)) ∧ (bl = 0 ∧ -1 ≤ z ∧ z < mr) ∧ stk K A B (x + 1) e pl u
section
variable {f g h : Nat → Int32} {n m m2 m3 : Int} {wf : Nat → Int32} {wh : Int} {rf : Nat → Int32} {mr : Int} {K A B Q : Nat → Int32} {bl u W V pl a q y e : Int} {x : Int32} {T : List Int}
theorem pfG_x (H : pfG f n g m wf wh rf mr K A B Q bl u W V pl a q y e T) (hy : e ≤ y) (hm : m2 = m) : pR f n g m2 T := by
  have h1 := H.1
  rw [rs_x hy] at h1
  exact pR_e (gR_x h1 rfl) rfl hm
theorem pfG_p (H : pfG f n g m wf wh rf mr K A B Q bl u W V pl a q y e T) : 0 ≤ y ∧ 0 ≤ a := ⟨H.2.1.1, by rw [H.2.1.2.1]; exact cK_0 _⟩
theorem stk_m {y z : Int} (H : stk K A B y e pl u) (hz : y ≤ z) : stk K A B z e pl u := fun j h0 h1 => H j (by omega) h1
theorem pfG_t {a2 q2 : Int} {X : List Int} (H : pfG f n g m wf wh rf mr K A B Q bl u W V pl a q x.toInt e T) (hx : ¬ e ≤ x.toInt) (hA : pR g m h m2 X) (hX : ∀ r, pfR wf wh rf mr bl u W V pl a q (rx (K x.toInt.toNat).toInt (A x.toInt.toNat).toInt (B x.toInt.toNat).toInt (Q x.toInt.toNat) ++ r) = X ++ pfR wf wh rf mr bl u W V pl a2 q2 r) (h2 : a2 = a - (if (K x.toNatClampNeg).toInt = 2 then 1 else 0)) (h9 : bl = 0 → q2 = q - (if (K x.toNatClampNeg).toInt = 9 then 1 else 0)) (hy : y = x.toInt + 1) (hm : m3 = m2) : pfG f n h m3 wf wh rf mr K A B Q bl u W V pl a2 q2 y e T := by
  obtain ⟨g1, g2, g3⟩ := H
  subst hm
  rw [rs_s g2.1 (by omega) hy] at g1 g2
  rw [cK_a, cK_a, rx_22, rx_9] at g2
  rw [zcl x] at h2 h9
  refine ⟨gR_s g1 hA (hX _), ⟨by omega, by omega, fun c => ?_⟩, stk_m g3 (by omega)⟩
  have := g2.2.2 c
  have := h9 c
  omega
theorem pfG_1 (H : pfG f n g m wf wh rf mr K A B Q bl u W V pl a q x.toInt e T) (hx : ¬ e ≤ x.toInt) (hk : (K x.toNatClampNeg).toInt = 1) (hA : pR g m h m2 [(A x.toNatClampNeg).toInt]) (hy : y = x.toInt + 1) (hm : m3 = m2) : pfG f n h m3 wf wh rf mr K A B Q bl u W V pl a q y e T := by
  refine pfG_t H hx hA (fun r => ?_) (by rw [hk]; exact (Int.sub_zero _).symm) (fun _ => by rw [hk]; exact (Int.sub_zero _).symm) hy hm
  rw [show (K x.toInt.toNat).toInt = 1 from hk]
  exact fr_1 rfl
theorem pfG_2 {a2 c2 z fst : Int} (H : pfG f n g m wf wh rf mr K A B Q bl u W V pl a q x.toInt e T) (hx : ¬ e ≤ x.toInt) (hk : (K x.toNatClampNeg).toInt = 2) (hA : pR g m h m2 (pls (whD wf) wh (A x.toNatClampNeg).toInt z a2 fst)) (hz : z = 0) (ha : a2 = a - 1) (hc : c2 = a2) (hf : (¬ a2 = W - 1 ∧ fst = 0) ∨ (a2 = W - 1 ∧ fst = 1)) (hy : y = x.toInt + 1) (hm : m3 = m2) : pfG f n h m3 wf wh rf mr K A B Q bl u W V pl c2 q y e T := by
  subst hc; subst hz
  refine pfG_t H hx hA (fun r => ?_) (by rw [hk]; exact ha) (fun _ => by rw [hk]; exact (Int.sub_zero _).symm) hy hm
  rw [show (K x.toInt.toNat).toInt = 2 from hk]
  have ef : (if c2 = W - 1 then 1 else 0) = fst := by
    rcases hf with ⟨p, q⟩ | ⟨p, q⟩
    · rw [if_neg p, q]
    · rw [if_pos p, q]
  show frun _ _ bl _ a q ((2, (A x.toInt.toNat).toInt) :: r) = _
  rw [fr_2 rfl, ← ha]
  show pls (whD wf) wh _ 0 c2 (if c2 = W - 1 then 1 else 0) ++ _ = _
  rw [ef]; rfl
theorem pfG_b (H : pfG f n g m wf wh rf mr K A B Q bl u W V pl a q x.toInt e T) (hx : ¬ e ≤ x.toInt) (hk : (K x.toNatClampNeg).toInt = 9) (hb : ¬ bl = 0) (hA : pR g m h m2 [32]) (hy : y = x.toInt + 1) (hm : m3 = m2) : pfG f n h m3 wf wh rf mr K A B Q bl u W V pl a q y e T := by
  refine pfG_t H hx hA (fun r => ?_) (by rw [hk]; exact (Int.sub_zero _).symm) (fun c => absurd c hb) hy hm
  rw [show (K x.toInt.toNat).toInt = 9 from hk]
  exact fr_b (by decide) hb
theorem pfG_u (H : pfG f n g m wf wh rf mr K A B Q bl u W V pl a q x.toInt e T) (hx : ¬ e ≤ x.toInt) (hk : (K x.toNatClampNeg).toInt = 10) : 0 ≤ (B x.toNatClampNeg).toInt ∧ (B x.toNatClampNeg).toInt ≤ 5 := by
  have h0 := H.2.1.1
  exact ((H.2.2 x.toNatClampNeg (by rw [zcl]; omega) (by rw [zcl]; omega)).2 hk).1
theorem pfG_10 {c : Int} (H : pfG f n g m wf wh rf mr K A B Q bl u W V pl a q x.toInt e T) (hx : ¬ e ≤ x.toInt) (hk : (K x.toNatClampNeg).toInt = 10) (hA : pR g m h m2 ([c] ++ uPk bl (Q x.toNatClampNeg) (B x.toNatClampNeg).toInt u)) (hc : (bl = 0 ∧ c = 47) ∨ (¬ bl = 0 ∧ c = 32)) (hy : y = x.toInt + 1) (hm : m3 = m2) : pfG f n h m3 wf wh rf mr K A B Q bl u W V pl a q y e T := by
  have h0 := H.2.1.1
  have hs := (H.2.2 x.toNatClampNeg (by rw [zcl]; omega) (by rw [zcl]; omega)).2 hk
  refine pfG_t H hx hA (fun r => ?_) (by rw [hk]; exact (Int.sub_zero _).symm) (fun _ => by rw [hk]; exact (Int.sub_zero _).symm) hy hm
  rw [show (K x.toInt.toNat).toInt = 10 from hk]
  rw [zcl x] at hs ⊢
  show frun _ _ bl _ a q ((10, 47) :: (pkc (if (A x.toInt.toNat).toInt = 1 then 12 else 11) (Q x.toInt.toNat) (B x.toInt.toNat).toInt.toNat ++ r)) = _
  have kd : (if (A x.toInt.toNat).toInt = 1 then (12 : Int) else 11) = 11 ∨ (if (A x.toInt.toNat).toInt = 1 then (12 : Int) else 11) = 12 := by
    by_cases c : (A x.toInt.toNat).toInt = 1
    · rw [if_pos c]; exact Or.inr rfl
    · rw [if_neg c]; exact Or.inl rfl
  rcases hc with ⟨hb, hc⟩ | ⟨hb, hc⟩
  · rw [fr_10 rfl hb, frun_p0 hb kd, hc]
    congr 2
    rcases hs.2 with ⟨s1, s2, s3⟩ | ⟨s1, s2⟩
    · rw [s2]; exact uL_gv hb s3
    · rw [s2]; exact uL_pk hb hs.1.1
  · rw [fr_b (by decide) hb, frun_p1 hb kd, hc]
    unfold uPk
    rw [if_neg hb]; rfl
theorem pfG_n (H : pfG f n g m wf wh rf mr K A B Q bl u W V pl a q x.toInt e T) (hx : ¬ e ≤ x.toInt) (h1 : hN (K x.toNatClampNeg).toInt 1) (h2 : hN (K x.toNatClampNeg).toInt 2) (h9 : hN (K x.toNatClampNeg).toInt 9) (h10 : hN (K x.toNatClampNeg).toInt 10) (hy : y = x.toInt + 1) (hm : m3 = m) : pfG f n g m3 wf wh rf mr K A B Q bl u W V pl a q y e T := by
  have h0 := H.2.1.1
  have h7 := (H.2.2 x.toNatClampNeg (by rw [zcl]; omega) (by rw [zcl]; omega)).1
  refine pfG_t H hx (pR_0 rfl) (fun r => ?_) (by rw [if_neg h2]; omega) (fun _ => by rw [if_neg h9]; omega) hy hm
  exact frun_s _ (rx_f h1 h2 h7 h9 h10)
theorem pfG_a (H : pfG f n g m wf wh rf mr K A B Q bl u W V pl a q x.toInt e T) (hx : ¬ e ≤ x.toInt) (hk : (K x.toNatClampNeg).toInt = 2) : 1 ≤ a := by
  obtain ⟨h1, h2, h3⟩ := H
  rw [rs_s h2.1 (by omega) rfl, cK_a, rx_22, if_pos (show (K x.toInt.toNat).toInt = 2 from hk)] at h2
  have := cK_0 (k := 2) (rs K A B Q (x.toInt + 1) e)
  omega
theorem pfG_q (H : pfG f n g m wf wh rf mr K A B Q bl u W V pl a q x.toInt e T) (hx : ¬ e ≤ x.toInt) (hk : (K x.toNatClampNeg).toInt = 9) (hb : bl = 0) : 1 ≤ q := by
  obtain ⟨h1, h2, h3⟩ := H
  rw [rs_s h2.1 (by omega) rfl, cK_a, cK_a, rx_22, rx_9, if_pos (show (K x.toInt.toNat).toInt = 9 from hk)] at h2
  have := cK_0 (k := 9) (rs K A B Q (x.toInt + 1) e)
  have := h2.2.2 hb
  omega
theorem pfN_i {z q2 : Int} (H : pfG f n g m wf wh rf mr K A B Q bl u W V pl a q x.toInt e T) (hx : ¬ e ≤ x.toInt) (hk : (K x.toNatClampNeg).toInt = 9) (hb : bl = 0) (hq : q2 = q - 1) (hz : z = mr - 1) (h0 : 0 ≤ mr) (hm : m2 = m) : pfN f n g m2 wf wh rf mr K A B Q bl u W V pl a q2 x.toInt e z T := by
  obtain ⟨g1, g2, g3⟩ := H
  subst hm
  have k9 : (K x.toInt.toNat).toInt = 9 := hk
  rw [rs_s g2.1 (by omega) rfl] at g1 g2
  rw [cK_a, cK_a, rx_22, rx_9, k9] at g2
  have q9 := g2.2.2 hb
  rw [if_pos rfl] at q9
  have q2' := g2.2.1
  rw [if_neg (by decide)] at q2'
  refine ⟨gR_e g1 ?_ rfl, ⟨g2.1, by omega, by omega⟩, ⟨hb, by omega, by omega⟩, stk_m g3 (by omega)⟩
  rw [k9]
  show frun _ _ bl _ a q ((9, (A x.toInt.toNat).toInt) :: rs K A B Q (x.toInt + 1) e) = _
  rw [fr_9 rfl hb, ← hq, pls_i hz]; rfl
theorem pfN_b {z : Int} (H : pfN f n g m wf wh rf mr K A B Q bl u W V pl a q y e z T) : (0 ≤ y ∧ 0 ≤ a ∧ 0 ≤ q) ∧ bl = 0 ∧ -1 ≤ z ∧ z < mr := by
  obtain ⟨_, ⟨b, c, d⟩, k, _⟩ := H
  have := cK_0 (k := 2) (rs K A B Q (y + 1) e)
  have := cK_0 (k := 9) (rs K A B Q (y + 1) e)
  omega
theorem pfN_s {z : Int32} {z2 : Int} (H : pfN f n g m wf wh rf mr K A B Q bl u W V pl a q y e z.toInt T) (hf : q = V - 1) (hz : ¬ z.toInt ≤ q) (hw : ∀ j : Nat, (j : Int) < mr → 0 ≤ (rf j).toInt ∧ (rf j).toInt ≤ 9) (hA : pR g m h m2 [(48 + rf z.toNatClampNeg).toInt]) (hz2 : z2 = z.toInt - 1) (hm : m3 = m2) : pfN f n h m3 wf wh rf mr K A B Q bl u W V pl a q y e z2 T := by
  have b := pfN_b H
  obtain ⟨h1, h2, h3, h4⟩ := H
  subst hm
  refine ⟨gR_s h1 hA ?_, h2, ⟨h3.1, by omega, by omega⟩, h4⟩
  rw [if_pos hf, plw_s (by decide) (by omega) hz2 (plo_h1 (wq hw (by omega) (by omega)) (by omega) (Or.inl rfl)), List.append_assoc]
theorem pfN_x {X : List Int} {z : Int} (H : pfN f n g m wf wh rf mr K A B Q bl u W V pl a q x.toInt e z T) (hz : ¬ q = V - 1 ∨ z ≤ q) (hA : pR g m h m2 X) (e2 : plo (whD rf) mr (A x.toInt.toNat).toInt 0 q = X) (hy : y = x.toInt + 1) (hm : m3 = m2) : pfG f n h m3 wf wh rf mr K A B Q bl u W V pl a q y e T := by
  obtain ⟨h1, h2, h3, h4⟩ := H
  subst hm; subst hy
  have hz2 : (if q = V - 1 then (1 : Int) else 0) = 0 ∨ z ≤ q := by
    rcases hz with c | c
    · exact Or.inl (if_neg c)
    · exact Or.inr c
  rw [plw_x hz2, e2] at h1
  exact ⟨gR_s h1 hA rfl, ⟨by omega, h2.2.1, fun _ => h2.2.2⟩, h4⟩
theorem pfN_1 {z : Int} {w : Int32} (H : pfN f n g m wf wh rf mr K A B Q bl u W V pl a w.toInt x.toInt e z T) (hz : ¬ w.toInt = V - 1 ∨ z ≤ w.toInt) (hw : ∀ j : Nat, (j : Int) < mr → 0 ≤ (rf j).toInt ∧ (rf j).toInt ≤ 9) (hq : w.toInt < mr) (hA : pR g m h m2 [(48 + rf w.toNatClampNeg).toInt]) (hy : y = x.toInt + 1) (hm : m3 = m2) : pfG f n h m3 wf wh rf mr K A B Q bl u W V pl a w.toInt y e T := by
  have b := pfN_b H
  exact pfN_x H hz hA (plo_h1 (wq hw (by omega) hq) hq (Or.inl rfl)) hy hm
theorem pfN_2 {z : Int} (H : pfN f n g m wf wh rf mr K A B Q bl u W V pl a q x.toInt e z T) (hz : ¬ q = V - 1 ∨ z ≤ q) (hq : ¬ q < mr) (hA : pR g m h m2 (blk (A x.toNatClampNeg).toInt)) (hy : y = x.toInt + 1) (hm : m3 = m2) : pfG f n h m3 wf wh rf mr K A B Q bl u W V pl a q y e T :=
  pfN_x H hz hA (plo_6 hq (Or.inr (Or.inl rfl))) hy hm
end
theorem pfG_i {f : Nat → Int32} {n m : Int} {wf : Nat → Int32} {wh : Int} {rf : Nat → Int32} {mr : Int} {K A B Q : Nat → Int32} {bl u W V x e : Int} (h0 : 0 ≤ x) (hm : m = n) (hs : stk K A B x e (cK 11 (rs K A B Q x e)) u) (hW : W = zrem K 2 x e) (hV : V = zrem K 9 x e) : pfG f n f m wf wh rf mr K A B Q bl u W V (cK 11 (rs K A B Q x e)) W V x e (pfR wf wh rf mr bl u (cK 2 (rs K A B Q x e)) (cK 9 (rs K A B Q x e)) (cK 11 (rs K A B Q x e)) (cK 2 (rs K A B Q x e)) (cK 9 (rs K A B Q x e)) (rs K A B Q x e)) := by
  have c2 := zr_c (K := K) (A := A) (B := B) (Q := Q) (j := 2) (kk := 2) (fun _ _ _ _ => rx_22) (e - x).toNat x h0 rfl
  have c9 := zr_c (K := K) (A := A) (B := B) (Q := Q) (j := 9) (kk := 9) (fun _ _ _ _ => rx_9) (e - x).toNat x h0 rfl
  rw [hW, hV, c2, c9]
  exact ⟨gR_i hm rfl, ⟨h0, rfl, fun _ => rfl⟩, hs⟩
