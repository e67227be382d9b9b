/-! the reference's items as lists -/
def pkc (kd : Int) (q : Int32) : Nat → List (Int × Int)
  | 0 => []
  | n + 1 => (kd, pch q n) :: pkc kd q n
def rkR (a : Int) : Int := if a = 121 then 20 else if a = 109 then 21 else if a = 100 then 22 else if a = 104 then 23 else if a = 110 then 24 else 25
def rkA (a : Int) : Int := if a = 104 then 26 else if a = 109 then 27 else 28
def rx (k a b : Int) (q : Int32) : List (Int × Int) :=
  if k = 1 then [(1, a)] else if k = 2 then [(2, a)] else if k = 3 then [(3, a)] else if k = 4 then [(4, 46)] else if k = 5 then [(6, 44)] else if k = 6 then [(5, 44)] else if k = 7 then [(1, 37)]
  else if k = 8 then (7, a) :: pkc 8 q b.toNat else if k = 9 then [(9, a)] else if k = 10 then (10, 47) :: pkc (if a = 1 then 12 else 11) q b.toNat
  else if k = 11 then [(rkR a, b)] else if k = 12 then [(rkA a, b)] else if k = 13 then [(30, 2)] else if k = 14 then [(30, 1)] else if k = 15 then [(29, a)] else if k = 16 then [(13, 64)] else []
def rl (K A B Q : Nat → Int32) (i : Nat) : Nat → List (Int × Int)
  | 0 => []
  | n + 1 => rx (K i).toInt (A i).toInt (B i).toInt (Q i) ++ rl K A B Q (i + 1) n
def rs (K A B Q : Nat → Int32) (x e : Int) : List (Int × Int) := rl K A B Q x.toNat (e - x).toNat
theorem rs_s {K A B Q : Nat → Int32} {x y e : Int} (h0 : 0 ≤ x) (h : x < e) (hy : y = x + 1) : rs K A B Q x e = rx (K x.toNat).toInt (A x.toNat).toInt (B x.toNat).toInt (Q x.toNat) ++ rs K A B Q y e := by
  subst hy
  unfold rs
  rw [show (e - x).toNat = (e - (x + 1)).toNat + 1 by omega, show (x + 1).toNat = x.toNat + 1 by omega]; rfl
theorem rs_x {K A B Q : Nat → Int32} {x e : Int} (h : e ≤ x) : rs K A B Q x e = [] := by unfold rs; rw [show (e - x).toNat = 0 by omega]; rfl
theorem cK_a {k : Int} : ∀ (l r : List (Int × Int)), cK k (l ++ r) = cK k l + cK k r
  | [], r => (Int.zero_add _).symm
  | p :: l, r => by
    show (if p.1 = k then 1 else 0) + cK k (l ++ r) = (if p.1 = k then 1 else 0) + cK k l + cK k r
    rw [cK_a l r, Int.add_assoc]
theorem pkc_0 {k kd : Int} {q : Int32} (h : ¬ kd = k) : ∀ n : Nat, cK k (pkc kd q n) = 0
  | 0 => rfl
  | n + 1 => by
    show (if kd = k then 1 else 0) + cK k (pkc kd q n) = 0
    rw [if_neg h, pkc_0 h n]; rfl
theorem pkc_1 {kd : Int} {q : Int32} : ∀ n : Nat, cK kd (pkc kd q n) = n
  | 0 => rfl
  | n + 1 => by
    show (if kd = kd then 1 else 0) + cK kd (pkc kd q n) = _
    rw [if_pos rfl, pkc_1 n]; omega
theorem rkR_b {a : Int} : 20 ≤ rkR a := by unfold rkR; (repeat' split) <;> omega
theorem rkA_b {a : Int} : 20 ≤ rkA a := by unfold rkA; (repeat' split) <;> omega
/-- what a kind that shows no place of a number is spelled as -/
def sk (l : List (Int × Int)) : Prop := ∀ p ∈ l, ¬ p.1 = 1 ∧ ¬ p.1 = 2 ∧ ¬ p.1 = 3 ∧ ¬ p.1 = 4 ∧ ¬ p.1 = 7 ∧ ¬ p.1 = 8
theorem sk_1 {k c : Int} (h : ¬ k = 1 ∧ ¬ k = 2 ∧ ¬ k = 3 ∧ ¬ k = 4 ∧ ¬ k = 7 ∧ ¬ k = 8) : sk [(k, c)] := fun p hp => by
  rw [List.mem_singleton] at hp; subst hp; exact h
theorem sk_p {k : Int} {q : Int32} (h : ¬ k = 1 ∧ ¬ k = 2 ∧ ¬ k = 3 ∧ ¬ k = 4 ∧ ¬ k = 7 ∧ ¬ k = 8) : ∀ n : Nat, sk (pkc k q n)
  | 0 => fun p hp => by cases hp
  | n + 1 => fun p hp => by
    rcases List.mem_cons.1 hp with e | e
    · subst e; exact h
    · exact sk_p h n p e
theorem rx_k {k a b : Int} {q : Int32} (h1 : ¬ k = 1) (h2 : ¬ k = 2) (h3 : ¬ k = 3) (h4 : ¬ k = 4) (h7 : ¬ k = 7) (h8 : ¬ k = 8) : sk (rx k a b q) := by
  unfold rx
  rw [if_neg h1, if_neg h2, if_neg h3, if_neg h4, if_neg h7, if_neg h8]
  split
  · exact sk_1 (by decide)
  split
  · exact sk_1 (by decide)
  split
  · exact sk_1 (by decide)
  split
  · intro p hp
    rcases List.mem_cons.1 hp with e | e
    · subst e; decide
    · refine sk_p ?_ _ p e
      split <;> decide
  split
  · exact sk_1 (by have := rkR_b (a := a); omega)
  split
  · exact sk_1 (by have := rkA_b (a := a); omega)
  split
  · exact sk_1 (by decide)
  split
  · exact sk_1 (by decide)
  split
  · exact sk_1 (by decide)
  split
  · exact sk_1 (by decide)
  · intro p hp; cases hp
theorem sk_c {k : Int} (hk : k = 2 ∨ k = 8) : ∀ l : List (Int × Int), sk l → cK k l = 0
  | [], _ => rfl
  | p :: l, h => by
    have hp := h p (List.mem_cons_self ..)
    show (if p.1 = k then 1 else 0) + cK k l = 0
    rw [if_neg (by omega), sk_c hk l (fun q hq => h q (List.mem_cons_of_mem _ hq))]; rfl
theorem sk_n {D : Int → Int} {w d W th E : Int} {Q : Int → Int} {q P a b p : Int} {r : List (Int × Int)} : ∀ l : List (Int × Int), sk l → nrun (nEv D w d W th E Q q P) a b p (l ++ r) = nrun (nEv D w d W th E Q q P) a b p r
  | [], _ => rfl
  | x :: l, h => by
    have hp := h x (List.mem_cons_self ..)
    show nrun _ a b p ((x.1, x.2) :: (l ++ r)) = _
    rw [nrun_k hp.2.1 hp.2.2.1 hp.2.2.2.2.2, nEv_n hp.1 hp.2.1 hp.2.2.1 hp.2.2.2.1 hp.2.2.2.2.1 hp.2.2.2.2.2, sk_n l (fun q hq => h q (List.mem_cons_of_mem _ hq))]; rfl
/-- no place of the whole part from x on -/
def rno (K : Nat → Int32) (x e : Int) : Prop := ∀ j : Nat, x ≤ (j : Int) → (j : Int) < e → ¬ (K j).toInt = 2 ∧ ¬ (K j).toInt = 4 ∧ ¬ (K j).toInt = 8
theorem rno_m {K : Nat → Int32} {x y e : Int} (h : rno K x e) (hy : x ≤ y) : rno K y e := fun j h0 h1 => h j (by omega) h1
theorem rx_2 {k a b : Int} {q : Int32} (h2 : ¬ k = 2) : cK 2 (rx k a b q) = 0 := by
  by_cases h1 : k = 1
  · subst h1; rfl
  by_cases h3 : k = 3
  · subst h3; rfl
  by_cases h4 : k = 4
  · subst h4; rfl
  by_cases h7 : k = 7
  · subst h7; rfl
  by_cases h8 : k = 8
  · subst h8
    show (0 : Int) + cK 2 (pkc 8 q b.toNat) = 0
    rw [pkc_0 (by decide)]; rfl
  · exact sk_c (Or.inl rfl) _ (rx_k h1 h2 h3 h4 h7 h8)
theorem rx_8 {k a b : Int} {q : Int32} (h8 : ¬ k = 8) : cK 8 (rx k a b q) = 0 := by
  by_cases h1 : k = 1
  · subst h1; rfl
  by_cases h2 : k = 2
  · subst h2; rfl
  by_cases h3 : k = 3
  · subst h3; rfl
  by_cases h4 : k = 4
  · subst h4; rfl
  by_cases h7 : k = 7
  · subst h7; rfl
  · exact sk_c (Or.inr rfl) _ (rx_k h1 h2 h3 h4 h7 h8)
theorem rno_c {K A B Q : Nat → Int32} {e : Int} : ∀ (n : Nat) (x : Int), 0 ≤ x → (e - x).toNat = n → rno K x e → cK 2 (rs K A B Q x e) = 0 ∧ cK 8 (rs K A B Q x e) = 0
  | 0, x, _, hn, _ => by rw [rs_x (by omega)]; exact ⟨rfl, rfl⟩
  | n + 1, x, h0, hn, h => by
    have ih := rno_c (A := A) (B := B) (Q := Q) n (x + 1) (by omega) (by omega) (rno_m h (by omega))
    have hx := h x.toNat (by omega) (by omega)
    rw [rs_s h0 (by omega) rfl, cK_a, cK_a, rx_2 hx.1, rx_8 hx.2.2, ih.1, ih.2]; exact ⟨rfl, rfl⟩
def iab (E : Int) : Int := if E < 0 then -E else E
def nd3 (v : Int) : Int := if v < 1 then 0 else if v < 10 then 1 else if v < 100 then 2 else 3
theorem nd3_v {v n : Int} (h : dnc v n) (h0 : 0 ≤ v) (h1 : v ≤ 999) : n = nd3 v := by
  refine dnc_det h ?_
  unfold nd3
  split
  · exact Or.inl ⟨by omega, rfl⟩
  split
  · exact Or.inr ⟨by omega, by decide, by show 1 ≤ v; omega, by show v < 10; omega⟩
  split
  · exact Or.inr ⟨by omega, by decide, by show 10 ≤ v; omega, by show v < 100; omega⟩
  · exact Or.inr ⟨by omega, by decide, by show 100 ≤ v; omega, by show v < 1000; omega⟩
/-- what a number with a power E puts for an item -/
def nE (D : Int → Int) (w d W th E P : Int) : Int → Int → Int → List Int := nEv D w d W th E (dgt (iab E)) (nd3 (iab E)) P
def rW (g : Nat → Int32) (wh : Int) (D : Int → Int) (w : Int) : Prop := wh = w ∧ 0 ≤ w ∧ w ≤ 480 ∧ (∀ j : Nat, (j : Int) < w → (g j).toInt = D j) ∧ ∀ p : Int, 0 ≤ D p ∧ D p ≤ 9
def pwo (K B : Nat → Int32) (x e P : Int) : Prop := ∀ j : Nat, x ≤ (j : Int) → (j : Int) < e → (K j).toInt = 8 → (B j).toInt = P ∧ 0 ≤ P ∧ P ≤ 5 ∧ rno K ((j : Int) + 1) e
def plG (f : Nat → Int32) (n : Int) (g : Nat → Int32) (m : Int) (wf : Nat → Int32) (wh : Int) (K A B Q : Nat → Int32) (D : Int → Int) (w d W th E P a b x e : Int) (T : List Int) : Prop :=
  gR f n g m (nrun (nE D w d W th E P) a b (cK 8 (rs K A B Q x e)) (rs K A B Q x e)) T ∧ (0 ≤ x ∧ a = cK 2 (rs K A B Q x e)) ∧ (rW wf wh D w ∨ rno K x e) ∧ pwo K B x e P
section
variable {f g h : Nat → Int32} {n m m2 m3 : Int} {wf : Nat → Int32} {wh wh2 : Int} {K A B Q : Nat → Int32} {D : Int → Int} {w d W th E P a b y e : Int} {x : Int32} {T : List Int}
theorem plG_x (H : plG f n g m wf wh K A B Q D w d W th E P a b y e T) (hy : e ≤ y) (hm : m2 = m) : pR f n g m2 T := by
  have h1 := H.1
  rw [rs_x hy] at h1
  exact pR_e (gR_x h1 rfl) rfl hm
theorem plG_p (H : plG f n g m wf wh K A B Q D w d W th E P a b y e T) : 0 ≤ y ∧ 0 ≤ a := ⟨H.2.1.1, by rw [H.2.1.2]; exact cK_0 _⟩
theorem rW_m (H : rW wf wh D w ∨ rno K y e) {z : Int} (hz : y ≤ z) : rW wf wh D w ∨ rno K z e := H.imp id (fun c => rno_m c hz)
theorem pwo_m (H : pwo K B y e P) {z : Int} (hz : y ≤ z) : pwo K B z e P := fun j h0 h1 h2 => H j (by omega) h1 h2
/-- an item that is spelled (k, c) and is no place -/
theorem plG_c {k c : Int} (H : plG f n g m wf wh K A B Q D w d W th E P a b x.toInt e T) (hx : ¬ e ≤ x.toInt) (hr : rx (K x.toInt.toNat).toInt (A x.toInt.toNat).toInt (B x.toInt.toNat).toInt (Q x.toInt.toNat) = [(k, c)]) (k2 : ¬ k = 2) (k3 : ¬ k = 3) (k8 : ¬ k = 8) (hA : pR g m h m2 (nE D w d W th E P k c 0)) (hy : y = x.toInt + 1) (hm : m3 = m2) (hw : wh2 = wh) : plG f n h m3 wf wh2 K A B Q D w d W th E P a b y e T := by
  obtain ⟨h1, h2, h3, h4⟩ := H
  subst hm; subst hw
  rw [rs_s h2.1 (by omega) hy, hr] at h1 h2
  have c2 : cK 2 ([(k, c)] ++ rs K A B Q y e) = cK 2 (rs K A B Q y e) := by rw [cK_a]; show (if k = 2 then 1 else 0) + 0 + _ = _; rw [if_neg k2]; omega
  have c8 : cK 8 ([(k, c)] ++ rs K A B Q y e) = cK 8 (rs K A B Q y e) := by rw [cK_a]; show (if k = 8 then 1 else 0) + 0 + _ = _; rw [if_neg k8]; omega
  rw [c8] at h1; rw [c2] at h2
  exact ⟨gR_s h1 hA (nrun_k k2 k3 k8), ⟨by omega, h2.2⟩, rW_m h3 (by omega), pwo_m h4 (by omega)⟩
theorem plG_1 (H : plG f n g m wf wh K A B Q D w d W th E P a b x.toInt e T) (hx : ¬ e ≤ x.toInt) (hk : (K x.toNatClampNeg).toInt = 1) (hA : pR g m h m2 [(A x.toNatClampNeg).toInt]) (hy : y = x.toInt + 1) (hm : m3 = m2) (hw : wh2 = wh) : plG f n h m3 wf wh2 K A B Q D w d W th E P a b y e T :=
  plG_c H hx (by rw [show (K x.toInt.toNat).toInt = 1 from hk]; rfl) (by decide) (by decide) (by decide) hA hy hm hw
theorem plG_7 (H : plG f n g m wf wh K A B Q D w d W th E P a b x.toInt e T) (hx : ¬ e ≤ x.toInt) (hk : (K x.toNatClampNeg).toInt = 7) (hA : pR g m h m2 [37]) (hy : y = x.toInt + 1) (hm : m3 = m2) (hw : wh2 = wh) : plG f n h m3 wf wh2 K A B Q D w d W th E P a b y e T :=
  plG_c H hx (by rw [show (K x.toInt.toNat).toInt = 7 from hk]; rfl) (by decide) (by decide) (by decide) hA hy hm hw
theorem plG_4 (H : plG f n g m wf wh K A B Q D w d W th E P a b x.toInt e T) (hx : ¬ e ≤ x.toInt) (hk : (K x.toNatClampNeg).toInt = 4) (hA : pR g m h m2 (nPt D w W)) (hy : y = x.toInt + 1) (hm : m3 = m2) (hw : wh2 = wh) : plG f n h m3 wf wh2 K A B Q D w d W th E P a b y e T :=
  plG_c H hx (by rw [show (K x.toInt.toNat).toInt = 4 from hk]; rfl) (by decide) (by decide) (by decide) hA hy hm hw
theorem plG_w (H : plG f n g m wf wh K A B Q D w d W th E P a b x.toInt e T) (hx : ¬ e ≤ x.toInt) (hk : (K x.toNatClampNeg).toInt = 2 ∨ (K x.toNatClampNeg).toInt = 4) : rW wf wh D w := by
  refine H.2.2.1.resolve_right (fun c => ?_)
  have h0 := H.2.1.1
  have := c x.toNatClampNeg (by rw [zcl]; omega) (by rw [zcl]; omega)
  omega
theorem plG_2 {a2 c2 fst : Int} (H : plG f n g m wf wh K A B Q D w d W th E P a b x.toInt e T) (hx : ¬ e ≤ x.toInt) (hk : (K x.toNatClampNeg).toInt = 2) (hA : pR g m h m2 (pls (whD wf) wh (A x.toNatClampNeg).toInt th a2 fst)) (ha : a2 = a - 1) (hc : c2 = a2) (hf : (¬ a2 = W - 1 ∧ fst = 0) ∨ (a2 = W - 1 ∧ fst = 1)) (hy : y = x.toInt + 1) (hm : m3 = m2) (hw : wh2 = wh) : plG f n h m3 wf wh2 K A B Q D w d W th E P c2 b y e T := by
  have hW := plG_w H hx (Or.inl hk)
  obtain ⟨h1, h2, h3, h4⟩ := H
  subst hm; subst hw; subst hc
  have hr : rx (K x.toInt.toNat).toInt (A x.toInt.toNat).toInt (B x.toInt.toNat).toInt (Q x.toInt.toNat) = [(2, (A x.toInt.toNat).toInt)] := by rw [show (K x.toInt.toNat).toInt = 2 from hk]; rfl
  rw [rs_s h2.1 (by omega) hy, hr] at h1 h2
  have e2 : cK 2 ([(2, (A x.toInt.toNat).toInt)] ++ rs K A B Q y e) = 1 + cK 2 (rs K A B Q y e) := by rw [cK_a]; rfl
  have e8 : cK 8 ([(2, (A x.toInt.toNat).toInt)] ++ rs K A B Q y e) = cK 8 (rs K A B Q y e) := by rw [cK_a]; exact Int.zero_add _
  rw [e8] at h1; rw [e2] at h2
  have q0 := cK_0 (k := 2) (rs K A B Q y e)
  refine ⟨gR_s h1 hA ?_, ⟨by omega, by omega⟩, rW_m h3 (by omega), pwo_m h4 (by omega)⟩
  rw [show ([(2, (A x.toInt.toNat).toInt)] ++ rs K A B Q y e) = (2, (A x.toInt.toNat).toInt) :: rs K A B Q y e from rfl, nrun_2 ha]
  congr 1
  show pls D w _ th c2 (if c2 = W - 1 then 1 else 0) = pls (whD wf) wh2 _ th c2 fst
  obtain ⟨w1, _, _, w4, _⟩ := hW
  subst w1
  have ef : (if c2 = W - 1 then 1 else 0) = fst := by
    rcases hf with ⟨p, q⟩ | ⟨p, q⟩
    · rw [if_neg p, q]
    · rw [if_pos p, q]
  rw [ef]
  refine pls_c (by omega) (fun q p0 p1 => ?_)
  have := w4 q.toNat (by omega)
  unfold whD
  rw [this]; congr 1; omega
theorem plG_3 {b2 b3 : Int} (H : plG f n g m wf wh K A B Q D w d W th E P a b x.toInt e T) (hx : ¬ e ≤ x.toInt) (hk : (K x.toNatClampNeg).toInt = 3) (hA : pR g m h m2 (nDc D d (A x.toNatClampNeg).toInt b2)) (hb : b2 = b + 1) (hb3 : b3 = b2) (hy : y = x.toInt + 1) (hm : m3 = m2) (hw : wh2 = wh) : plG f n h m3 wf wh2 K A B Q D w d W th E P a b3 y e T := by
  subst hb3
  obtain ⟨h1, h2, h3, h4⟩ := H
  subst hm; subst hw
  have hr : rx (K x.toInt.toNat).toInt (A x.toInt.toNat).toInt (B x.toInt.toNat).toInt (Q x.toInt.toNat) = [(3, (A x.toInt.toNat).toInt)] := by rw [show (K x.toInt.toNat).toInt = 3 from hk]; rfl
  rw [rs_s h2.1 (by omega) hy, hr] at h1 h2
  have e2 : cK 2 ([(3, (A x.toInt.toNat).toInt)] ++ rs K A B Q y e) = cK 2 (rs K A B Q y e) := by rw [cK_a]; exact Int.zero_add _
  have e8 : cK 8 ([(3, (A x.toInt.toNat).toInt)] ++ rs K A B Q y e) = cK 8 (rs K A B Q y e) := by rw [cK_a]; exact Int.zero_add _
  rw [e8] at h1; rw [e2] at h2
  exact ⟨gR_s h1 hA (nrun_3 hb), ⟨by omega, h2.2⟩, rW_m h3 (by omega), pwo_m h4 (by omega)⟩
theorem plG_n (H : plG f n g m wf wh K A B Q D w d W th E P a b x.toInt e T) (hx : ¬ e ≤ x.toInt) (k1 : hN (K x.toNatClampNeg).toInt 1) (k2 : hN (K x.toNatClampNeg).toInt 2) (k3 : hN (K x.toNatClampNeg).toInt 3) (k4 : hN (K x.toNatClampNeg).toInt 4) (k7 : hN (K x.toNatClampNeg).toInt 7) (k8 : hN (K x.toNatClampNeg).toInt 8) (hy : y = x.toInt + 1) (hm : m3 = m) (hw : wh2 = wh) : plG f n g m3 wf wh2 K A B Q D w d W th E P a b y e T := by
  obtain ⟨h1, h2, h3, h4⟩ := H
  subst hm; subst hw
  have hr : sk (rx (K x.toInt.toNat).toInt (A x.toInt.toNat).toInt (B x.toInt.toNat).toInt (Q x.toInt.toNat)) := rx_k k1 k2 k3 k4 k7 k8
  rw [rs_s h2.1 (by omega) hy] at h1 h2
  rw [cK_a, sk_c (Or.inr rfl) _ hr, Int.zero_add] at h1
  rw [cK_a, sk_c (Or.inl rfl) _ hr, Int.zero_add] at h2
  refine ⟨gR_e h1 (sk_n _ hr) rfl, ⟨by omega, h2.2⟩, rW_m h3 (by omega), pwo_m h4 (by omega)⟩
theorem plG_5 (H : plG f n g m wf wh K A B Q D w d W th E P a b x.toInt e T) (hx : ¬ e ≤ x.toInt) (hk : (K x.toNatClampNeg).toInt = 5) (hy : y = x.toInt + 1) (hm : m3 = m) (hw : wh2 = wh) : plG f n g m3 wf wh2 K A B Q D w d W th E P a b y e T := plG_n H hx (by rw [hk]; exact hN_i (by decide)) (by rw [hk]; exact hN_i (by decide)) (by rw [hk]; exact hN_i (by decide)) (by rw [hk]; exact hN_i (by decide)) (by rw [hk]; exact hN_i (by decide)) (by rw [hk]; exact hN_i (by decide)) hy hm hw
theorem plG_6 (H : plG f n g m wf wh K A B Q D w d W th E P a b x.toInt e T) (hx : ¬ e ≤ x.toInt) (hk : (K x.toNatClampNeg).toInt = 6) (hy : y = x.toInt + 1) (hm : m3 = m) (hw : wh2 = wh) : plG f n g m3 wf wh2 K A B Q D w d W th E P a b y e T := plG_n H hx (by rw [hk]; exact hN_i (by decide)) (by rw [hk]; exact hN_i (by decide)) (by rw [hk]; exact hN_i (by decide)) (by rw [hk]; exact hN_i (by decide)) (by rw [hk]; exact hN_i (by decide)) (by rw [hk]; exact hN_i (by decide)) hy hm hw
theorem pkl_n {v : Int} {F : Int → Int} {q : Int32} {r : List (Int × Int)} {a b P : Int} {u : Int} (hr : cK 8 r = 0) : ∀ k : Nat, nrun (nEv D w d W th E F u P) a b k (pkc 8 q k ++ r) = pkl F u q P k ++ nrun (nEv D w d W th E F u P) a b 0 r
  | 0 => rfl
  | k + 1 => by
    show nrun _ a b ((k + 1 : Nat) : Int) ((8, pch q k) :: (pkc 8 q k ++ r)) = (pls F u (pch q k) 0 k (if (k : Int) = P - 1 then 1 else 0) ++ pkl F u q P k) ++ _
    rw [nrun_8 (p2 := (k : Int)) (by omega), pkl_n (v := v) hr k, ← List.append_assoc]
    rfl
theorem pkl_cg {F G : Int → Int} {u : Int} {q : Int32} {P : Int} (hc : ∀ p : Int, 0 ≤ p → p < u → F p = G p) : ∀ k : Nat, pkl F u q P k = pkl G u q P k
  | 0 => rfl
  | k + 1 => by
    show pls F u _ 0 k _ ++ pkl F u q P k = pls G u _ 0 k _ ++ pkl G u q P k
    rw [pkl_cg hc k, pls_c (by omega) hc]
theorem plG_8 {wf2 : Nat → Int32} {X : List Int} {v : Int} (H : plG f n g m wf wh K A B Q D w d W th E P a b x.toInt e T) (hx : ¬ e ≤ x.toInt) (hk : (K x.toNatClampNeg).toInt = 8) (hA : pR g m h m2 (X ++ pkl (whD wf2) wh2 (Q x.toNatClampNeg) (B x.toNatClampNeg).toInt (B x.toNatClampNeg).toInt.toNat)) (hX : X = nSg E (A x.toNatClampNeg).toInt) (hv : v = iab E) (hE : v ≤ 999) (hd : dnc v wh2) (hD : ∀ j : Nat, (j : Int) < wh2 → (wf2 j).toInt = dgt v j) (hy : y = x.toInt + 1) (hm : m3 = m2) {wh3 : Int} : plG f n h m3 wf2 wh3 K A B Q D w d W th E P a b y e T := by
  obtain ⟨h1, h2, h3, h4⟩ := H
  subst hm
  have hp := h4 x.toNatClampNeg (by rw [zcl]; omega) (by rw [zcl]; omega) hk
  have hr : rx (K x.toInt.toNat).toInt (A x.toInt.toNat).toInt (B x.toInt.toNat).toInt (Q x.toInt.toNat) = (7, (A x.toInt.toNat).toInt) :: pkc 8 (Q x.toInt.toNat) (B x.toInt.toNat).toInt.toNat := by rw [show (K x.toInt.toNat).toInt = 8 from hk]; rfl
  have hno : rno K y e := by rw [hy]; have := hp.2.2.2; rw [zcl, show ((x.toInt.toNat : Nat) : Int) = x.toInt by omega] at this; exact this
  have hc := rno_c (A := A) (B := B) (Q := Q) (e - y).toNat y (by omega) rfl hno
  have hB : (B x.toInt.toNat).toInt = P := hp.1
  rw [rs_s h2.1 (by omega) hy, hr, hB] at h1 h2
  have c8 : cK 8 ((7, (A x.toInt.toNat).toInt) :: pkc 8 (Q x.toInt.toNat) P.toNat ++ rs K A B Q y e) = ((P.toNat : Nat) : Int) := by
    show (0 : Int) + cK 8 (pkc 8 (Q x.toInt.toNat) P.toNat ++ rs K A B Q y e) = _
    rw [cK_a, pkc_1, hc.2]; omega
  have c2 : cK 2 ((7, (A x.toInt.toNat).toInt) :: pkc 8 (Q x.toInt.toNat) P.toNat ++ rs K A B Q y e) = cK 2 (rs K A B Q y e) := by
    show (0 : Int) + cK 2 (pkc 8 (Q x.toInt.toNat) P.toNat ++ rs K A B Q y e) = _
    rw [cK_a, pkc_0 (by decide)]; omega
  rw [c8] at h1; rw [c2] at h2
  have v0 : 0 ≤ v := by rw [hv]; unfold iab; split <;> omega
  have hu := nd3_v hd v0 hE
  refine ⟨gR_s h1 hA ?_, ⟨by omega, h2.2⟩, Or.inr hno, pwo_m h4 (by omega)⟩
  rw [hc.2, zcl, hB, hX]
  show nrun _ a b _ ((7, (A x.toInt.toNat).toInt) :: (pkc 8 (Q x.toInt.toNat) P.toNat ++ rs K A B Q y e)) = _
  rw [nrun_k (by decide) (by decide) (by decide)]
  unfold nE
  rw [pkl_n (v := v) hc.2 P.toNat, ← hv, ← hu]
  rw [pkl_cg (F := whD wf2) (G := dgt v) (u := wh2) (fun p p0 p1 => ?_), List.append_assoc]
  · rfl
  · have := hD p.toNat (by omega)
    unfold whD; rw [this]; congr 1; omega
end
