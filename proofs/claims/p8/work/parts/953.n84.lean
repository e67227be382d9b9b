/-! raw items spelled, kept -/
def rxF (k a b : Int) (q : Int32) : List (Int × Int) := if 1 ≤ k ∧ k ≤ 16 then rx k a b q else [(0, 0)]
def fR : List (Int × Int × Int × Int32) → List (Int × Int)
  | [] => []
  | p :: r => rxF p.1 p.2.1 p.2.2.1 p.2.2.2 ++ fR r
theorem fR_a : ∀ R S : List (Int × Int × Int × Int32), fR (R ++ S) = fR R ++ fR S
  | [], _ => rfl
  | p :: R, S => by
    show rxF p.1 p.2.1 p.2.2.1 p.2.2.2 ++ fR (R ++ S) = rxF p.1 p.2.1 p.2.2.1 p.2.2.2 ++ fR R ++ fR S
    rw [fR_a R S, List.append_assoc]
theorem fR_1 {k a b : Int} {q : Int32} : fR [(k, a, b, q)] = rxF k a b q := List.append_nil _
def c7 : List (Int × Int × Int × Int32) → Int
  | [] => 0
  | p :: r => (if p.1 = 7 then 1 else 0) + c7 r
theorem c7_a : ∀ R S : List (Int × Int × Int × Int32), c7 (R ++ S) = c7 R + c7 S
  | [], _ => (Int.zero_add _).symm
  | p :: R, S => by
    show (if p.1 = 7 then 1 else 0) + c7 (R ++ S) = (if p.1 = 7 then 1 else 0) + c7 R + c7 S
    rw [c7_a R S, Int.add_assoc]
def rIt (kd : Int) (p : Int × Int × Int × Int32) : Prop := p.1 = 0 ∨ p.1 = 1 ∨ (kd = 2 ∧ 2 ≤ p.1 ∧ p.1 ≤ 7) ∨ (kd = 5 ∧ ((p.1 = 11 ∧ okR p.2.1 p.2.2.1 ∧ (kRw p.2.1 ∨ p.2.1 = 110)) ∨ (p.1 = 12 ∧ 1 ≤ p.2.2.1 ∧ p.2.2.1 ≤ 2 ∧ kHms p.2.1) ∨ p.1 = 13 ∨ p.1 = 14 ∨ (p.1 = 15 ∧ 1 ≤ p.2.1 ∧ p.2.1 ≤ 3))) ∨ (kd = 6 ∧ p.1 = 16)
def rWA (kd : Int) : List (Int × Int × Int × Int32) → Prop
  | [] => True
  | p :: r => rIt kd p ∧ rWA kd r
theorem rWA_a {kd : Int} : ∀ R S : List (Int × Int × Int × Int32), rWA kd R → rWA kd S → rWA kd (R ++ S)
  | [], _, _, h => h
  | _ :: R, S, h, k => ⟨h.1, rWA_a R S h.2 k⟩
/-- whole places, numerators, nothing of a hundred -/
def rW4 : List (Int × Int × Int × Int32) → Prop
  | [] => True
  | p :: r => (p.1 = 9 ∨ (0 ≤ p.1 ∧ p.1 ≤ 6)) ∧ rW4 r
theorem rW4_a : ∀ R S : List (Int × Int × Int × Int32), rW4 R → rW4 S → rW4 (R ++ S)
  | [], _, _, h => h
  | _ :: R, S, h, k => ⟨h.1, rW4_a R S h.2 k⟩
theorem c7_0 : ∀ R : List (Int × Int × Int × Int32), 0 ≤ c7 R
  | [] => Int.le_refl _
  | p :: R => by
    have := c7_0 R
    show 0 ≤ (if p.1 = 7 then 1 else 0) + c7 R
    split <;> omega
theorem rW4_2 : ∀ R : List (Int × Int × Int × Int32), rWA 2 R → c7 R = 0 → rW4 R
  | [], _, _ => True.intro
  | p :: R, h, h7 => by
    have h7 : (if p.1 = 7 then 1 else 0) + c7 R = 0 := h7
    have g := c7_0 R
    have hp := h.1
    unfold rIt at hp
    by_cases c : p.1 = 7
    · rw [if_pos c] at h7; omega
    · rw [if_neg c] at h7
      exact ⟨by omega, rW4_2 R h.2 (by omega)⟩
/-- what stands behind a stroke -/
def sK (d b : Int) (q : Int32) : Prop := (d = 1 ∧ 1 ≤ gvF 0 (pkc 12 q b.toNat) ∧ gvF 0 (pkc 12 q b.toNat) ≤ 999 ∧ b = nd3 (gvF 0 (pkc 12 q b.toNat))) ∨ (d = 0 ∧ 1 ≤ b ∧ b ≤ 3)
def rOk (kd : Int) (R : List (Int × Int × Int × Int32)) : Prop :=
  ((kd = 1 ∨ kd = 2 ∨ kd = 5 ∨ kd = 6) ∧ rWA kd R) ∨ (kd = 3 ∧ ∃ (R1 R2 : List (Int × Int × Int × Int32)) (a b : Int) (q : Int32), R = R1 ++ (8, a, b, q) :: R2 ∧ rWA 2 R1 ∧ (0 ≤ b ∧ b ≤ 3) ∧ rWA 1 R2) ∨ (kd = 4 ∧ ∃ (R1 R2 : List (Int × Int × Int × Int32)) (d b : Int) (q : Int32), R = R1 ++ (10, d, b, q) :: R2 ∧ rW4 R1 ∧ sK d b q ∧ rWA 1 R2)
def rW1 : List (Int × Int × Int × Int32) → Prop
  | [] => True
  | p :: r => (p.1 = 0 ∨ p.1 = 1) ∧ rW1 r
theorem rW1_A {kd : Int} : ∀ R : List (Int × Int × Int × Int32), rW1 R → rWA kd R
  | [], _ => True.intro
  | _ :: R, h => ⟨by rcases h.1 with c | c; exact Or.inl c; exact Or.inr (Or.inl c), rW1_A R h.2⟩
theorem rOk_1 {kd : Int} {R X : List (Int × Int × Int × Int32)} (h : rOk kd R) (hX : rW1 X) : rOk kd (R ++ X) := by
  rcases h with ⟨hk, h⟩ | ⟨hk, R1, R2, a, b, q, e, h1, h2, h3⟩ | ⟨hk, R1, R2, d, b, q, e, h1, h2, h3⟩
  · exact Or.inl ⟨hk, rWA_a _ _ h (rW1_A _ hX)⟩
  · exact Or.inr (Or.inl ⟨hk, R1, R2 ++ X, a, b, q, by rw [e, List.append_assoc]; rfl, h1, h2, rWA_a _ _ h3 (rW1_A _ hX)⟩)
  · exact Or.inr (Or.inr ⟨hk, R1, R2 ++ X, d, b, q, by rw [e, List.append_assoc]; rfl, h1, h2, rWA_a _ _ h3 (rW1_A _ hX)⟩)
theorem rOk_w {kd : Int} {R X : List (Int × Int × Int × Int32)} (h : rOk kd R) (hk : kd = 1 ∨ kd = 2 ∨ kd = 5 ∨ kd = 6) (hX : rWA kd X) : rOk kd (R ++ X) := by
  rcases h with ⟨_, h⟩ | ⟨e, _⟩ | ⟨e, _⟩
  · exact Or.inl ⟨hk, rWA_a _ _ h hX⟩
  · omega
  · omega
theorem rOk_3 {R : List (Int × Int × Int × Int32)} {a b : Int} {q : Int32} (h : rOk 2 R) (hb : 0 ≤ b ∧ b ≤ 3) : rOk 3 (R ++ [(8, a, b, q)]) := by
  rcases h with ⟨_, h⟩ | ⟨e, _⟩ | ⟨e, _⟩
  · exact Or.inr (Or.inl ⟨rfl, R, [], a, b, q, rfl, h, hb, True.intro⟩)
  · exact absurd e (by decide)
  · exact absurd e (by decide)
/-- the items of a section of the reference, as L -/
def rinv (K A B Q : Nat → Int32) (f n kd p : Int) (L : List (Int × Int)) (pc : Int) : Prop := fR (rvs K A B Q (160 + f) (160 + n)) = exR L ∧ rOk kd (rvs K A B Q (160 + f) (160 + n)) ∧ c7 (rvs K A B Q (160 + f) (160 + n)) = pc ∧ (p = 0 → pc = 0)
def rstp (K A B Q : Nat → Int32) (n : Int) (K2 A2 B2 Q2 : Nat → Int32) (n2 f kd kd2 p p2 : Int) (X : List (Int × Int)) (d : Int) : Prop := (∀ j : Nat, (j : Int) < 160 + f → sm4 K A B Q K2 A2 B2 Q2 j) ∧ ∀ (L : List (Int × Int)) (pc : Int), rinv K A B Q f n kd p L pc → rinv K2 A2 B2 Q2 f n2 kd2 p2 (stL kd kd2 L X) (pc + d)
theorem rs_a {K A B Q K2 A2 B2 Q2 : Nat → Int32} {n n2 f kd kd2 p p2 d : Int} {R : List (Int × Int × Int × Int32)} {X : List (Int × Int)} (hA : apR K A B Q n K2 A2 B2 Q2 n2 R) (hf : 0 ≤ f ∧ f ≤ n) (hX : fR R = exR X) (hk : ¬ (kd = 2 ∧ kd2 = 4)) (h7 : c7 R = d) (hp : p2 = 0 → p = 0 ∧ d = 0) (hW : ∀ S, rOk kd S → rOk kd2 (S ++ R)) : rstp K A B Q n K2 A2 B2 Q2 n2 f kd kd2 p p2 X d := by
  refine ⟨fun j hj => hA.2.1 j (by omega), fun L pc h => ?_⟩
  obtain ⟨h1, h2, h3, h4⟩ := h
  have e := apR_cs (a := 160 + f) hA (by omega) (by omega)
  rw [stL_n hk]
  unfold rinv
  rw [e]
  refine ⟨by rw [fR_a, h1, hX, exR_a], hW _ h2, by rw [c7_a, h3, h7], fun q => ?_⟩
  have := hp q
  have := h4 this.1
  omega
/-- numerators -/
theorem rv_up {K g A B Q : Nat → Int32} : ∀ (n i : Nat), (∀ j : Nat, i ≤ j → j < i + n → (K j).toInt = 2 ∧ (g j).toInt = 9) → a2 (fR (rv K A B Q i n)) = true ∧ fR (rv g A B Q i n) = m9 (fR (rv K A B Q i n)) ∧ rW4 (rv g A B Q i n) ∧ c7 (rv g A B Q i n) = c7 (rv K A B Q i n)
  | 0, _, _ => ⟨rfl, rfl, True.intro, rfl⟩
  | n + 1, i, h => by
    obtain ⟨h1, h2, h3, h4⟩ := rv_up n (i + 1) (fun j p q => h j (by omega) (by omega))
    obtain ⟨k1, k2⟩ := h i (by omega) (by omega)
    have eK : rxF (K i).toInt (A i).toInt (B i).toInt (Q i) = [(2, (A i).toInt)] := by rw [k1]; rfl
    have eg : rxF (g i).toInt (A i).toInt (B i).toInt (Q i) = [(9, (A i).toInt)] := by rw [k2]; rfl
    refine ⟨?_, ?_, ⟨Or.inl k2, h3⟩, ?_⟩
    · show a2 (rxF (K i).toInt (A i).toInt (B i).toInt (Q i) ++ fR (rv K A B Q (i + 1) n)) = true
      rw [eK]
      show ((2 : Int) == 2 && a2 (fR (rv K A B Q (i + 1) n))) = true
      rw [h1]; rfl
    · show rxF (g i).toInt (A i).toInt (B i).toInt (Q i) ++ fR (rv g A B Q (i + 1) n) = m9 (rxF (K i).toInt (A i).toInt (B i).toInt (Q i) ++ fR (rv K A B Q (i + 1) n))
      rw [eK, eg, h2]; rfl
    · show (if (g i).toInt = 7 then 1 else 0) + c7 (rv g A B Q (i + 1) n) = (if (K i).toInt = 7 then 1 else 0) + c7 (rv K A B Q (i + 1) n)
      rw [h4, if_neg (by omega), if_neg (by omega)]
theorem rWA_l {kd : Int} : ∀ R S : List (Int × Int × Int × Int32), rWA kd (R ++ S) → rWA kd R ∧ rWA kd S
  | [], _, h => ⟨True.intro, h⟩
  | _ :: R, S, h => by
    obtain ⟨a, b⟩ := rWA_l R S h.2
    exact ⟨⟨h.1, a⟩, b⟩
theorem rx2_s {p : Int × Int × Int × Int32} (h : rIt 2 p) (hk : ¬ p.1 = 2) : ∃ c : Int × Int, rxF p.1 p.2.1 p.2.2.1 p.2.2.2 = [c] ∧ ¬ c.1 = 2 := by
  obtain ⟨k, a, b, q⟩ := p
  have hk : ¬ k = 2 := hk
  have h : k = 0 ∨ k = 1 ∨ k = 3 ∨ k = 4 ∨ k = 5 ∨ k = 6 ∨ k = 7 := by
    rcases h with h | h | h | h | h
    · exact Or.inl h
    · exact Or.inr (Or.inl h)
    · have h : (2 : Int) = 2 ∧ 2 ≤ k ∧ k ≤ 7 := h
      omega
    · exact absurd h.1 (by decide)
    · exact absurd h.1 (by decide)
  rcases h with h | h | h | h | h | h | h <;> subst h
  · exact ⟨(0, 0), rfl, by decide⟩
  · exact ⟨(1, a), rfl, show ¬ (1 : Int) = 2 by decide⟩
  · exact ⟨(3, a), rfl, show ¬ (3 : Int) = 2 by decide⟩
  · exact ⟨(4, 46), rfl, by decide⟩
  · exact ⟨(6, 44), rfl, by decide⟩
  · exact ⟨(5, 44), rfl, by decide⟩
  · exact ⟨(1, 37), rfl, by decide⟩
theorem nr_rv {K g A B Q : Nat → Int32} {f n : Int} (hm : mnR K g f n) (h0 : 0 ≤ f) (hW : rWA 2 (rvs K A B Q (160 + f) (160 + n))) : fR (rvs g A B Q (160 + f) (160 + n)) = nrL (fR (rvs K A B Q (160 + f) (160 + n))) ∧ (c7 (rvs K A B Q (160 + f) (160 + n)) = 0 → rW4 (rvs g A B Q (160 + f) (160 + n))) ∧ c7 (rvs g A B Q (160 + f) (160 + n)) = c7 (rvs K A B Q (160 + f) (160 + n)) := by
  obtain ⟨x, hx, hl, hh, he⟩ := hm
  have q := rv_up (K := K) (g := g) (A := A) (B := B) (Q := Q) (160 + n - (160 + (x + 1))).toNat (160 + (x + 1)).toNat (fun j p q => hh j (by omega) (by omega))
  have e1 : rvs g A B Q (160 + f) (160 + (x + 1)) = rvs K A B Q (160 + f) (160 + (x + 1)) := rvs_g (by omega) (fun j _ q => ⟨hl j q, rfl, rfl, rfl⟩)
  have e2 : rvs K A B Q (160 + f) (160 + n) = rvs K A B Q (160 + f) (160 + (x + 1)) ++ rvs K A B Q (160 + (x + 1)) (160 + n) := rvs_app (by omega) (by omega) (by omega)
  have e3 : rvs g A B Q (160 + f) (160 + n) = rvs K A B Q (160 + f) (160 + (x + 1)) ++ rvs g A B Q (160 + (x + 1)) (160 + n) := by rw [rvs_app (b := 160 + (x + 1)) (by omega) (by omega) (by omega), e1]
  rw [e2] at hW
  have hW1 := (rWA_l _ _ hW).1
  have lk : lk2 (fR (rvs K A B Q (160 + f) (160 + (x + 1)))) := by
    rcases Int.lt_or_le x f with c | c
    · rw [rvs_x (by omega)]; exact True.intro
    · have el : rvs K A B Q (160 + f) (160 + (x + 1)) = rvs K A B Q (160 + f) (160 + x) ++ [((K (160 + x).toNat).toInt, (A (160 + x).toNat).toInt, (B (160 + x).toNat).toInt, Q (160 + x).toNat)] := by
        rw [rvs_app (b := 160 + x) (by omega) (by omega) (by omega), rvs_s (a := 160 + x) (by omega) (by omega), rvs_x (a := 160 + x + 1) (by omega)]
      rw [el] at hW1 ⊢
      have hw := (rWA_l _ _ hW1).2.1
      obtain ⟨c2, ec, hc⟩ := rx2_s hw (he.resolve_left (by omega))
      rw [fR_a, fR_1, ec]
      exact lk2_s _ _ hc
  rw [e2, e3]
  unfold rvs at *
  refine ⟨?_, fun h7 => ?_, ?_⟩
  · rw [fR_a, fR_a, nrL_s _ lk, nrL_9 _ q.1, q.2.1]
  · rw [c7_a] at h7
    have a := c7_0 (rv K A B Q (160 + f).toNat (160 + (x + 1) - (160 + f)).toNat)
    have b := c7_0 (rv K A B Q (160 + (x + 1)).toNat (160 + n - (160 + (x + 1))).toNat)
    exact rW4_a _ _ (rW4_2 _ hW1 (by omega)) q.2.2.1
  · rw [c7_a, c7_a, q.2.2.2]
theorem rs_4 {K g A B Q K2 A2 B2 Q2 : Nat → Int32} {n n2 f p p2 kd2 d b : Int} {q : Int32} {X : List (Int × Int)} (hm : mnR K g f n) (hA : apR g A B Q n K2 A2 B2 Q2 n2 [(10, d, b, q)]) (hf : 0 ≤ f ∧ f ≤ n) (hX : rxF 10 d b q = exR X) (hk : kd2 = 4) (hp : p = 0 ∧ p2 = p) (hs : sK d b q) : rstp K A B Q n K2 A2 B2 Q2 n2 f 2 kd2 p p2 X 0 := by
  subst hk
  refine ⟨fun j hj => ?_, fun L pc h => ?_⟩
  · obtain ⟨x, hx, hl, hh, he⟩ := hm
    obtain ⟨a1, a2, a3, a4⟩ := hA.2.1 j (by omega)
    exact ⟨a1.trans (hl j (by omega)), a2, a3, a4⟩
  · obtain ⟨h1, h2, h3, h4⟩ := h
    have hW : rWA 2 (rvs K A B Q (160 + f) (160 + n)) := by
      rcases h2 with ⟨_, h⟩ | ⟨e, _⟩ | ⟨e, _⟩
      · exact h
      · exact absurd e (by decide)
      · exact absurd e (by decide)
    obtain ⟨n1, n2, n3⟩ := nr_rv hm hf.1 hW
    have pc0 := h4 hp.1
    have e := apR_cs (a := 160 + f) hA (by omega) (by omega)
    unfold rinv stL
    rw [e, if_pos ⟨rfl, rfl⟩]
    refine ⟨?_, Or.inr (Or.inr ⟨rfl, _, [], d, b, q, rfl, n2 (by omega), hs, True.intro⟩), ?_, fun _ => by omega⟩
    · rw [fR_a, n1, h1, fR_1, hX, exR_a, nr_R]
    · rw [c7_a, n3, h3]; rfl
