/-! commons of the reference, its minutes -/
theorem fR_ch {f : Nat → Int32} {e : Int} : ∀ (n : Nat) (p : Int), fR (chR f e p n) = chL 1 f e p n ∧ rW1 (chR f e p n) ∧ c7 (chR f e p n) = 0
  | 0, _ => ⟨rfl, True.intro, rfl⟩
  | n + 1, p => by
    obtain ⟨h1, h2, h3⟩ := fR_ch n (p + 1)
    refine ⟨?_, ⟨Or.inr rfl, h2⟩, ?_⟩
    · show (1, ych f e p) :: fR (chR f e (p + 1) n) = (1, ych f e p) :: chL 1 f e (p + 1) n
      rw [h1]
    · show (0 : Int) + c7 (chR f e (p + 1) n) = 0
      rw [h3]; rfl
theorem cm_R {f : Nat → Int32} {e p c : Int} (h : kCl f e p c) (hc : 0 < c) : fR (cmR f e p c) = exR (cmL f e p c) ∧ rW1 (cmR f e p c) ∧ c7 (cmR f e p c) = 0 := by
  unfold cmR cmL
  by_cases c34 : ych f e p = 34
  · rw [if_pos c34, if_pos c34, qtL_R]
    have c2 : 2 ≤ c := by
      rcases h with ⟨_, q, hq, _⟩ | ⟨a, _⟩ | ⟨a, _⟩ | ⟨a, _⟩
      · rcases hq with ⟨a, _⟩ | ⟨a, _⟩ <;> omega
      · omega
      · omega
      · omega
    by_cases d : c = 2
    · rw [if_pos d, if_pos (by omega)]; exact ⟨rfl, ⟨Or.inl rfl, True.intro⟩, rfl⟩
    · rw [if_neg d, if_neg (by omega)]; exact fR_ch _ _
  rw [if_neg c34, if_neg c34]
  by_cases c92 : ych f e p = 92
  · rw [if_pos c92, if_pos c92]; exact ⟨rfl, ⟨Or.inr rfl, True.intro⟩, rfl⟩
  rw [if_neg c92, if_neg c92]
  by_cases c95 : ych f e p = 95
  · rw [if_pos c95, if_pos c95]; exact ⟨rfl, ⟨Or.inr rfl, True.intro⟩, rfl⟩
  rw [if_neg c95, if_neg c95]
  by_cases c42 : ych f e p = 42
  · rw [if_pos c42, if_pos (Or.inl c42)]; exact ⟨rfl, ⟨Or.inl rfl, True.intro⟩, rfl⟩
  rw [if_neg c42]
  by_cases c91 : ych f e p = 91
  · rw [if_pos c91, if_pos (Or.inr c91)]; exact ⟨rfl, ⟨Or.inl rfl, True.intro⟩, rfl⟩
  · rw [if_neg c91, if_neg (by omega)]; exact ⟨rfl, ⟨Or.inr rfl, True.intro⟩, rfl⟩
theorem rx5 {k a b : Int} {q : Int32} (h : rIt 5 (k, a, b, q)) : ∃ c : Int × Int, rxF k a b q = [c] ∧ (11 ≤ k ↔ 20 ≤ c.1) ∧ ((c.1 = 23 ∨ c.1 = 26) ↔ ((k = 11 ∨ k = 12) ∧ a = 104)) ∧ ((c.1 = 25 ∨ c.1 = 28) ↔ ((k = 11 ∨ k = 12) ∧ a = 115)) ∧ (c.1 = 21 ↔ (k = 11 ∧ a = 109)) ∧ (k = 11 → c.2 = b) := by
  have h : k = 0 ∨ k = 1 ∨ (k = 11 ∧ (kRw a ∨ a = 110)) ∨ (k = 12 ∧ kHms a) ∨ k = 13 ∨ k = 14 ∨ k = 15 := by
    rcases h with h | h | h | ⟨_, h⟩ | h
    · exact Or.inl h
    · exact Or.inr (Or.inl h)
    · exact absurd h.1 (by decide)
    · rcases h with h | h | h | h | h
      · exact Or.inr (Or.inr (Or.inl ⟨h.1, h.2.2⟩))
      · exact Or.inr (Or.inr (Or.inr (Or.inl ⟨h.1, h.2.2.2⟩)))
      · exact Or.inr (Or.inr (Or.inr (Or.inr (Or.inl h))))
      · exact Or.inr (Or.inr (Or.inr (Or.inr (Or.inr (Or.inl h)))))
      · exact Or.inr (Or.inr (Or.inr (Or.inr (Or.inr (Or.inr h.1)))))
    · exact absurd h.1 (by decide)
  rcases h with h | h | ⟨h, ha⟩ | ⟨h, ha⟩ | h | h | h
  · subst h; exact ⟨(0, 0), rfl, by dsimp only; omega, by dsimp only; omega, by dsimp only; omega, by dsimp only; omega, by dsimp only; omega⟩
  · subst h; exact ⟨(1, a), rfl, by dsimp only; omega, by dsimp only; omega, by dsimp only; omega, by dsimp only; omega, by dsimp only; omega⟩
  · subst h
    refine ⟨(rkR a, b), rfl, ?_⟩
    unfold kRw at ha
    have hr : (a = 121 ∧ rkR a = 20) ∨ (a = 109 ∧ rkR a = 21) ∨ (a = 100 ∧ rkR a = 22) ∨ (a = 104 ∧ rkR a = 23) ∨ (a = 110 ∧ rkR a = 24) ∨ (a = 115 ∧ rkR a = 25) := by
      unfold rkR; (repeat' split) <;> omega
    dsimp only
    exact ⟨by omega, by omega, by omega, by omega, fun _ => rfl⟩
  · subst h
    refine ⟨(rkA a, b), rfl, ?_⟩
    unfold kHms at ha
    have hr : (a = 104 ∧ rkA a = 26) ∨ (a = 109 ∧ rkA a = 27) ∨ (a = 115 ∧ rkA a = 28) := by
      unfold rkA; (repeat' split) <;> omega
    dsimp only
    exact ⟨by omega, by omega, by omega, by omega, by omega⟩
  · subst h; exact ⟨(30, 2), rfl, by dsimp only; omega, by dsimp only; omega, by dsimp only; omega, by dsimp only; omega, by dsimp only; omega⟩
  · subst h; exact ⟨(30, 1), rfl, by dsimp only; omega, by dsimp only; omega, by dsimp only; omega, by dsimp only; omega, by dsimp only; omega⟩
  · subst h; exact ⟨(29, a), rfl, by dsimp only; omega, by dsimp only; omega, by dsimp only; omega, by dsimp only; omega, by dsimp only; omega⟩
theorem rvs_l {K A B Q : Nat → Int32} {a x : Int} (h0 : 0 ≤ a) (h : a ≤ x) : rvs K A B Q a (x + 1) = rvs K A B Q a x ++ [((K x.toNat).toInt, (A x.toNat).toInt, (B x.toNat).toInt, Q x.toNat)] := by
  rw [rvs_app (b := x) h0 h (by omega), rvs_s (a := x) (by omega) (by omega), rvs_x (a := x + 1) (by omega)]
theorem rWA_i {K A B Q : Nat → Int32} {kd : Int} : ∀ (n i : Nat), (∀ j : Nat, i ≤ j → j < i + n → rIt kd ((K j).toInt, (A j).toInt, (B j).toInt, Q j)) ↔ rWA kd (rv K A B Q i n)
  | 0, _ => ⟨fun _ => True.intro, fun _ j p q => by omega⟩
  | n + 1, i => by
    have ih := rWA_i (K := K) (A := A) (B := B) (Q := Q) (kd := kd) n (i + 1)
    constructor
    · exact fun h => ⟨h i (by omega) (by omega), ih.1 (fun j p q => h j (by omega) (by omega))⟩
    · intro h j p q
      by_cases c : j = i
      · subst c; exact h.1
      · exact ih.2 h.2 j (by omega) (by omega)
theorem rWA_s {K A B Q : Nat → Int32} {kd a n : Int} (h0 : 0 ≤ a) : (∀ j : Nat, a ≤ (j : Int) → (j : Int) < n → rIt kd ((K j).toInt, (A j).toInt, (B j).toInt, Q j)) ↔ rWA kd (rvs K A B Q a n) := by
  unfold rvs
  rw [← rWA_i]
  constructor
  · exact fun h j p q => h j (by omega) (by omega)
  · exact fun h j p q => h j (by omega) (by omega)
section
variable {I0 f1 f2 f3 Q : Nat → Int32} {J0 : Nat → Int64} {x1 : Int32}
theorem gm_minutes {Z1 Z2 : (Nat → Int32) → Prop} (h0 : 0 ≤ x1.toInt) (h1 : x1.toInt ≤ (I0 12).toInt) (h6 : (I0 12).toInt ≤ 100) (hW : rWA 5 (rvs f1 f2 f3 Q (160 + x1.toInt) (160 + (I0 12).toInt)))
    (hZ : ∀ g : Nat → Int32, fR (rvs f1 g f3 Q (160 + x1.toInt) (160 + (I0 12).toInt)) = mnG 0 (fR (rvs f1 f2 f3 Q (160 + x1.toInt) (160 + (I0 12).toInt))) → rWA 5 (rvs f1 g f3 Q (160 + x1.toInt) (160 + (I0 12).toInt)) → (∀ j : Nat, (j : Int) < 160 + x1.toInt → g j = f2 j) → Z1 g → Z2 g) : v_M_minutes_0 I0 J0 320 f1 320 f2 320 f3 x1 Z1 → v_M_minutes_0 I0 J0 320 f1 320 f2 320 f3 x1 Z2 := by
  have e16 : ∀ x : Int32, 0 ≤ x.toInt → x.toInt ≤ 1000 → (160 + x).toNatClampNeg = (160 + x.toInt).toNat := fun x p q => by
    rw [zcl, zadd1 (by simp only [Int32.reduceToInt]; omega) (by simp only [Int32.reduceToInt]; omega)]; rfl
  have lp : ∀ (N : Nat) (g : Nat → Int32) (x : Int32) (h : Int), x1.toInt ≤ x.toInt → x.toInt ≤ (I0 12).toInt → (∀ j : Nat, (j : Int) < 160 + x1.toInt → g j = f2 j) → (∀ j : Nat, 160 + x.toInt ≤ (j : Int) → g j = f2 j) → rWA 5 (rvs f1 g f3 Q (160 + x1.toInt) (160 + (I0 12).toInt)) → mnG 0 (fR (rvs f1 f2 f3 Q (160 + x1.toInt) (160 + (I0 12).toInt))) = fR (rvs f1 g f3 Q (160 + x1.toInt) (160 + x.toInt)) ++ mnG h (fR (rvs f1 f2 f3 Q (160 + x.toInt) (160 + (I0 12).toInt))) → ((h = 23 ∨ h = 26) ↔ (pvK 0 (fR (rvs f1 g f3 Q (160 + x1.toInt) (160 + x.toInt))) = 23 ∨ pvK 0 (fR (rvs f1 g f3 Q (160 + x1.toInt) (160 + x.toInt))) = 26)) → v_M_minutes_2 I0 J0 320 f1 320 320 f3 x1 Z1 N g x → v_M_minutes_2 I0 J0 320 f1 320 320 f3 x1 Z2 N g x := by
    intro N
    induction N with
    | zero => intro g x h _ _ _ _ _ _ _ q; exact q.elim
    | succ N ih =>
      intro g x h hx1 hx2 hl hh hWg hm hp
      have hWi := (rWA_s (by omega)).2 hWg
      refine x_M_minutes_2 (fI_ite (fun c => hZ g ?_ hWg hl) (fun c => fI_and (fun _ => ?_)))
      · rw [zle_le] at c
        rw [hm, rvs_x (a := 160 + x.toInt) (by omega), show (I0 12).toInt = x.toInt by omega]
        exact (List.append_nil _).symm
      rw [zle_le] at c
      have ex := e16 x (by omega) (by omega)
      have en : x1.toInt ≤ x.toInt := hx1
      have e1 : (x + 1).toInt = x.toInt + 1 := zadd1 (by simp only [Int32.reduceToInt]; omega) (by simp only [Int32.reduceToInt]; omega)
      have gx : g (160 + x.toInt).toNat = f2 (160 + x.toInt).toNat := hh _ (by omega)
      have hi := hWi (160 + x.toInt).toNat (by omega) (by omega)
      obtain ⟨cc, ec, c11, c23, c25, c21, c2⟩ := rx5 hi
      have es := rvs_s (K := f1) (A := f2) (B := f3) (Q := Q) (a := 160 + x.toInt) (b := 160 + (I0 12).toInt) (by omega) (by omega)
      have eg : rvs f1 g f3 Q (160 + x.toInt + 1) (160 + (I0 12).toInt) = rvs f1 f2 f3 Q (160 + x.toInt + 1) (160 + (I0 12).toInt) := rvs_g (by omega) (fun j a _ => ⟨rfl, hh j (by omega), rfl, rfl⟩)
      have ef : fR (rvs f1 f2 f3 Q (160 + x.toInt) (160 + (I0 12).toInt)) = cc :: fR (rvs f1 g f3 Q (160 + x.toInt + 1) (160 + (I0 12).toInt)) := by
        rw [es, ← eg, ← gx]
        show rxF (f1 (160 + x.toInt).toNat).toInt (g (160 + x.toInt).toNat).toInt (f3 (160 + x.toInt).toNat).toInt (Q (160 + x.toInt).toNat) ++ _ = _
        rw [ec]; rfl
      rw [ef] at hm
      have hm : mnG 0 (fR (rvs f1 f2 f3 Q (160 + x1.toInt) (160 + (I0 12).toInt))) = fR (rvs f1 g f3 Q (160 + x1.toInt) (160 + x.toInt)) ++ ((if cc.1 = 21 ∧ cc.2 ≤ 2 ∧ (h = 23 ∨ h = 26 ∨ nxK (fR (rvs f1 g f3 Q (160 + x.toInt + 1) (160 + (I0 12).toInt))) = 25 ∨ nxK (fR (rvs f1 g f3 Q (160 + x.toInt + 1) (160 + (I0 12).toInt))) = 28) then (24, cc.2) else cc) :: mnG (if 20 ≤ cc.1 then cc.1 else h) (fR (rvs f1 g f3 Q (160 + x.toInt + 1) (160 + (I0 12).toInt)))) := hm
      have hx16 : 160 + (x.toInt + 1) = 160 + x.toInt + 1 := by omega
      -- the item stays
      have stay : ∀ g2 : Nat → Int32, (∀ j : Nat, g2 j = g j) → ¬ (cc.1 = 21 ∧ cc.2 ≤ 2 ∧ (h = 23 ∨ h = 26 ∨ nxK (fR (rvs f1 g f3 Q (160 + x.toInt + 1) (160 + (I0 12).toInt))) = 25 ∨ nxK (fR (rvs f1 g f3 Q (160 + x.toInt + 1) (160 + (I0 12).toInt))) = 28)) → v_M_minutes_2 I0 J0 320 f1 320 320 f3 x1 Z1 N g2 (x + 1) → v_M_minutes_2 I0 J0 320 f1 320 320 f3 x1 Z2 N g2 (x + 1) := fun g2 h2 q => by
        have e2 : g2 = g := funext h2
        subst e2
        refine ih g2 (x + 1) (if 20 ≤ cc.1 then cc.1 else h) (by omega) (by omega) hl (fun j a => hh j (by omega)) hWg ?_ ?_
        · rw [if_neg q] at hm
          rw [e1, hx16, hm, rvs_l (by omega) (by omega), fR_a, fR_1, ec, List.append_assoc, eg]; rfl
        · rw [e1, hx16, rvs_l (by omega) (by omega), fR_a, fR_1, ec, pvK_s]
          by_cases w : 20 ≤ cc.1
          · rw [if_pos w, if_pos w]
          · rw [if_neg w, if_neg w]; exact hp
      have chg : (cc.1 = 21 ∧ cc.2 ≤ 2 ∧ (h = 23 ∨ h = 26 ∨ nxK (fR (rvs f1 g f3 Q (160 + x.toInt + 1) (160 + (I0 12).toInt))) = 25 ∨ nxK (fR (rvs f1 g f3 Q (160 + x.toInt + 1) (160 + (I0 12).toInt))) = 28)) → v_M_minutes_2 I0 J0 320 f1 320 320 f3 x1 Z1 N (upd g (160 + x).toNatClampNeg 110) (x + 1) → v_M_minutes_2 I0 J0 320 f1 320 320 f3 x1 Z2 N (upd g (160 + x).toNatClampNeg 110) (x + 1) := fun q => by
        have k11 := c21.1 q.1
        have c2b := c2 k11.1
        have ev : (upd g (160 + x).toNatClampNeg 110 (160 + x.toInt).toNat).toInt = 110 := by rw [← ex, pk_us]; decide
        have el : rvs f1 (upd g (160 + x).toNatClampNeg 110) f3 Q (160 + x1.toInt) (160 + x.toInt) = rvs f1 g f3 Q (160 + x1.toInt) (160 + x.toInt) := rvs_g (by omega) (fun j _ b => ⟨rfl, pk_un (by rw [ex]; omega), rfl, rfl⟩)
        have b2 : 1 ≤ (f3 (160 + x.toInt).toNat).toInt ∧ (f3 (160 + x.toInt).toNat).toInt ≤ 2 := by
          refine ⟨?_, by omega⟩
          rcases hi with w | w | w | w | w
          · have w : (f1 (160 + x.toInt).toNat).toInt = 0 := w
            omega
          · have w : (f1 (160 + x.toInt).toNat).toInt = 1 := w
            omega
          · exact absurd w.1 (by decide)
          · rcases w.2 with w | w | w | w | w
            · have w := w.2.1
              unfold okR at w
              dsimp only at w
              omega
            · have w : (f1 (160 + x.toInt).toNat).toInt = 12 := w.1
              omega
            · have w : (f1 (160 + x.toInt).toNat).toInt = 13 := w
              omega
            · have w : (f1 (160 + x.toInt).toNat).toInt = 14 := w
              omega
            · have w : (f1 (160 + x.toInt).toNat).toInt = 15 := w.1
              omega
          · exact absurd w.1 (by decide)
        have er : rxF (f1 (160 + x.toInt).toNat).toInt (upd g (160 + x).toNatClampNeg 110 (160 + x.toInt).toNat).toInt (f3 (160 + x.toInt).toNat).toInt (Q (160 + x.toInt).toNat) = [(24, cc.2)] := by
          rw [k11.1, ev, c2b]; rfl
        refine ih _ (x + 1) 21 (by omega) (by omega) (fun j a => ?_) (fun j a => ?_) ((rWA_s (by omega)).1 (fun j a b => ?_)) ?_ ?_
        · rw [pk_un (by rw [ex]; omega)]; exact hl j a
        · rw [pk_un (by rw [ex]; omega)]; exact hh j (by omega)
        · by_cases y : j = (160 + x.toInt).toNat
          · subst y
            rw [ev]
            refine Or.inr (Or.inr (Or.inr (Or.inl ⟨rfl, Or.inl ⟨k11.1, ?_, Or.inr rfl⟩⟩)))
            exact Or.inr (Or.inr (Or.inr ⟨show ¬ (110 : Int) = 121 by decide, show ¬ (110 : Int) = 109 by decide, show ¬ (110 : Int) = 100 by decide, b2.1, b2.2⟩))
          · rw [pk_un (by rw [ex]; exact y)]; exact hWi j a b
        · rw [if_pos q, if_pos (by omega), q.1] at hm
          rw [e1, hx16, hm, rvs_l (by omega) (by omega), el, fR_a, fR_1, er, List.append_assoc, eg]; rfl
        · rw [e1, hx16, rvs_l (by omega) (by omega), el, fR_a, fR_1, er, pvK_s]
          rw [if_pos (show (20 : Int) ≤ 24 by decide)]
          constructor <;> (intro w; omega)
      have no21 : ¬ (cc.1 = 21 ∧ cc.2 ≤ 2) → v_M_minutes_265 I0 J0 320 f1 320 g 320 f3 x1 x (v_M_minutes_2 I0 J0 320 f1 320 320 f3 x1 Z1 N) Z1 → v_M_minutes_265 I0 J0 320 f1 320 g 320 f3 x1 x (v_M_minutes_2 I0 J0 320 f1 320 320 f3 x1 Z2 N) Z2 := fun q => x_M_minutes_265 (stay g (fun _ => rfl) (fun z => q ⟨z.1, z.2.1⟩))
      rw [ex]
      refine fI_ite' (fun d => no21 (fun q => ?_)) (fun d11 => fI_and (fun _ => fI_ite' (fun d => no21 (fun q => ?_)) (fun d109 => fI_and (fun _ => fI_ite (fun d => no21 (fun q => ?_)) (fun dB => ?_)))))
      · exact d (zle_eq.2 ((c21.1 q.1).1.trans (by decide)))
      · exact d (zle_eq.2 ((c21.1 q.1).2.trans (by decide)))
      · have w := c2 (c21.1 q.1).1
        simp only [zle_le, Int32.reduceToInt] at d
        omega
      · have k11 : (f1 (160 + x.toInt).toNat).toInt = 11 := by rw [d11]; decide
        have k109 : (g (160 + x.toInt).toNat).toInt = 109 := by rw [d109]; decide
        have kB : cc.1 = 21 ∧ cc.2 ≤ 2 := by
          simp only [zle_le, Int32.reduceToInt] at dB
          have := c2 k11
          exact ⟨c21.2 ⟨k11, k109⟩, by omega⟩
        generalize hPd : pvK 0 (fR (rvs f1 g f3 Q (160 + x1.toInt) (160 + x.toInt))) = P at hp
        generalize hFd : nxK (fR (rvs f1 g f3 Q (160 + x.toInt + 1) (160 + (I0 12).toInt))) = F at chg stay
        clear hm
        have g264 : ∀ s2 : Int32, ((s2 = 110 ∧ (h = 23 ∨ h = 26 ∨ F = 25 ∨ F = 28)) ∨ (s2 = 109 ∧ ¬ (h = 23 ∨ h = 26 ∨ F = 25 ∨ F = 28))) → v_M_minutes_264 I0 J0 320 f1 320 g 320 f3 x1 x (160 + x) s2 (v_M_minutes_2 I0 J0 320 f1 320 320 f3 x1 Z1 N) Z1 → v_M_minutes_264 I0 J0 320 f1 320 g 320 f3 x1 x (160 + x) s2 (v_M_minutes_2 I0 J0 320 f1 320 320 f3 x1 Z2 N) Z2 := fun s2 hs2 => by
          refine x_M_minutes_264 (fI_and (fun _ => x_M_minutes_265 ?_))
          rcases hs2 with ⟨w, z⟩ | ⟨w, z⟩
          · subst w; exact chg ⟨kB.1, kB.2, z⟩
          · subst w
            refine stay _ (fun j => ?_) (fun q => z q.2.2)
            by_cases y : j = (160 + x).toNatClampNeg
            · subst y
              rw [pk_us, ex]
              exact zle_eq.2 ((show (109 : Int32).toInt = 109 by decide).trans k109.symm)
            · exact pk_un y
        have g240 : ∀ x6 s : Int32, (¬ x6 = 0 ↔ (P = 23 ∨ P = 26)) → (¬ s = 0 ↔ (F = 25 ∨ F = 28)) → v_M_minutes_240 I0 J0 320 f1 320 g 320 f3 x1 x (160 + x) x6 s (v_M_minutes_2 I0 J0 320 f1 320 320 f3 x1 Z1 N) Z1 → v_M_minutes_240 I0 J0 320 f1 320 g 320 f3 x1 x (160 + x) x6 s (v_M_minutes_2 I0 J0 320 f1 320 320 f3 x1 Z2 N) Z2 := fun x6 s h6 hs6 => by
          refine x_M_minutes_240 (fI_ite' (fun c => x_M_minutes_257 (g264 110 (Or.inl ⟨rfl, ?_⟩))) (fun c => fI_ite (fun d => g264 109 (Or.inr ⟨rfl, fun q => ?_⟩)) (fun d => x_M_minutes_257 (g264 110 (Or.inl ⟨rfl, ?_⟩)))))
          · have := hp.2 (h6.1 c); omega
          · have n1 : ¬ (P = 23 ∨ P = 26) := fun z => (h6.2 z) c
            have n2 : ¬ (F = 25 ∨ F = 28) := fun z => (hs6.2 z) d
            have n3 : ¬ (h = 23 ∨ h = 26) := fun z => n1 (hp.1 z)
            omega
          · have := hs6.1 d; omega
        have z00 : ∀ R : Prop, ¬ R → (¬ (0 : Int32) = 0 ↔ R) := fun R h => ⟨fun z => absurd rfl z, fun z => absurd z h⟩
        have z10 : ∀ R : Prop, R → (¬ (1 : Int32) = 0 ↔ R) := fun R h => ⟨fun _ => h, fun _ => by decide⟩
        have g176 : ∀ x5 x6 : Int32, (¬ x6 = 0 ↔ (P = 23 ∨ P = 26)) → 0 ≤ x5.toInt → (((I0 12).toInt ≤ x5.toInt ∧ F = 0) ∨ (x5.toInt < (I0 12).toInt ∧ ((F = 25 ∨ F = 28) ↔ (((f1 (160 + x5.toInt).toNat).toInt = 11 ∨ (f1 (160 + x5.toInt).toNat).toInt = 12) ∧ (g (160 + x5.toInt).toNat).toInt = 115)))) → v_M_minutes_176 I0 J0 320 f1 320 g 320 f3 x1 x (160 + x) x5 x6 (v_M_minutes_2 I0 J0 320 f1 320 320 f3 x1 Z1 N) Z1 → v_M_minutes_176 I0 J0 320 f1 320 g 320 f3 x1 x (160 + x) x5 x6 (v_M_minutes_2 I0 J0 320 f1 320 320 f3 x1 Z2 N) Z2 := fun x5 x6 h6 h50 h5 => by
          have g239 : ¬ (F = 25 ∨ F = 28) → v_M_minutes_239 I0 J0 320 f1 320 g 320 f3 x1 x (160 + x) x6 (v_M_minutes_2 I0 J0 320 f1 320 320 f3 x1 Z1 N) Z1 → v_M_minutes_239 I0 J0 320 f1 320 g 320 f3 x1 x (160 + x) x6 (v_M_minutes_2 I0 J0 320 f1 320 320 f3 x1 Z2 N) Z2 := fun q => x_M_minutes_239 (g240 x6 0 h6 (z00 _ q))
          refine x_M_minutes_176 (fI_ite (fun q => g239 ?_) (fun q => fI_and (fun _ => ?_)))
          · rw [zle_le] at q
            rcases h5 with w | w
            · omega
            · omega
          rw [zle_le] at q
          have h5 := (h5.resolve_left (by omega)).2
          have ex5 := e16 x5 h50 (by omega)
          rw [ex5]
          have g219 : ((f1 (160 + x5.toInt).toNat).toInt = 11 ∨ (f1 (160 + x5.toInt).toNat).toInt = 12) → v_M_minutes_219 I0 J0 320 f1 320 g 320 f3 x1 x (160 + x) x5 x6 (v_M_minutes_2 I0 J0 320 f1 320 320 f3 x1 Z1 N) Z1 → v_M_minutes_219 I0 J0 320 f1 320 g 320 f3 x1 x (160 + x) x5 x6 (v_M_minutes_2 I0 J0 320 f1 320 320 f3 x1 Z2 N) Z2 := fun k => by
            refine x_M_minutes_219 (fI_and (fun _ => ?_))
            rw [ex5]
            exact fI_ite' (fun w => g239 (fun z => w (zle_eq.2 ((h5.1 z).2.trans (by decide))))) (fun w => g240 x6 1 h6 (z10 _ (h5.2 ⟨k, by rw [w]; decide⟩)))
          exact fI_ite (fun k => g219 (Or.inl (by rw [k]; decide))) (fun k => fI_and (fun _ => fI_ite' (fun k2 => g239 (fun z => by
            rcases (h5.1 z).1 with w | w
            · exact k (zle_eq.2 (w.trans (by decide)))
            · exact k2 (zle_eq.2 (w.trans (by decide))))) (fun k2 => g219 (Or.inr (by rw [k2]; decide)))))
        have g117 : ∀ x4 x5 : Int32, ((x4.toInt < x1.toInt ∧ P = 0) ∨ ((x1.toInt ≤ x4.toInt ∧ x4.toInt < x.toInt) ∧ ((P = 23 ∨ P = 26) ↔ (((f1 (160 + x4.toInt).toNat).toInt = 11 ∨ (f1 (160 + x4.toInt).toNat).toInt = 12) ∧ (g (160 + x4.toInt).toNat).toInt = 104)))) → 0 ≤ x5.toInt → (((I0 12).toInt ≤ x5.toInt ∧ F = 0) ∨ (x5.toInt < (I0 12).toInt ∧ ((F = 25 ∨ F = 28) ↔ (((f1 (160 + x5.toInt).toNat).toInt = 11 ∨ (f1 (160 + x5.toInt).toNat).toInt = 12) ∧ (g (160 + x5.toInt).toNat).toInt = 115)))) → v_M_minutes_117 I0 J0 320 f1 320 g 320 f3 x1 x (160 + x) x4 x5 (v_M_minutes_2 I0 J0 320 f1 320 320 f3 x1 Z1 N) Z1 → v_M_minutes_117 I0 J0 320 f1 320 g 320 f3 x1 x (160 + x) x4 x5 (v_M_minutes_2 I0 J0 320 f1 320 320 f3 x1 Z2 N) Z2 := fun x4 x5 h4 h50 h5 => by
          have g175 : ¬ (P = 23 ∨ P = 26) → v_M_minutes_175 I0 J0 320 f1 320 g 320 f3 x1 x (160 + x) x5 (v_M_minutes_2 I0 J0 320 f1 320 320 f3 x1 Z1 N) Z1 → v_M_minutes_175 I0 J0 320 f1 320 g 320 f3 x1 x (160 + x) x5 (v_M_minutes_2 I0 J0 320 f1 320 320 f3 x1 Z2 N) Z2 := fun q => x_M_minutes_175 (g176 x5 0 (z00 _ q) h50 h5)
          refine x_M_minutes_117 (fI_ite (fun q => g175 ?_) (fun q => fI_and (fun _ => ?_)))
          · rw [zle_lt] at q
            rcases h4 with w | w
            · omega
            · omega
          rw [zle_lt] at q
          have h4 := h4.resolve_left (by omega)
          have ex4 := e16 x4 (by omega) (by omega)
          have h4 := h4.2
          rw [ex4]
          have g155 : ((f1 (160 + x4.toInt).toNat).toInt = 11 ∨ (f1 (160 + x4.toInt).toNat).toInt = 12) → v_M_minutes_155 I0 J0 320 f1 320 g 320 f3 x1 x (160 + x) x4 x5 (v_M_minutes_2 I0 J0 320 f1 320 320 f3 x1 Z1 N) Z1 → v_M_minutes_155 I0 J0 320 f1 320 g 320 f3 x1 x (160 + x) x4 x5 (v_M_minutes_2 I0 J0 320 f1 320 320 f3 x1 Z2 N) Z2 := fun k => by
            refine x_M_minutes_155 (fI_and (fun _ => ?_))
            rw [ex4]
            exact fI_ite' (fun w => g175 (fun z => w (zle_eq.2 ((h4.1 z).2.trans (by decide))))) (fun w => g176 x5 1 (z10 _ (h4.2 ⟨k, by rw [w]; decide⟩)) h50 h5)
          exact fI_ite (fun k => g155 (Or.inl (by rw [k]; decide))) (fun k => fI_and (fun _ => fI_ite' (fun k2 => g175 (fun z => by
            rcases (h4.1 z).1 with w | w
            · exact k (zle_eq.2 (w.trans (by decide)))
            · exact k2 (zle_eq.2 (w.trans (by decide))))) (fun k2 => g155 (Or.inr (by rw [k2]; decide)))))
        have g86 : ∀ (x4 : Int32), ((x4.toInt < x1.toInt ∧ P = 0) ∨ ((x1.toInt ≤ x4.toInt ∧ x4.toInt < x.toInt) ∧ ((P = 23 ∨ P = 26) ↔ (((f1 (160 + x4.toInt).toNat).toInt = 11 ∨ (f1 (160 + x4.toInt).toNat).toInt = 12) ∧ (g (160 + x4.toInt).toNat).toInt = 104)))) → ∀ (M : Nat) (x5 : Int32), x.toInt < x5.toInt → x5.toInt ≤ (I0 12).toInt → F = nxK (fR (rvs f1 g f3 Q (160 + x5.toInt) (160 + (I0 12).toInt))) → v_M_minutes_86 I0 J0 320 f1 320 g 320 f3 x1 x (160 + x) x4 (v_M_minutes_2 I0 J0 320 f1 320 320 f3 x1 Z1 N) Z1 M x5 → v_M_minutes_86 I0 J0 320 f1 320 g 320 f3 x1 x (160 + x) x4 (v_M_minutes_2 I0 J0 320 f1 320 320 f3 x1 Z2 N) Z2 M x5 := fun x4 h4 M => by
          induction M with
          | zero => intro x5 _ _ _ q; exact q.elim
          | succ M ihM =>
            intro x5 h51 h52 hF
            refine x_M_minutes_86 (fI_ite (fun q => g117 x4 x5 h4 (by omega) (Or.inl ?_)) (fun q => fI_and (fun _ => ?_)))
            · rw [zle_le] at q
              refine ⟨q, ?_⟩
              rw [hF, rvs_x (by omega)]; rfl
            rw [zle_le] at q
            have ex5 := e16 x5 (by omega) (by omega)
            obtain ⟨c5, ec5, d11, d23, d25, _, _⟩ := rx5 (hWi (160 + x5.toInt).toNat (by omega) (by omega))
            rw [rvs_s (by omega) (by omega)] at hF
            have hF : F = nxK (rxF (f1 (160 + x5.toInt).toNat).toInt (g (160 + x5.toInt).toNat).toInt (f3 (160 + x5.toInt).toNat).toInt (Q (160 + x5.toInt).toNat) ++ fR (rvs f1 g f3 Q (160 + x5.toInt + 1) (160 + (I0 12).toInt))) := hF
            rw [ec5] at hF
            have hF : F = (if 20 ≤ c5.1 then c5.1 else nxK (fR (rvs f1 g f3 Q (160 + x5.toInt + 1) (160 + (I0 12).toInt)))) := hF
            rw [ex5]
            refine fI_ite (fun w => g117 x4 x5 h4 (by omega) (Or.inr ⟨by omega, ?_⟩)) (fun w => ihM (x5 + 1) ?_ ?_ ?_)
            · simp only [zle_le, Int32.reduceToInt] at w
              rw [if_pos (d11.1 w)] at hF
              rw [hF]; exact d25
            all_goals
              have e51 : (x5 + 1).toInt = x5.toInt + 1 := zadd1 (by simp only [Int32.reduceToInt]; omega) (by simp only [Int32.reduceToInt]; omega)
              rw [e51]
            · omega
            · omega
            · simp only [zle_le, Int32.reduceToInt] at w
              rw [if_neg (fun z => w (d11.2 z))] at hF
              rw [hF, show 160 + (x5.toInt + 1) = 160 + x5.toInt + 1 by omega]
        have g53 : ∀ (M : Nat) (x4 : Int32), x1.toInt ≤ x4.toInt + 1 → x4.toInt + 1 ≤ x.toInt → P = pvK 0 (fR (rvs f1 g f3 Q (160 + x1.toInt) (160 + x4.toInt + 1))) → v_M_minutes_53 I0 J0 320 f1 320 g 320 f3 x1 x (160 + x) (v_M_minutes_2 I0 J0 320 f1 320 320 f3 x1 Z1 N) Z1 M x4 → v_M_minutes_53 I0 J0 320 f1 320 g 320 f3 x1 x (160 + x) (v_M_minutes_2 I0 J0 320 f1 320 320 f3 x1 Z2 N) Z2 M x4 := fun M => by
          induction M with
          | zero => intro x4 _ _ _ q; exact q.elim
          | succ M ihM =>
            intro x4 h41 h42 hP
            have g81 : ((x4.toInt < x1.toInt ∧ P = 0) ∨ ((x1.toInt ≤ x4.toInt ∧ x4.toInt < x.toInt) ∧ ((P = 23 ∨ P = 26) ↔ (((f1 (160 + x4.toInt).toNat).toInt = 11 ∨ (f1 (160 + x4.toInt).toNat).toInt = 12) ∧ (g (160 + x4.toInt).toNat).toInt = 104)))) → v_M_minutes_81 I0 J0 320 f1 320 g 320 f3 x1 x (160 + x) x4 (v_M_minutes_2 I0 J0 320 f1 320 320 f3 x1 Z1 N) Z1 → v_M_minutes_81 I0 J0 320 f1 320 g 320 f3 x1 x (160 + x) x4 (v_M_minutes_2 I0 J0 320 f1 320 320 f3 x1 Z2 N) Z2 := fun q => x_M_minutes_81 (fI_ex (fun M2 => g86 x4 q M2 (x + 1) (by omega) (by omega) (by rw [e1, ← hFd, show 160 + (x.toInt + 1) = 160 + x.toInt + 1 by omega])))
            refine x_M_minutes_53 (fI_ite (fun q => g81 (Or.inl ?_)) (fun q => fI_and (fun _ => ?_)))
            · rw [zle_lt] at q
              refine ⟨q, ?_⟩
              rw [hP, rvs_x (by omega)]; rfl
            rw [zle_lt] at q
            have ex4 := e16 x4 (by omega) (by omega)
            obtain ⟨c4, ec4, d11, d23, d25, _, _⟩ := rx5 (hWi (160 + x4.toInt).toNat (by omega) (by omega))
            rw [rvs_l (by omega) (by omega), fR_a, fR_1, ec4, pvK_s] at hP
            rw [ex4]
            refine fI_ite (fun w => g81 (Or.inr ⟨by omega, ?_⟩)) (fun w => ihM (x4 + (-1)) ?_ ?_ ?_)
            · simp only [zle_le, Int32.reduceToInt] at w
              rw [if_pos (d11.1 w)] at hP
              rw [hP]; exact d23
            · rw [zdec1 (by omega) (by omega)]; omega
            · rw [zdec1 (by omega) (by omega)]; omega
            · simp only [zle_le, Int32.reduceToInt] at w
              rw [if_neg (fun z => w (d11.2 z))] at hP
              rw [zdec1 (by omega) (by omega), hP, show 160 + (x4.toInt - 1) + 1 = 160 + x4.toInt by omega]
        have em : (x - 1).toInt = x.toInt - 1 := zsub1 (by simp only [Int32.reduceToInt]; omega) (by simp only [Int32.reduceToInt]; omega)
        exact fI_ex (fun M => g53 M (x - 1) (by omega) (by omega) (by rw [em, ← hPd, show 160 + (x.toInt - 1) + 1 = 160 + x.toInt by omega]))
  exact x_M_minutes_0 (fI_ex (fun N => lp N f2 x1 0 (Int.le_refl _) h1 (fun _ _ => rfl) (fun _ _ => rfl) hW (by rw [rvs_x (a := 160 + x1.toInt) (Int.le_refl _)]; rfl) (by rw [rvs_x (a := 160 + x1.toInt) (Int.le_refl _)]; exact Iff.rfl)))
end
