/-! the numerator -/
theorem cK_exC {k : Int} (h0 : ¬ k = 0) (h1 : ¬ k = 1) (h2 : ¬ k = 15) : ∀ L : List (Int × Int), cK k (exC L) = cK k L
  | [] => rfl
  | p :: r => by
    show cK k (if p.1 = 15 then (0, 0) :: (1, p.2) :: exC r else p :: exC r) = (if p.1 = k then 1 else 0) + cK k r
    by_cases c : p.1 = 15
    · rw [if_pos c, if_neg (by omega)]
      show (if (0 : Int) = k then 1 else 0) + ((if (1 : Int) = k then 1 else 0) + cK k (exC r)) = _
      rw [if_neg (by omega), if_neg (by omega), cK_exC h0 h1 h2 r]; omega
    · rw [if_neg c]
      show (if p.1 = k then 1 else 0) + cK k (exC r) = _
      rw [cK_exC h0 h1 h2 r]
theorem cK_nr {k : Int} (h0 : ¬ k = 2) (h1 : ¬ k = 9) : ∀ L : List (Int × Int), cK k (nrL L) = cK k L
  | [] => rfl
  | p :: r => by
    show (if (if p.1 = 2 ∧ a2 r = true then (9, p.2) else p).1 = k then 1 else 0) + cK k (nrL r) = (if p.1 = k then 1 else 0) + cK k r
    rw [cK_nr h0 h1 r]
    by_cases c : p.1 = 2 ∧ a2 r = true
    · rw [if_pos c, if_neg (show ¬ (9 : Int) = k by omega), if_neg (by omega)]
    · rw [if_neg c]
theorem gv_nr : ∀ (L : List (Int × Int)) (a : Int), gvF a (nrL L) = gvF a L
  | [], _ => rfl
  | p :: r, a => by
    show gvF (if (if p.1 = 2 ∧ a2 r = true then (9, p.2) else p).1 = 12 then 10 * a + (if p.1 = 2 ∧ a2 r = true then (9, p.2) else p).2 - 48 else a) (nrL r) = gvF (if p.1 = 12 then 10 * a + p.2 - 48 else a) r
    rw [gv_nr r]
    by_cases c : p.1 = 2 ∧ a2 r = true
    · rw [if_pos c, if_neg (show ¬ (9 : Int) = 12 by decide), if_neg (by omega)]
    · rw [if_neg c]
theorem pm_nr : ∀ (L : List (Int × Int)) (a : Int), pmA a (nrL L) = pmA a L
  | [], _ => rfl
  | p :: r, a => by
    show pmA (if (if p.1 = 2 ∧ a2 r = true then (9, p.2) else p).1 = 29 ∧ a < (if p.1 = 2 ∧ a2 r = true then (9, p.2) else p).2 then (if p.1 = 2 ∧ a2 r = true then (9, p.2) else p).2 else a) (nrL r) = pmA (if p.1 = 29 ∧ a < p.2 then p.2 else a) r
    rw [pm_nr r]
    by_cases c : p.1 = 2 ∧ a2 r = true
    · rw [if_pos c, if_neg (fun q => absurd q.1 (show ¬ (9 : Int) = 29 by decide)), if_neg (by omega)]
    · rw [if_neg c]
theorem nrL_len : ∀ L : List (Int × Int), (nrL L).length = L.length
  | [] => rfl
  | p :: r => by show (nrL r).length + 1 = r.length + 1; rw [nrL_len r]
theorem lk2_s : ∀ (A : List (Int × Int)) (p : Int × Int), ¬ p.1 = 2 → lk2 (A ++ [p])
  | [], _, h => h
  | [_], _, h => h
  | _ :: q :: r, p, h => lk2_s (q :: r) p h
section
variable {K g M : Nat → Int32} {a b n x : Int}
theorem cl_a2 : ∀ (n i : Nat), (∀ j : Nat, i ≤ j → j < i + n → (K j).toInt = 2 ∧ (g j).toInt = 9) → a2 (cl K M i n) = true ∧ cl g M i n = m9 (cl K M i n) ∧ cK 2 (cl K M i n) = n ∧ cK 9 (cl K M i n) = 0 ∧ cK 2 (cl g M i n) = 0 ∧ cK 9 (cl g M i n) = n
  | 0, _, _ => ⟨rfl, rfl, rfl, rfl, rfl, rfl⟩
  | n + 1, i, h => by
    obtain ⟨h1, h2, h3, h4, h5, h6⟩ := cl_a2 n (i + 1) (fun j p q => h j (by omega) (by omega))
    obtain ⟨k1, k2⟩ := h i (by omega) (by omega)
    refine ⟨?_, ?_, ?_, ?_, ?_, ?_⟩
    · show ((K i).toInt == 2 && a2 (cl K M (i + 1) n)) = true
      rw [h1, k1]; rfl
    · show ((g i).toInt, (M i).toInt) :: cl g M (i + 1) n = (9, (M i).toInt) :: m9 (cl K M (i + 1) n)
      rw [h2, k2]
    · show (if (K i).toInt = 2 then 1 else 0) + cK 2 (cl K M (i + 1) n) = _
      rw [if_pos k1, h3]; omega
    · show (if (K i).toInt = 9 then 1 else 0) + cK 9 (cl K M (i + 1) n) = _
      rw [if_neg (by omega), h4]; rfl
    · show (if (g i).toInt = 2 then 1 else 0) + cK 2 (cl g M (i + 1) n) = _
      rw [if_neg (by omega), h5]; rfl
    · show (if (g i).toInt = 9 then 1 else 0) + cK 9 (cl g M (i + 1) n) = _
      rw [if_pos k2, h6]; omega
theorem cs_lst (h0 : 0 ≤ a) (h : a ≤ x) : cs K M a (x + 1) = cs K M a x ++ [((K x.toNat).toInt, (M x.toNat).toInt)] := by
  rw [cs_app (b := x) h0 h (by omega), cs_s (x := x) (y := x + 1) (by omega) (by omega) rfl rfl rfl, cs_x (x := x + 1) (Int.le_refl _)]
theorem nr_cs (h0 : 0 ≤ a) (h1 : a ≤ x + 1) (h2 : x + 1 ≤ n) (hl : ∀ j : Nat, (j : Int) < x + 1 → g j = K j) (hh : ∀ j : Nat, x + 1 ≤ (j : Int) → (j : Int) < n → (K j).toInt = 2 ∧ (g j).toInt = 9) (he : x < a ∨ ¬ (K x.toNat).toInt = 2) : cs g M a n = nrL (cs K M a n) ∧ cK 2 (cs g M a n) = cK 2 (cs K M a n) - (n - 1 - x) ∧ cK 9 (cs g M a n) = cK 9 (cs K M a n) + (n - 1 - x) := by
  have q := cl_a2 (K := K) (g := g) (M := M) (n - (x + 1)).toNat (x + 1).toNat (fun j p q => hh j (by omega) (by omega))
  have e1 : cs g M a (x + 1) = cs K M a (x + 1) := cs_g h0 (fun j _ q => ⟨hl j q, rfl⟩)
  have e2 : cs K M a n = cs K M a (x + 1) ++ cs K M (x + 1) n := cs_app h0 h1 h2
  have e3 : cs g M a n = cs K M a (x + 1) ++ cs g M (x + 1) n := by rw [cs_app (b := x + 1) h0 h1 h2, e1]
  have lk : lk2 (cs K M a (x + 1)) := by
    rcases Int.lt_or_le x a with c | c
    · rw [cs_x (by omega)]; exact True.intro
    · rw [cs_lst h0 c]
      exact lk2_s _ _ (by rcases he with d | d; · omega
                          · exact d)
  unfold cs at e2 e3 lk
  unfold cs
  refine ⟨?_, ?_, ?_⟩
  · rw [e2, e3, nrL_s _ lk, nrL_9 _ q.1, q.2.1]
  · rw [e2, e3, cK_a, cK_a, q.2.2.1, q.2.2.2.2.1]; omega
  · rw [e2, e3, cK_a, cK_a, q.2.2.2.1, q.2.2.2.2.2]; omega
end
def mnP (S S2 K g : Nat → Int32) (n : Int) : Prop := zfr [3, 10] S S2 ∧ ∃ x : Int, ((S 1).toInt ≤ x + 1 ∧ x + 1 ≤ n) ∧ (∀ j : Nat, (j : Int) < x + 1 → g j = K j) ∧ (∀ j : Nat, x + 1 ≤ (j : Int) → (j : Int) < n → (K j).toInt = 2 ∧ (g j).toInt = 9) ∧ (x < (S 1).toInt ∨ ¬ (K x.toNat).toInt = 2) ∧ (S2 3).toInt = (S 3).toInt - (n - 1 - x) ∧ (S2 10).toInt = (S 10).toInt + (n - 1 - x)
section
variable {I0 I1 I2 I3 f1 f2 f3 f4 f5 : Nat → Int32} {x1 x2 : Int32}
theorem g_Code_change {Z1 Z2 : (Nat → Int32) → Prop} (h0 : 0 ≤ x1.toInt) (h1 : x1.toInt < (I0 4).toInt) (h6 : (I0 4).toInt ≤ 64) (hZ : Z1 (upd f1 x1.toNatClampNeg x2) → Z2 (upd f1 x1.toNatClampNeg x2)) : v_Code_change_0 I0 64 f1 x1 x2 Z1 → v_Code_change_0 I0 64 f1 x1 x2 Z2 := by
  refine x_Code_change_0 (fI_ite (fun c => ?_) (fun c => fI_ite (fun c2 => ?_) (fun c2 => fI_ite (fun c3 => ?_) (fun c3 => fI_and (fun _ => hZ)))))
  · simp only [zle_lt, Int32.reduceToInt] at c; exact absurd c (by omega)
  · simp only [zle_le] at c2; exact absurd c2 (by omega)
  · simp only [zle_le, qnI64] at c3; exact absurd c3 (by omega)
theorem g_makeNumerator {Z1 Z2 : (Nat → Int32) × (Nat → Int32) → Prop} (hb : 0 ≤ (I2 1).toInt ∧ (I2 1).toInt ≤ (I1 4).toInt) (h6 : (I1 4).toInt ≤ 64) (h3 : -5000 ≤ (I2 3).toInt ∧ (I2 3).toInt ≤ 5000) (h10 : -5000 ≤ (I2 10).toInt ∧ (I2 10).toInt ≤ 5000) (hZ : ∀ S g : Nat → Int32, mnP I2 S f3 g (I1 4).toInt → Z1 (S, g) → Z2 (S, g)) : v_Reader_makeNumerator_0 I0 I1 I2 64 f3 Z1 → v_Reader_makeNumerator_0 I0 I1 I2 64 f3 Z2 := by
  have lp : ∀ (N : Nat) (S g : Nat → Int32) (x : Int32), zfr [3, 10] I2 S → ((I2 1).toInt ≤ x.toInt + 1 ∧ x.toInt + 1 ≤ (I1 4).toInt) → (∀ j : Nat, (j : Int) < x.toInt + 1 → g j = f3 j) → (∀ j : Nat, x.toInt + 1 ≤ (j : Int) → (j : Int) < (I1 4).toInt → (f3 j).toInt = 2 ∧ (g j).toInt = 9) → (S 3).toInt = (I2 3).toInt - ((I1 4).toInt - 1 - x.toInt) → (S 10).toInt = (I2 10).toInt + ((I1 4).toInt - 1 - x.toInt) → v_Reader_makeNumerator_10 I0 I1 64 Z1 N S g x → v_Reader_makeNumerator_10 I0 I1 64 Z2 N S g x := by
    intro N
    induction N with
    | zero => intro S g x _ _ _ _ _ _ h; exact h.elim
    | succ N ih =>
      intro S g x hf hx hl hh e3 e10
      have e1 : S 1 = I2 1 := hf 1 (by decide)
      refine x_Reader_makeNumerator_10 (fI_ite (fun c => hZ S g ⟨hf, x.toInt, hx, hl, hh, Or.inl ?_, e3, e10⟩) (fun c => h_Code_kind trivial (fun r u hr => x_Reader_makeNumerator_29 (fI_ite' (fun d => hZ S g ⟨hf, x.toInt, hx, hl, hh, Or.inr ?_, e3, e10⟩) (fun d => ?_)))))
      · rw [zle_lt, e1] at c; exact c
      · rw [zle_lt, e1] at c
        have hr2 : r.toInt = (g x.toInt.toNat).toInt := by
          rcases hr with ⟨w, _⟩ | ⟨_, w⟩
          · exact absurd ⟨by omega, by omega, by omega⟩ w
          · exact w
        rw [hl _ (by omega)] at hr2
        exact fun q => d (zle_eq.2 ((hr2.trans q).trans (by decide)))
      · rw [zle_lt, e1] at c
        have hr2 : r.toInt = (g x.toInt.toNat).toInt := by
          rcases hr with ⟨w, _⟩ | ⟨_, w⟩
          · exact absurd ⟨by omega, by omega, by omega⟩ w
          · exact w
        rw [hl _ (by omega), d] at hr2
        have ex : (x + (-1)).toInt = x.toInt - 1 := by
          have m1 : (-1 : Int32).toInt = -1 := by decide
          rw [zadd1 (x := x) (y := -1) (by rw [m1]; omega) (by rw [m1]; omega), m1]; omega
        have ez : x.toNatClampNeg = x.toInt.toNat := zcl x
        refine g_Code_change (by omega) (by omega) h6 (x_Reader_makeNumerator_43 (ih _ _ (x + (-1)) (zfr_zu (by decide) (zfr_zu (by decide) hf)) (by rw [ex]; omega) (fun j hj => ?_) (fun j p q => ?_) ?_ ?_))
        · rw [ex] at hj
          rw [pk_un (by rw [ez]; omega)]; exact hl j (by omega)
        · rw [ex] at p
          by_cases w : j = x.toInt.toNat
          · subst w
            rw [← ez, pk_us, ez]
            exact ⟨hr2.symm.trans (by decide), by decide⟩
          · rw [pk_un (by rw [ez]; omega)]
            exact hh j (by omega) q
        · rw [ex]
          show (S 3 - 1).toInt = _
          rw [zsub1 (by simp only [Int32.reduceToInt]; omega) (by simp only [Int32.reduceToInt]; omega), e3]
          simp only [Int32.reduceToInt]; omega
        · rw [ex]
          show (S 10 + 1).toInt = _
          rw [zadd1 (by simp only [Int32.reduceToInt]; omega) (by simp only [Int32.reduceToInt]; omega), e10]
          simp only [Int32.reduceToInt]; omega
  have e41 : (I1 4 - 1).toInt = (I1 4).toInt - 1 := zsub1 (by simp only [Int32.reduceToInt]; omega) (by simp only [Int32.reduceToInt]; omega)
  exact x_Reader_makeNumerator_0 (fI_ex (fun N => lp N I2 f3 (I1 4 - 1) zfr_refl (by rw [e41]; omega) (fun _ _ => rfl) (fun j p q => by rw [e41] at p; omega) (by rw [e41]; omega) (by rw [e41]; omega)))
end
