/-! raw items of the reference -/
def rv (K A B Q : Nat → Int32) (i : Nat) : Nat → List (Int × Int × Int × Int32)
  | 0 => []
  | n + 1 => ((K i).toInt, (A i).toInt, (B i).toInt, Q i) :: rv K A B Q (i + 1) n
def rvs (K A B Q : Nat → Int32) (x e : Int) : List (Int × Int × Int × Int32) := rv K A B Q x.toNat (e - x).toNat
theorem rv_len {K A B Q : Nat → Int32} : ∀ (n i : Nat), (rv K A B Q i n).length = n
  | 0, _ => rfl
  | n + 1, i => by show (rv K A B Q (i + 1) n).length + 1 = _; rw [rv_len n (i + 1)]
theorem rv_app {K A B Q : Nat → Int32} : ∀ (n m i : Nat), rv K A B Q i (n + m) = rv K A B Q i n ++ rv K A B Q (i + n) m
  | 0, m, i => by rw [Nat.zero_add]; rfl
  | n + 1, m, i => by
    rw [show n + 1 + m = n + m + 1 by omega]
    show ((K i).toInt, (A i).toInt, (B i).toInt, Q i) :: rv K A B Q (i + 1) (n + m) = ((K i).toInt, (A i).toInt, (B i).toInt, Q i) :: rv K A B Q (i + 1) n ++ _
    rw [rv_app n m (i + 1), show i + 1 + n = i + (n + 1) by omega]; rfl
def sm4 (K A B Q K2 A2 B2 Q2 : Nat → Int32) (j : Nat) : Prop := K2 j = K j ∧ A2 j = A j ∧ B2 j = B j ∧ Q2 j = Q j
theorem rv_g {K A B Q K2 A2 B2 Q2 : Nat → Int32} : ∀ (n i : Nat), (∀ j : Nat, i ≤ j → j < i + n → sm4 K A B Q K2 A2 B2 Q2 j) → rv K2 A2 B2 Q2 i n = rv K A B Q i n
  | 0, _, _ => rfl
  | n + 1, i, h => by
    obtain ⟨a, b, c, d⟩ := h i (by omega) (by omega)
    show ((K2 i).toInt, (A2 i).toInt, (B2 i).toInt, Q2 i) :: rv K2 A2 B2 Q2 (i + 1) n = ((K i).toInt, (A i).toInt, (B i).toInt, Q i) :: rv K A B Q (i + 1) n
    rw [a, b, c, d, rv_g n (i + 1) (fun j p q => h j (by omega) (by omega))]
section
variable {K A B Q K2 A2 B2 Q2 K3 A3 B3 Q3 : Nat → Int32} {a b c n n2 n3 : Int} {X Y : List (Int × Int × Int × Int32)}
theorem rvs_app (h0 : 0 ≤ a) (h1 : a ≤ b) (h2 : b ≤ c) : rvs K A B Q a c = rvs K A B Q a b ++ rvs K A B Q b c := by
  unfold rvs
  rw [show (c - a).toNat = (b - a).toNat + (c - b).toNat by omega, rv_app, show a.toNat + (b - a).toNat = b.toNat by omega]
theorem rvs_g (h0 : 0 ≤ a) (h : ∀ j : Nat, a ≤ (j : Int) → (j : Int) < b → sm4 K A B Q K2 A2 B2 Q2 j) : rvs K2 A2 B2 Q2 a b = rvs K A B Q a b := by
  unfold rvs
  exact rv_g _ _ (fun j p q => h j (by omega) (by omega))
theorem rvs_x (h : b ≤ a) : rvs K A B Q a b = [] := by unfold rvs; rw [show (b - a).toNat = 0 by omega]; rfl
theorem rvs_s (h0 : 0 ≤ a) (h : a < b) : rvs K A B Q a b = ((K a.toNat).toInt, (A a.toNat).toInt, (B a.toNat).toInt, Q a.toNat) :: rvs K A B Q (a + 1) b := by
  unfold rvs
  rw [show (b - a).toNat = (b - (a + 1)).toNat + 1 by omega, show (a + 1).toNat = a.toNat + 1 by omega]; rfl
theorem rvs_len (h : a ≤ b) : ((rvs K A B Q a b).length : Int) = b - a := by unfold rvs; rw [rv_len]; omega
def apR (K A B Q : Nat → Int32) (n : Int) (K2 A2 B2 Q2 : Nat → Int32) (n2 : Int) (X : List (Int × Int × Int × Int32)) : Prop := n2 = n + X.length ∧ (∀ j : Nat, (j : Int) < 160 + n → sm4 K A B Q K2 A2 B2 Q2 j) ∧ rvs K2 A2 B2 Q2 (160 + n) (160 + n2) = X
theorem apR_0 : apR K A B Q n K A B Q n [] := ⟨(Int.add_zero _).symm, fun _ _ => ⟨rfl, rfl, rfl, rfl⟩, rvs_x (Int.le_refl _)⟩
theorem apR_1 {x k m o q : Int32} (hx : x.toInt = 160 + n) (h0 : 0 ≤ n) (h2 : n2 = n + 1) : apR K A B Q n (upd K x.toNatClampNeg k) (upd A x.toNatClampNeg m) (upd B x.toNatClampNeg o) (upd Q x.toNatClampNeg q) n2 [(k.toInt, m.toInt, o.toInt, q)] := by
  have e : x.toNatClampNeg = (160 + n).toNat := by rw [zcl, hx]
  refine ⟨h2, fun j hj => ?_, ?_⟩
  · exact ⟨pk_un (by rw [e]; omega), pk_un (by rw [e]; omega), pk_un (by rw [e]; omega), pk_un (by rw [e]; omega)⟩
  · rw [rvs_s (by omega) (by omega), rvs_x (by omega), e, pk_us, pk_us, pk_us, pk_us]
theorem apR_t (h0 : 0 ≤ n) (h : apR K A B Q n K2 A2 B2 Q2 n2 X) (k : apR K2 A2 B2 Q2 n2 K3 A3 B3 Q3 n3 Y) : apR K A B Q n K3 A3 B3 Q3 n3 (X ++ Y) := by
  obtain ⟨a1, a2, a3⟩ := h
  obtain ⟨b1, b2, b3⟩ := k
  refine ⟨by rw [List.length_append]; omega, fun j hj => ?_, ?_⟩
  · obtain ⟨p1, p2, p3, p4⟩ := a2 j hj
    obtain ⟨q1, q2, q3, q4⟩ := b2 j (by omega)
    exact ⟨q1.trans p1, q2.trans p2, q3.trans p3, q4.trans p4⟩
  · rw [rvs_app (b := 160 + n2) (by omega) (by omega) (by omega), b3, rvs_g (by omega) (fun j _ q => b2 j q), a3]
theorem apR_cs (h : apR K A B Q n K2 A2 B2 Q2 n2 X) (h0 : 0 ≤ a) (h1 : a ≤ 160 + n) : rvs K2 A2 B2 Q2 a (160 + n2) = rvs K A B Q a (160 + n) ++ X := by
  obtain ⟨a1, a2, a3⟩ := h
  rw [rvs_app (b := 160 + n) h0 h1 (by omega), a3, rvs_g h0 (fun j _ q => a2 j q)]
theorem apR_e (h : apR K A B Q n K2 A2 B2 Q2 n2 X) (e : X = Y) : apR K A B Q n K2 A2 B2 Q2 n2 Y := by subst e; exact h
end
/-! raw items by what is typed -/
def chR (f : Nat → Int32) (e : Int) : Int → Nat → List (Int × Int × Int × Int32)
  | _, 0 => []
  | p, n + 1 => (1, ych f e p, 0, 0) :: chR f e (p + 1) n
theorem chR_s {f : Nat → Int32} {e : Int} : ∀ (n : Nat) (p : Int), chR f e p (n + 1) = chR f e p n ++ [(1, ych f e (p + n), 0, 0)]
  | 0, p => by show [(1, ych f e p, 0, 0)] = [(1, ych f e (p + ((0 : Nat) : Int)), 0, 0)]; rw [show p + ((0 : Nat) : Int) = p by omega]
  | n + 1, p => by
    show (1, ych f e p, 0, 0) :: chR f e (p + 1) (n + 1) = (1, ych f e p, 0, 0) :: (chR f e (p + 1) n ++ [(1, ych f e (p + ((n + 1 : Nat) : Int)), 0, 0)])
    rw [chR_s n (p + 1), show p + 1 + (n : Int) = p + ((n + 1 : Nat) : Int) by omega]
theorem chR_len {f : Nat → Int32} {e : Int} : ∀ (n : Nat) (p : Int), (chR f e p n).length = n
  | 0, _ => rfl
  | n + 1, p => by show (chR f e (p + 1) n).length + 1 = _; rw [chR_len n]
def cmR (f : Nat → Int32) (e p c : Int) : List (Int × Int × Int × Int32) :=
  if ych f e p = 34 then (if c = 2 then [(0, 0, 0, 0)] else chR f e (p + 1) (c - 2).toNat) else if ych f e p = 92 then [(1, ych f e (p + 1), 0, 0)] else if ych f e p = 95 then [(1, 32, 0, 0)] else if ych f e p = 42 then [(0, ych f e (p + 1), 0, 0)] else if ych f e p = 91 then [(0, 0, 0, 0)] else [(1, ych f e p, 0, 0)]
section
variable {I0 f1 f2 f3 f4 f5 : Nat → Int32} {J0 : Nat → Int64} {x1 x2 x3 : Int32}
theorem gm_item {Z1 Z2 : (Nat → Int32) × (Nat → Int32) × (Nat → Int32) × (Nat → Int32) × (Nat → Int32) → Prop} (h0 : 0 ≤ (I0 12).toInt) (h1 : (I0 12).toInt ≤ 1000) (hZ : ∀ g1 g2 g3 g4 : Nat → Int32, apR f1 f2 f3 f4 (I0 12).toInt g1 g2 g3 g4 ((zu I0 12 (I0 12 + 1)) 12).toInt [(x1.toInt, x2.toInt, x3.toInt, 0)] → Z1 (zu I0 12 (I0 12 + 1), g1, g2, g3, g4) → Z2 (zu I0 12 (I0 12 + 1), g1, g2, g3, g4)) : v_M_item_0 I0 J0 320 f1 320 f2 320 f3 320 f4 x1 x2 x3 Z1 → v_M_item_0 I0 J0 320 f1 320 f2 320 f3 320 f4 x1 x2 x3 Z2 := by
  have e : (I0 12 + 1).toInt = (I0 12).toInt + 1 := zadd1 (by simp only [Int32.reduceToInt]; omega) (by simp only [Int32.reduceToInt]; omega)
  have e2 : (160 + I0 12).toInt = 160 + (I0 12).toInt := zadd1 (by simp only [Int32.reduceToInt]; omega) (by simp only [Int32.reduceToInt]; omega)
  exact x_M_item_0 (fI_and (fun _ => fI_and (fun _ => fI_and (fun _ => fI_and (fun _ => hZ _ _ _ _ (apR_1 e2 h0 e))))))
theorem gm_plainItem {Z1 Z2 : (Nat → Int32) × (Nat → Int32) × (Nat → Int32) × (Nat → Int32) × (Nat → Int32) → Prop} (hx : 0 ≤ (I0 14).toInt) (hx6 : (I0 14).toInt ≤ 100) (he : (I0 3).toInt ≤ 64) (h0 : 0 ≤ (I0 12).toInt) (h1 : (I0 12).toInt ≤ 1000) (hZ : ∀ I g2 g3 g4 g5 : Nat → Int32, (0 ≤ (I 13).toInt ∨ (apR f2 f3 f4 f5 (I0 12).toInt g2 g3 g4 g5 (I 12).toInt [(1, ych f1 (I0 3).toInt (I0 14).toInt, 0, 0)] ∧ kLit (ych f1 (I0 3).toInt (I0 14).toInt) ∧ (I 14).toInt = (I0 14).toInt + 1 ∧ (I 19).toInt = (I0 19).toInt)) → Z1 (I, g2, g3, g4, g5) → Z2 (I, g2, g3, g4, g5)) : v_M_plainItem_0 I0 J0 64 f1 320 f2 320 f3 320 f4 320 f5 Z1 → v_M_plainItem_0 I0 J0 64 f1 320 f2 320 f3 320 f4 320 f5 Z2 := by
  refine x_M_plainItem_0 (f_M_ch ⟨hx, he⟩ (fun r hr => ?_))
  have a1 : (I0 14 + 1).toInt = (I0 14).toInt + 1 := zadd1 (by simp only [Int32.reduceToInt]; omega) (by simp only [Int32.reduceToInt]; omega)
  have g33 : kLit r.toInt → v_M_plainItem_33 I0 J0 64 f1 320 f2 320 f3 320 f4 320 f5 r Z1 → v_M_plainItem_33 I0 J0 64 f1 320 f2 320 f3 320 f4 320 f5 r Z2 := fun hl => x_M_plainItem_33 (gm_item h0 h1 (fun g1 g2 g3 g4 b => x_M_plainItem_40 (hZ _ g1 g2 g3 g4 (Or.inr (by rw [← hr]; exact ⟨b, hl, a1, rfl⟩)))))
  exact x_M_plainItem_8 (fI_ite (fun c => g33 (by rw [c]; exact Or.inl (by decide))) (fun _ => fI_ite (fun c => g33 (by rw [c]; exact Or.inr (Or.inl (by decide)))) (fun _ => fI_ite (fun c => g33 (by rw [c]; exact Or.inr (Or.inr (Or.inl (by decide))))) (fun _ => fI_ite' (fun _ => hZ _ f2 f3 f4 f5 (Or.inl hx)) (fun c => g33 (by rw [c]; exact Or.inr (Or.inr (Or.inr (by decide)))))))))
theorem gm_common {Z1 Z2 : Int32 → (Nat → Int32) × (Nat → Int32) × (Nat → Int32) × (Nat → Int32) × (Nat → Int32) → Prop} (hx : 0 ≤ (I0 14).toInt) (hx6 : (I0 14).toInt < (I0 3).toInt) (he : (I0 3).toInt ≤ 64) (h0 : 0 ≤ (I0 12).toInt) (h1 : (I0 12).toInt ≤ 100) (hZ : ∀ (r : Int32) (I g2 g3 g4 g5 : Nat → Int32), ((r.toInt = 0 ∧ g4 = f4 ∧ g5 = f5) ∨ (r.toInt = 1 ∧ apR f2 f3 f4 f5 (I0 12).toInt g2 g3 g4 g5 (I 12).toInt (cmR f1 (I0 3).toInt (I0 14).toInt ((I 14).toInt - (I0 14).toInt)))) → Z1 r (I, g2, g3, g4, g5) → Z2 r (I, g2, g3, g4, g5)) : v_M_common_0 I0 J0 64 f1 320 f2 320 f3 320 f4 320 f5 Z1 → v_M_common_0 I0 J0 64 f1 320 f2 320 f3 320 f4 320 f5 Z2 := by
  have a1 : (I0 14 + 1).toInt = (I0 14).toInt + 1 := zadd1 (by simp only [Int32.reduceToInt]; omega) (by simp only [Int32.reduceToInt]; omega)
  have a2 : (I0 14 + 2).toInt = (I0 14).toInt + 2 := zadd1 (by simp only [Int32.reduceToInt]; omega) (by simp only [Int32.reduceToInt]; omega)
  have hno := hZ 0 I0 f2 f3 f4 f5 (Or.inl ⟨by decide, rfl, rfl⟩)
  have yf := kyf (f := f1) (e := (I0 3).toInt) (x := I0 14) hx6
  refine x_M_common_0 (f_M_ch ⟨hx, he⟩ (fun r hr => x_M_common_8 (fI_ite' (fun c => ?_) (fun c => ?_))))
  · have c34 : ¬ ych f1 (I0 3).toInt (I0 14).toInt = 34 := fun q => c (zle_eq.2 ((hr.trans q).trans (by decide)))
    have cR : ∀ c : Int, cmR f1 (I0 3).toInt (I0 14).toInt c = if ych f1 (I0 3).toInt (I0 14).toInt = 92 then [(1, ych f1 (I0 3).toInt ((I0 14).toInt + 1), 0, 0)] else if ych f1 (I0 3).toInt (I0 14).toInt = 95 then [(1, 32, 0, 0)] else if ych f1 (I0 3).toInt (I0 14).toInt = 42 then [(0, ych f1 (I0 3).toInt ((I0 14).toInt + 1), 0, 0)] else if ych f1 (I0 3).toInt (I0 14).toInt = 91 then [(0, 0, 0, 0)] else [(1, ych f1 (I0 3).toInt (I0 14).toInt, 0, 0)] := fun c => by unfold cmR; rw [if_neg c34]
    simp only [cR] at hZ
    refine f_M_isPair ⟨hx, by omega, he⟩ (fun r2 hr2 => x_M_common_98 (fI_ite (fun d => ?_) (fun d => ?_)))
    · refine f_M_colour ⟨hx, by omega, he⟩ (fun r3 hr3 => x_M_common_159 (fI_ite (fun d2 => ?_) (fun d2 => ?_)))
      · refine f_M_isSign trivial (fun r4 hr4 => x_M_common_187 (fI_ite' (fun d3 => ?_) (fun d3 => hno)))
        have sg : kSg (ych f1 (I0 3).toInt (I0 14).toInt) := by
          rw [hr] at hr4
          rcases hr4 with ⟨_, w⟩ | ⟨w, _⟩
          · exact w
          · exact absurd (zle_eq.2 (w.trans (by decide))) d3
        unfold kSg at sg
        rw [if_neg (by omega), if_neg (by omega), if_neg (by omega), if_neg (by omega)] at hZ
        exact gm_item h0 (by omega) (fun g1 g2 g3 g4 b => x_M_common_199 (hZ 1 _ g1 g2 g3 g4 (Or.inr ⟨by decide, by rw [← hr]; exact b⟩)))
      · have d2 : 0 < r3.toInt := by simp only [zle_le, Int32.reduceToInt] at d2; omega
        have c91 : ych f1 (I0 3).toInt (I0 14).toInt = 91 := ycol_91 (by rw [← hr3.2]; exact d2)
        rw [if_neg (by omega), if_neg (by omega), if_neg (by omega), if_pos c91] at hZ
        exact gm_item h0 (by omega) (fun g1 g2 g3 g4 b => x_M_common_171 (hZ 1 _ g1 g2 g3 g4 (Or.inr ⟨by decide, b⟩)))
    · have hr2 : (ych f1 (I0 3).toInt (I0 14).toInt = 92 ∨ ych f1 (I0 3).toInt (I0 14).toInt = 95 ∨ ych f1 (I0 3).toInt (I0 14).toInt = 42) ∧ (I0 14).toInt + 1 < (I0 3).toInt := by
        rcases hr2 with ⟨_, w⟩ | ⟨w, _⟩
        · rw [yf]; exact w
        · exact absurd (zle_eq.2 (w.trans (by decide))) d
      have y1 := kyf (f := f1) (e := (I0 3).toInt) (x := I0 14 + 1) (by rw [a1]; exact hr2.2)
      rw [a1] at y1
      have it : ∀ (s1 s2 : Int32), (∀ (c : Int), (if ych f1 (I0 3).toInt (I0 14).toInt = 92 then [(1, ych f1 (I0 3).toInt ((I0 14).toInt + 1), 0, 0)] else if ych f1 (I0 3).toInt (I0 14).toInt = 95 then [(1, 32, 0, 0)] else if ych f1 (I0 3).toInt (I0 14).toInt = 42 then [(0, ych f1 (I0 3).toInt ((I0 14).toInt + 1), 0, 0)] else if ych f1 (I0 3).toInt (I0 14).toInt = 91 then [(0, 0, 0, 0)] else [(1, ych f1 (I0 3).toInt (I0 14).toInt, 0, 0)]) = [(s1.toInt, s2.toInt, (0 : Int), (0 : Int32))]) → v_M_common_135 I0 J0 64 f1 320 f2 320 f3 320 f4 320 f5 s1 s2 Z1 → v_M_common_135 I0 J0 64 f1 320 f2 320 f3 320 f4 320 f5 s1 s2 Z2 := fun s1 s2 hl =>
        x_M_common_135 (gm_item h0 (by omega) (fun g1 g2 g3 g4 b => x_M_common_139 (hZ 1 _ g1 g2 g3 g4 (Or.inr ⟨by decide, by rw [hl 0]; exact b⟩))))
      have rn : ∀ y : Int32, ¬ r = y → ¬ ych f1 (I0 3).toInt (I0 14).toInt = y.toInt := fun y q w => q (zle_eq.2 (hr.trans w))
      refine fI_ite' (fun d42 => x_M_common_113 (fI_ite' (fun d95 => fI_and (fun _ => it 1 _ (fun _ => ?_))) (fun d95 => it 1 32 (fun _ => ?_)))) (fun d42 => x_M_common_113 (fI_ite' (fun d95 => fI_and (fun _ => it 0 _ (fun _ => ?_))) (fun d95 => absurd (d42.symm.trans d95) (by decide))))
      · have n1 := rn _ d42
        have n2 := rn _ d95
        simp only [Int32.reduceToInt] at n1 n2
        rw [if_pos (by omega), y1]; rfl
      · have e95 : ych f1 (I0 3).toInt (I0 14).toInt = 95 := by rw [← hr, d95]; decide
        rw [if_neg (by omega), if_pos e95]; rfl
      · have e42 : ych f1 (I0 3).toInt (I0 14).toInt = 42 := by rw [← hr, d42]; decide
        rw [if_neg (by omega), if_neg (by omega), if_pos e42, y1]; rfl
  · have c34 : ych f1 (I0 3).toInt (I0 14).toInt = 34 := by rw [← hr, c]; decide
    have cR : ∀ c : Int, cmR f1 (I0 3).toInt (I0 14).toInt c = if c = 2 then [(0, 0, 0, 0)] else chR f1 (I0 3).toInt ((I0 14).toInt + 1) (c - 2).toNat := fun c => by unfold cmR; rw [if_pos c34]
    simp only [cR] at hZ
    refine f_M_quotesEnd ⟨hx, by omega, he⟩ (fun s hs => x_M_common_23 (fI_ite' (fun d => ?_) (fun _ => hno)))
    have d : ¬ s.toInt = (I0 14).toInt := fun q => d (zle_eq.2 q)
    have hs := hs.2.resolve_left d
    have s1 : (s - 1).toInt = s.toInt - 1 := zsub1 (by simp only [Int32.reduceToInt]; omega) (by simp only [Int32.reduceToInt]; omega)
    have lp : ∀ (N : Nat) (I g2 g3 g4 g5 : Nat → Int32) (x : Int32), zfr [12] I0 I → (I0 14).toInt + 1 ≤ x.toInt → x.toInt ≤ s.toInt - 1 → ((s.toInt = (I0 14).toInt + 2 ∧ apR f2 f3 f4 f5 (I0 12).toInt g2 g3 g4 g5 (I 12).toInt [(0, 0, 0, 0)]) ∨ (¬ s.toInt = (I0 14).toInt + 2 ∧ apR f2 f3 f4 f5 (I0 12).toInt g2 g3 g4 g5 (I 12).toInt (chR f1 (I0 3).toInt ((I0 14).toInt + 1) (x.toInt - (I0 14).toInt - 1).toNat))) → v_M_common_58 J0 64 f1 320 320 320 320 s Z1 N I g2 g3 g4 g5 x → v_M_common_58 J0 64 f1 320 320 320 320 s Z2 N I g2 g3 g4 g5 x := by
      intro N
      induction N with
      | zero => intro I g2 g3 g4 g5 x _ _ _ _ h; exact h.elim
      | succ N ih =>
        intro I g2 g3 g4 g5 x hf hx1 hx2 hA
        refine x_M_common_58 (fI_ite (fun q => hZ 1 _ g2 g3 g4 g5 (Or.inr ⟨by decide, ?_⟩)) (fun q => fI_and (fun _ => ?_)))
        · rw [zle_le, s1] at q
          show apR f2 f3 f4 f5 (I0 12).toInt g2 g3 g4 g5 (I 12).toInt (if s.toInt - (I0 14).toInt = 2 then [(0, 0, 0, 0)] else chR f1 (I0 3).toInt ((I0 14).toInt + 1) (s.toInt - (I0 14).toInt - 2).toNat)
          rcases hA with ⟨w, hA⟩ | ⟨w, hA⟩
          · rw [if_pos (by omega)]; exact hA
          · rw [if_neg (by omega), show (s.toInt - (I0 14).toInt - 2).toNat = (x.toInt - (I0 14).toInt - 1).toNat by omega]; exact hA
        · rw [zle_le, s1] at q
          have e1 : (x + 1).toInt = x.toInt + 1 := zadd1 (by simp only [Int32.reduceToInt]; omega) (by simp only [Int32.reduceToInt]; omega)
          rcases hA with ⟨w, hA⟩ | ⟨w, hA⟩
          · omega
          have ln := hA.1
          rw [chR_len] at ln
          have yx := kyf (f := f1) (e := (I0 3).toInt) (x := x) (by omega)
          refine gm_item (by omega) (by omega) (fun k1 k2 k3 k4 b => x_M_common_77 (ih _ k1 k2 k3 k4 (x + 1) (zfr_zu (by decide) hf) (by omega) (by omega) (Or.inr ⟨w, ?_⟩)))
          refine apR_e (apR_t h0 hA b) ?_
          rw [e1, show (x.toInt + 1 - (I0 14).toInt - 1).toNat = (x.toInt - (I0 14).toInt - 1).toNat + 1 by omega, chR_s, ← yx, show (I0 14).toInt + 1 + (((x.toInt - (I0 14).toInt - 1).toNat : Nat) : Int) = x.toInt by omega]
          rfl
    have n0 : ((I0 14 + 1).toInt - (I0 14).toInt - 1).toNat = 0 := by rw [a1]; omega
    refine fI_ite' (fun d2 => x_M_common_51 (fI_ex (fun N => lp N I0 f2 f3 f4 f5 (I0 14 + 1) zfr_refl (by omega) (by omega) (Or.inr ⟨fun q => d2 (zle_eq.2 (q.trans a2.symm)), by rw [n0]; exact apR_0⟩)))) (fun d2 => gm_item h0 (by omega) (fun g1 g2 g3 g4 b => x_M_common_51 (fI_ex (fun N => lp N _ g1 g2 g3 g4 (I0 14 + 1) (zfr_zu (by decide) zfr_refl) (by omega) (by rw [d2, a1, a2]; omega) (Or.inl ⟨by rw [d2, a2], b⟩)))))
theorem gm_comma {Z1 Z2 : (Nat → Int32) × (Nat → Int32) × (Nat → Int32) × (Nat → Int32) × (Nat → Int32) → Prop} (hx : 0 ≤ (I0 14).toInt) (hx6 : (I0 14).toInt ≤ 64) (he : (I0 3).toInt ≤ 64) (h0 : 0 ≤ (I0 12).toInt) (h1 : (I0 12).toInt ≤ 100) (hf : 0 ≤ x1.toInt) (hZ : ∀ I g1 g3 g4 g5 : Nat → Int32, (0 ≤ (I 13).toInt ∨ apR f1 f3 f4 f5 (I0 12).toInt g1 g3 g4 g5 (I 12).toInt (if ((x1.toInt < (I0 12).toInt ∧ (f1 (160 + I0 12 - 1).toNatClampNeg).toInt = 2) ∧ (ych f2 (I0 3).toInt ((I0 14).toInt + 1) = 48 ∨ ych f2 (I0 3).toInt ((I0 14).toInt + 1) = 35 ∨ ych f2 (I0 3).toInt ((I0 14).toInt + 1) = 63)) then [(6, 0, 0, 0)] else [(5, 0, 0, 0)]) ∧ (I 19).toInt = (I0 19).toInt) → Z1 (I, g1, g3, g4, g5) → Z2 (I, g1, g3, g4, g5)) : v_M_comma_0 I0 J0 320 f1 64 f2 320 f3 320 f4 320 f5 x1 Z1 → v_M_comma_0 I0 J0 320 f1 64 f2 320 f3 320 f4 320 f5 x1 Z2 := by
  have a1 : (I0 14 + 1).toInt = (I0 14).toInt + 1 := zadd1 (by simp only [Int32.reduceToInt]; omega) (by simp only [Int32.reduceToInt]; omega)
  refine x_M_comma_0 (f_M_before ⟨h0, h1, hf⟩ (fun r hr => ?_))
  have g43 : ¬ ((x1.toInt < (I0 12).toInt ∧ (f1 (160 + I0 12 - 1).toNatClampNeg).toInt = 2) ∧ (ych f2 (I0 3).toInt ((I0 14).toInt + 1) = 48 ∨ ych f2 (I0 3).toInt ((I0 14).toInt + 1) = 35 ∨ ych f2 (I0 3).toInt ((I0 14).toInt + 1) = 63)) → v_M_comma_43 (zu I0 18 1) J0 320 f1 64 f2 320 f3 320 f4 320 f5 r Z1 → v_M_comma_43 (zu I0 18 1) J0 320 f1 64 f2 320 f3 320 f4 320 f5 r Z2 := fun n => by
    have g53 : v_M_comma_53 (zu I0 18 1) J0 320 f1 64 f2 320 f3 320 f4 320 f5 Z1 → v_M_comma_53 (zu I0 18 1) J0 320 f1 64 f2 320 f3 320 f4 320 f5 Z2 := x_M_comma_53 (gm_item (I0 := zu I0 18 1) h0 (by show (I0 12).toInt ≤ 1000; omega) (fun g1 g2 g3 g4 b => x_M_comma_60 (x_M_comma_76 (hZ _ g1 g2 g3 g4 (Or.inr ⟨by rw [if_neg n]; exact b, rfl⟩)))))
    exact x_M_comma_43 (fI_ite (fun _ => g53) (fun _ => fI_ite' (fun _ => x_M_comma_76 (hZ _ f1 f3 f4 f5 (Or.inl hx))) (fun _ => g53)))
  refine x_M_comma_5 (fI_ite' (fun c => g43 (fun q => ?_)) (fun c => ?_))
  · rcases hr with ⟨w, _⟩ | ⟨_, w⟩
    · omega
    · rw [w] at c
      exact c (zle_eq.2 (q.1.2.trans (by decide)))
  · have k2 : x1.toInt < (I0 12).toInt ∧ (f1 (160 + I0 12 - 1).toNatClampNeg).toInt = 2 := by
      rcases hr with ⟨_, w⟩ | ⟨w0, w⟩
      · rw [c] at w; exact absurd w (by decide)
      · exact ⟨w0, by rw [← w, c]; decide⟩
    refine f_M_ch (I0 := zu I0 18 1) ⟨by show 0 ≤ (I0 14 + 1).toInt; omega, he⟩ (fun r2 hr2 => x_M_comma_26 (f_M_isPlace trivial (fun r3 hr3 => x_M_comma_29 (fI_ite (fun d => g43 (fun q => ?_)) (fun d => ?_)))))
    · have hr2 : r2.toInt = ych f2 (I0 3).toInt (I0 14 + 1).toInt := hr2
      rw [hr2, a1, d] at hr3
      rcases hr3 with ⟨w, _⟩ | ⟨_, w⟩
      · exact absurd w (by decide)
      · exact w q.2
    · have hr2 : r2.toInt = ych f2 (I0 3).toInt (I0 14 + 1).toInt := hr2
      rw [hr2, a1] at hr3
      rcases hr3 with ⟨_, w⟩ | ⟨w, _⟩
      · exact gm_item (I0 := zu I0 18 1) h0 (by show (I0 12).toInt ≤ 1000; omega) (fun g1 g2 g3 g4 b => x_M_comma_40 (x_M_comma_76 (hZ _ g1 g2 g3 g4 (Or.inr ⟨by rw [if_pos ⟨k2, w⟩]; exact b, rfl⟩))))
      · exact absurd (zle_eq.2 (w.trans (by decide))) d
end
