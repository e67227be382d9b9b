/-! a section's items and cells together -/
def kdF (kd : Int) (L : List (Int × Int)) : Prop := (kd = 3 ∨ (cK 7 L = 0 ∧ cK 8 L = 0)) ∧ (kd = 4 ∨ (cK 9 L = 0 ∧ cK 11 L = 0 ∧ cK 12 L = 0))
def kz (X : List (Int × Int)) : Prop := (cK 7 X = 0 ∧ cK 8 X = 0) ∧ cK 9 X = 0 ∧ cK 11 X = 0 ∧ cK 12 X = 0
theorem kdF_a {kd : Int} {L X : List (Int × Int)} (h : kdF kd L) (hX : kz X) : kdF kd (L ++ X) := by
  unfold kdF kz at *
  simp only [cK_a]
  omega
theorem kz_1 {k c : Int} (h : ¬ k = 7 ∧ ¬ k = 8 ∧ ¬ k = 9 ∧ ¬ k = 11 ∧ ¬ k = 12) : kz [(k, c)] := by
  have z : ∀ j : Int, ¬ k = j → cK j [(k, c)] = 0 := fun j hj => by rw [cK_11, if_neg hj]
  exact ⟨⟨z _ h.1, z _ h.2.1⟩, z _ h.2.2.1, z _ h.2.2.2.1, z _ h.2.2.2.2⟩
theorem kz_ch {f : Nat → Int32} {e p : Int} {n : Nat} : kz (chL 1 f e p n) := by
  have z : ∀ j : Int, ¬ (1 : Int) = j → cK j (chL 1 f e p n) = 0 := fun j hj => by rw [cK_ch, if_neg hj]
  exact ⟨⟨z _ (by decide), z _ (by decide)⟩, z _ (by decide), z _ (by decide), z _ (by decide)⟩
theorem kz_a {X Y : List (Int × Int)} (h : kz X) (k : kz Y) : kz (X ++ Y) := by
  unfold kz at *
  simp only [cK_a]
  omega
theorem kz_qt {f : Nat → Int32} {e p : Int} : ∀ n : Nat, kz (qtL f e p n)
  | 0 => kz_1 (by decide)
  | n + 1 => kz_a (X := [(15, ych f e p)]) (kz_1 (by decide)) kz_ch
theorem exC_len : ∀ L : List (Int × Int), L.length ≤ (exC L).length
  | [] => Nat.le_refl _
  | p :: r => by
    have := exC_len r
    show r.length + 1 ≤ (if p.1 = 15 then (0, 0) :: (1, p.2) :: exC r else p :: exC r).length
    split
    · show r.length + 1 ≤ (exC r).length + 1 + 1; omega
    · show r.length + 1 ≤ (exC r).length + 1; omega
def secO (S K M : Nat → Int32) (n : Int) (L : List (Int × Int)) (pc : Int) : Prop := cs K M (S 1).toInt n = exC L ∧ (0 ≤ (S 1).toInt ∧ (S 1).toInt ≤ n ∧ n ≤ 64) ∧ sCt S L pc ∧ kdF (S 0).toInt L ∧ (0 ≤ pc ∧ pc ≤ L.length)
theorem secO_b {S K M : Nat → Int32} {n pc : Int} {L : List (Int × Int)} (h : secO S K M n L pc) : (∀ k : Int, 0 ≤ cK k L ∧ cK k L ≤ 64) ∧ 0 ≤ pc ∧ pc ≤ 64 := by
  obtain ⟨a, b, _, _, d⟩ := h
  have l1 := exC_len L
  have l2 := csL (K := K) (M := M) b.2.1
  rw [a] at l2
  refine ⟨fun k => ⟨cK_0 L, ?_⟩, by omega, by omega⟩
  have := cK_le (k := k) L
  omega
def stepO (S S2 K M : Nat → Int32) (n : Int) (K2 M2 : Nat → Int32) (n2 kd kd2 : Int) (X : List (Int × Int)) (d : Int) : Prop := (∀ j : Nat, (j : Int) < (S 1).toInt → K2 j = K j ∧ M2 j = M j) ∧ ∀ (L : List (Int × Int)) (pc : Int), secO S K M n L pc → secO S2 K2 M2 n2 (stL kd kd2 L X) (pc + d)
theorem stL_n {kd kd2 : Int} {L X : List (Int × Int)} (h : ¬ (kd = 2 ∧ kd2 = 4)) : stL kd kd2 L X = L ++ X := by unfold stL; rw [if_neg h]
theorem st_1 {S S2 K M K2 M2 : Nat → Int32} {n n2 kd kd2 d : Int} {X : List (Int × Int)} (hA : apA K M n K2 M2 n2 (exC X)) (hb : 0 ≤ (S 1).toInt ∧ (S 1).toInt ≤ n) (hn : n2 ≤ 64) (h1 : (S2 1).toInt = (S 1).toInt) (hk : ¬ (kd = 2 ∧ kd2 = 4)) (hd : 0 ≤ d ∧ d ≤ X.length) (hS : ∀ (L : List (Int × Int)) (pc : Int), secO S K M n L pc → sCt S2 (L ++ X) (pc + d) ∧ kdF (S2 0).toInt (L ++ X)) : stepO S S2 K M n K2 M2 n2 kd kd2 X d := by
  refine ⟨fun j hj => hA.2.1 j (by omega), fun L pc h => ?_⟩
  have q := hS L pc h
  rw [stL_n hk]
  obtain ⟨a, b, c, e, g⟩ := h
  have e1 := hA.1
  refine ⟨?_, by omega, q.1, q.2, by rw [List.length_append]; omega⟩
  rw [h1, apA_cs hA hb.1 hb.2, a, exC_a]
theorem st_n {S K M K2 M2 : Nat → Int32} {n n2 kd : Int} {X : List (Int × Int)} (hA : apA K M n K2 M2 n2 (exC X)) (hb : 0 ≤ (S 1).toInt ∧ (S 1).toInt ≤ n) (hn : n2 ≤ 64) (hX : neu X) (hz : kz X) : stepO S S K M n K2 M2 n2 kd kd X 0 :=
  st_1 hA hb hn rfl (fun q => by omega) ⟨Int.le_refl _, by omega⟩ (fun L pc h => ⟨sC_n h.2.2.1 hX, kdF_a h.2.2.2.1 hz⟩)
theorem exC_1 {k c : Int} (h : ¬ k = 15) : exC [(k, c)] = [(k, c)] := by
  show (if k = 15 then _ else [(k, c)]) = _
  rw [if_neg h]
/-! items of the class, one by one -/
section
variable {I0 I1 I2 I3 f1 f2 f3 f4 f5 : Nat → Int32} {x1 x2 : Int32}
theorem g_Code_add {Z1 Z2 : (Nat → Int32) × (Nat → Int32) × (Nat → Int32) → Prop} (h0 : 0 ≤ (I0 4).toInt) (h1 : (I0 4).toInt ≤ 63) (hZ : ∀ I g1 g2 : Nat → Int32, zfr [4] I0 I → apA f1 f2 (I0 4).toInt g1 g2 (I 4).toInt [(x1.toInt, x2.toInt)] → Z1 (I, g1, g2) → Z2 (I, g1, g2)) : v_Code_add_0 I0 64 f1 64 f2 x1 x2 Z1 → v_Code_add_0 I0 64 f1 64 f2 x1 x2 Z2 := by
  have e : (I0 4 + 1).toInt = (I0 4).toInt + 1 := zadd1 (by simp only [Int32.reduceToInt]; omega) (by simp only [Int32.reduceToInt]; omega)
  refine x_Code_add_0 (fI_ite (fun c => ?_) (fun c => fI_ite (fun c2 => ?_) (fun c2 => fI_ite (fun c3 => ?_) (fun c3 => ?_))))
  · simp only [zle_lt, Int32.reduceToInt] at c; exact absurd c (by omega)
  · simp only [zle_le, qnI64] at c2; exact absurd c2 (by omega)
  · simp only [zle_le, qnI64] at c3; exact absurd c3 (by omega)
  · exact fI_and (fun _ => fI_and (fun _ => hZ (zu I0 4 (I0 4 + 1)) _ _ (zfr_zu (by decide) zfr_refl) (apA_1 rfl h0 e)))
theorem g_addOne {Z1 Z2 : Int32 → (Nat → Int32) × (Nat → Int32) × (Nat → Int32) → Prop} (h0 : 0 ≤ (I1 4).toInt) (h1 : (I1 4).toInt ≤ 63) (hZ : ∀ I g1 g2 : Nat → Int32, zfr [4] I1 I → apA f2 f3 (I1 4).toInt g1 g2 (I 4).toInt [(x1.toInt, x2.toInt)] → Z1 1 (I, g1, g2) → Z2 1 (I, g1, g2)) : v_Reader_addOne_0 I0 I1 64 f2 64 f3 x1 x2 Z1 → v_Reader_addOne_0 I0 I1 64 f2 64 f3 x1 x2 Z2 :=
  x_Reader_addOne_0 (g_Code_add h0 h1 (fun I g1 g2 a b => x_Reader_addOne_9 (hZ I g1 g2 a b)))
theorem g_addRow {Z1 Z2 : Int32 → (Nat → Int32) × (Nat → Int32) × (Nat → Int32) → Prop} (h0 : 0 ≤ (I1 4).toInt) (h1 : (I1 4).toInt ≤ 63) (hZ : ∀ I g1 g2 : Nat → Int32, zfr [4] I1 I → apA f2 f3 (I1 4).toInt g1 g2 (I 4).toInt [(x1.toInt, x2.toInt)] → Z1 x2 (I, g1, g2) → Z2 x2 (I, g1, g2)) : v_Reader_addRow_0 I0 I1 64 f2 64 f3 x1 x2 Z1 → v_Reader_addRow_0 I0 I1 64 f2 64 f3 x1 x2 Z2 :=
  x_Reader_addRow_0 (g_Code_add h0 h1 (fun I g1 g2 a b => x_Reader_addRow_9 (hZ I g1 g2 a b)))
theorem g_readSign {Z1 Z2 : Int32 → (Nat → Int32) × (Nat → Int32) × (Nat → Int32) → Prop} (hc : qC f1) (hx : 0 ≤ x1.toInt) (he : (I0 1).toInt ≤ 64) (h0 : 0 ≤ (I2 4).toInt) (h1 : (I2 4).toInt ≤ 63) (hZ : ∀ (r : Int32) (I g1 g2 : Nat → Int32), zfr [4] I2 I → (r.toInt ≤ 0 ∨ apA f3 f4 (I2 4).toInt g1 g2 (I 4).toInt [(1, ych f1 (I0 1).toInt x1.toInt)]) → Z1 r (I, g1, g2) → Z2 r (I, g1, g2)) : v_Reader_readSign_0 I0 64 f1 I2 64 f3 64 f4 x1 Z1 → v_Reader_readSign_0 I0 64 f1 I2 64 f3 64 f4 x1 Z2 := by
  refine x_Reader_readSign_0 (h_Reader_sign ⟨hc, hx, he⟩ (fun r u hr => ?_))
  have g : ∀ s : Int32, v_Reader_readSign_35 I0 64 f1 I2 64 f3 64 f4 r s Z1 → v_Reader_readSign_35 I0 64 f1 I2 64 f3 64 f4 r s Z2 := fun s =>
    x_Reader_readSign_35 (fI_ite (fun _ => hZ 0 I2 f3 f4 zfr_refl (Or.inl (by decide))) (fun _ => g_addOne h0 h1 (fun I g1 g2 a b => x_Reader_readSign_46 (hZ 1 I g1 g2 a (Or.inr (by rw [← hr]; exact b))))))
  exact x_Reader_readSign_5 (fI_ite (fun _ => x_Reader_readSign_30 (g 1)) (fun _ => fI_ite (fun _ => x_Reader_readSign_30 (g 1)) (fun _ => fI_ite (fun _ => x_Reader_readSign_30 (g 1)) (fun _ => fI_ite' (fun _ => g 0) (fun _ => x_Reader_readSign_30 (g 1))))))
theorem g_addCommon {Z1 Z2 : (Nat → Int32) × (Nat → Int32) × (Nat → Int32) → Prop} (hc : qC f1) (hx : 0 ≤ x1.toInt) (hx6 : x1.toInt ≤ 64) (he : (I0 1).toInt ≤ 64) (h0 : 0 ≤ (I2 4).toInt) (hk : kCl f1 (I0 1).toInt x1.toInt x2.toInt) (hk1 : 1 ≤ x2.toInt) (h1 : (I2 4).toInt + x2.toInt ≤ 64) (hZ : ∀ I g1 g2 : Nat → Int32, zfr [4] I2 I → apA f3 f4 (I2 4).toInt g1 g2 (I 4).toInt (exC (cmL f1 (I0 1).toInt x1.toInt x2.toInt)) → Z1 (I, g1, g2) → Z2 (I, g1, g2)) : v_Reader_addCommon_0 I0 64 f1 I2 64 f3 64 f4 x1 x2 Z1 → v_Reader_addCommon_0 I0 64 f1 I2 64 f3 64 f4 x1 x2 Z2 := by
  have hx1 : (x1 + 1).toInt = x1.toInt + 1 := zadd1 (by simp only [Int32.reduceToInt]; omega) (by simp only [Int32.reduceToInt]; omega)
  refine x_Reader_addCommon_0 (h_Reader_sign ⟨hc, hx, he⟩ (fun r u hr => ?_))
  refine x_Reader_addCommon_5 (fI_ite (fun c => ?_) (fun c => ?_))
  · have c : ych f1 (I0 1).toInt x1.toInt = 34 := by rw [← hr, c]; decide
    have hx2 : 2 ≤ x2.toInt := by
      rcases hk with ⟨_, q, hq, e⟩ | ⟨a, _⟩ | ⟨a, _⟩ | ⟨a, _⟩
      · rcases hq with ⟨a, _⟩ | ⟨a, _⟩ <;> omega
      · omega
      · omega
      · omega
    have eX : exC (cmL f1 (I0 1).toInt x1.toInt x2.toInt) = (0, 0) :: chL 1 f1 (I0 1).toInt (x1.toInt + 1) (x2.toInt - 2).toNat := by
      unfold cmL; rw [if_pos c, qtL_C]
    rw [eX] at hZ
    have e21 : (x2 - 1).toInt = x2.toInt - 1 := zsub1 (by simp only [Int32.reduceToInt]; omega) (by simp only [Int32.reduceToInt]; omega)
    have lp : ∀ (N : Nat) (I g1 g2 : Nat → Int32) (x3 : Int32), zfr [4] I2 I → 1 ≤ x3.toInt → x3.toInt ≤ x2.toInt - 1 → apA f3 f4 (I2 4).toInt g1 g2 (I 4).toInt ((0, 0) :: chL 1 f1 (I0 1).toInt (x1.toInt + 1) (x3.toInt - 1).toNat) → v_Reader_addCommon_67 I0 64 f1 64 64 x1 x2 Z1 N I g1 g2 x3 → v_Reader_addCommon_67 I0 64 f1 64 64 x1 x2 Z2 N I g1 g2 x3 := by
      intro N
      induction N with
      | zero => intro I g1 g2 x3 _ _ _ _ h; exact h.elim
      | succ N ih =>
        intro I g1 g2 x3 hf h3 h3b hA
        have ln := hA.1
        have ll : (((0, 0) :: chL 1 f1 (I0 1).toInt (x1.toInt + 1) (x3.toInt - 1).toNat).length : Int) = x3.toInt := by
          show (((chL 1 f1 (I0 1).toInt (x1.toInt + 1) (x3.toInt - 1).toNat).length + 1 : Nat) : Int) = x3.toInt
          rw [chL_len]; omega
        rw [ll] at ln
        refine x_Reader_addCommon_67 (fI_ite (fun d => ?_) (fun d => ?_))
        · rw [zle_le, e21] at d
          exact x_Reader_addCommon_154 (hZ I g1 g2 hf (by rw [show (x2.toInt - 2).toNat = (x3.toInt - 1).toNat by omega]; exact hA))
        · rw [zle_le, e21] at d
          have e13 : (x1 + x3).toInt = x1.toInt + x3.toInt := zadd1 (by omega) (by omega)
          have e31 : (x3 + 1).toInt = x3.toInt + 1 := zadd1 (by simp only [Int32.reduceToInt]; omega) (by simp only [Int32.reduceToInt]; omega)
          refine h_Reader_sign ⟨hc, by rw [e13]; omega, he⟩ (fun r2 u2 hr2 => x_Reader_addCommon_86 (g_Code_add (by omega) (by omega) (fun J k1 k2 a b => x_Reader_addCommon_89 (ih J k1 k2 (x3 + 1) (fun q hq => (a q hq).trans (hf q hq)) (by rw [e31]; omega) (by rw [e31]; omega) ?_))))
          refine apA_e (apA_t h0 hA b) ?_
          rw [e31, show (x3.toInt + 1 - 1).toNat = (x3.toInt - 1).toNat + 1 by omega, chL_s, hr2, e13, show x1.toInt + 1 + (((x3.toInt - 1).toNat : Nat) : Int) = x1.toInt + x3.toInt by omega]
          rfl
    refine g_Code_add h0 (by omega) (fun I g1 g2 a b => x_Reader_addCommon_65 (fI_ex (fun N => lp N I g1 g2 1 a (by decide) (by simp only [Int32.reduceToInt]; omega) ?_)))
    rw [show ((1 : Int32).toInt - 1).toNat = 0 by decide]
    exact b
  have c34 : ¬ ych f1 (I0 1).toInt x1.toInt = 34 := fun q => c (zle_eq.2 ((hr.trans q).trans (by decide)))
  clear hk
  unfold cmL at hZ
  rw [if_neg c34] at hZ
  refine fI_ite (fun c2 => ?_) (fun c2 => ?_)
  · have d : ych f1 (I0 1).toInt x1.toInt = 42 := by rw [← hr, c2]; decide
    rw [if_neg (by omega), if_neg (by omega), if_pos (Or.inl d)] at hZ
    exact g_Code_add h0 (by omega) (fun I g1 g2 a b => x_Reader_addCommon_138 (x_Reader_addCommon_154 (hZ I g1 g2 a b)))
  have c42 : ¬ ych f1 (I0 1).toInt x1.toInt = 42 := fun q => c2 (zle_eq.2 ((hr.trans q).trans (by decide)))
  refine fI_ite (fun c3 => ?_) (fun c3 => ?_)
  · have d : ych f1 (I0 1).toInt x1.toInt = 91 := by rw [← hr, c3]; decide
    rw [if_neg (by omega), if_neg (by omega), if_pos (Or.inr d)] at hZ
    exact g_Code_add h0 (by omega) (fun I g1 g2 a b => x_Reader_addCommon_138 (x_Reader_addCommon_154 (hZ I g1 g2 a b)))
  have c91 : ¬ ych f1 (I0 1).toInt x1.toInt = 91 := fun q => c3 (zle_eq.2 ((hr.trans q).trans (by decide)))
  refine fI_ite (fun c4 => ?_) (fun c4 => ?_)
  · have d : ych f1 (I0 1).toInt x1.toInt = 92 := by rw [← hr, c4]; decide
    rw [if_pos d] at hZ
    refine h_Reader_sign ⟨hc, by rw [hx1]; omega, he⟩ (fun r2 u2 hr2 => x_Reader_addCommon_110 (g_Code_add h0 (by omega) (fun I g1 g2 a b => x_Reader_addCommon_113 (x_Reader_addCommon_154 (hZ I g1 g2 a ?_)))))
    rw [hr2, hx1] at b
    exact b
  have c92 : ¬ ych f1 (I0 1).toInt x1.toInt = 92 := fun q => c4 (zle_eq.2 ((hr.trans q).trans (by decide)))
  rw [if_neg c92] at hZ
  refine fI_ite (fun c5 => ?_) (fun c5 => ?_)
  · have d : ych f1 (I0 1).toInt x1.toInt = 95 := by rw [← hr, c5]; decide
    rw [if_pos d] at hZ
    exact g_Code_add h0 (by omega) (fun I g1 g2 a b => x_Reader_addCommon_126 (x_Reader_addCommon_154 (hZ I g1 g2 a b)))
  · have c95 : ¬ ych f1 (I0 1).toInt x1.toInt = 95 := fun q => c5 (zle_eq.2 ((hr.trans q).trans (by decide)))
    rw [if_neg c95, if_neg (by omega)] at hZ
    refine h_Reader_sign ⟨hc, hx, he⟩ (fun r2 u2 hr2 => x_Reader_addCommon_151 (g_Code_add h0 (by omega) (fun I g1 g2 a b => x_Reader_addCommon_154 (hZ I g1 g2 a ?_))))
    rw [hr2] at b
    have e1 : exC [(1, ych f1 (I0 1).toInt x1.toInt)] = [(1, ych f1 (I0 1).toInt x1.toInt)] := exC_1 (by decide)
    rw [e1]
    exact b
end
