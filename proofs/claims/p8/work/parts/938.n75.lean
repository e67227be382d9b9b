/-! fractions of the class -/
theorem cfr_1 {S S2 K g M : Nat → Int32} {n pc : Int} {L : List (Int × Int)} (hm : mnP (zu S 0 4) S2 K g n) (h2 : (S 0).toInt = 2) (h : secO S K M n L pc) : secO S2 g M n (nrL L) pc ∧ cK 11 (nrL L) = 0 ∧ cK 12 (nrL L) = 0 := by
  obtain ⟨zf, x, hx, hl, hh, he, e3, e10⟩ := hm
  obtain ⟨a, b, ⟨⟨c3, c4, c7, c8⟩, ⟨c9, c10, c11⟩, c12, c13, c6, c14⟩, kd, d⟩ := h
  have s1 : S2 1 = S 1 := zf 1 (by decide)
  obtain ⟨q1, q2, q3⟩ := nr_cs (K := K) (g := g) (M := M) (a := (S 1).toInt) (n := n) (x := x) b.1 hx.1 hx.2 hl hh he
  rw [a] at q1 q2 q3
  rw [q1, ← nr_C] at q2 q3
  rw [cK_exC (by decide) (by decide) (by decide), cK_exC (by decide) (by decide) (by decide)] at q2 q3
  have z : ∀ j : Int, ¬ j = 2 → ¬ j = 9 → cK j (nrL L) = cK j L := fun j u v => cK_nr u v L
  have e3 : (S2 3).toInt = (S 3).toInt - (n - 1 - x) := e3
  have e10 : (S2 10).toInt = (S 10).toInt + (n - 1 - x) := e10
  rw [h2] at kd
  have k1 := kd.1
  have k2 := kd.2
  refine ⟨⟨?_, by rw [s1]; exact b, ⟨⟨?_, ?_, ?_, ?_⟩, ⟨?_, ?_, ?_⟩, ?_, ?_, ?_, ?_⟩, ⟨Or.inr ⟨?_, ?_⟩, Or.inl ?_⟩, ?_⟩, ?_, ?_⟩
  · rw [s1, q1, nr_C]
  · rw [e3, c3, q2]
  · rw [zf 4 (by decide), z 3 (by decide) (by decide)]; exact c4
  · rw [zf 7 (by decide), z 6 (by decide) (by decide)]; exact c7
  · rw [zf 8 (by decide)]; exact c8
  · rw [zf 9 (by decide), z 8 (by decide) (by decide)]; exact c9
  · rw [e10, c10, q3]
  · rw [zf 11 (by decide), z 11 (by decide) (by decide)]; exact c11
  · rw [zf 12 (by decide), gv_nr]; exact c12
  · rw [zf 13 (by decide), pm_nr]; exact c13
  · rw [zf 6 (by decide), z 5 (by decide) (by decide)]; exact c6
  · rw [zf 14 (by decide), z 30 (by decide) (by decide)]; exact c14
  · rw [z 7 (by decide) (by decide)]; omega
  · rw [z 8 (by decide) (by decide)]; omega
  · rw [zf 0 (by decide)]; exact (show (4 : Int32).toInt = 4 by decide)
  · rw [nrL_len]; exact d
  · rw [z 11 (by decide) (by decide)]; omega
  · rw [z 12 (by decide) (by decide)]; omega
def cfX (f : Nat → Int32) (e q : Int) (a b : Nat) : List (Int × Int) := (10, 47) :: (chL 11 f e q a ++ chL 12 f e q b)
theorem cfX_k {f : Nat → Int32} {e q j : Int} {a b : Nat} (h : ¬ (10 : Int) = j) : cK j (cfX f e q a b) = (if (11 : Int) = j then (a : Int) else 0) + (if (12 : Int) = j then (b : Int) else 0) := by
  show (if (10 : Int) = j then 1 else 0) + cK j (chL 11 f e q a ++ chL 12 f e q b) = _
  rw [if_neg h, cK_a, cK_ch, cK_ch, Int.zero_add]
theorem cfX_C {f : Nat → Int32} {e q : Int} {a b : Nat} : exC (cfX f e q a b) = cfX f e q a b := by
  show (10, 47) :: exC (chL 11 f e q a ++ chL 12 f e q b) = _
  rw [exC_a, chL_C (by decide), chL_C (by decide)]; rfl
theorem cfX_len {f : Nat → Int32} {e q : Int} {a b : Nat} : (cfX f e q a b).length = 1 + a + b := by
  show (chL 11 f e q a ++ chL 12 f e q b).length + 1 = _
  rw [List.length_append, chL_len, chL_len]; omega
theorem cfX_g {f : Nat → Int32} {e q : Int} {a b : Nat} : gvF 0 (cfX f e q a b) = gvF 0 (chL 12 f e q b) := by
  show gvF 0 (chL 11 f e q a ++ chL 12 f e q b) = _
  rw [gvF_app, gvF_0 (chL 11 f e q a) 0 (by rw [cK_ch]; exact if_neg (by decide))]
theorem cfr_2 {S2 S3 g M g4 g5 f : Nat → Int32} {n n2 pc e q : Int} {L : List (Int × Int)} {a b : Nat} (h : secO S2 g M n L pc) (h11 : cK 11 L = 0) (h12 : cK 12 L = 0) (hA : apA g M n g4 g5 n2 (cfX f e q a b)) (hn : n2 ≤ 64) (hf : zfr [11, 12] S2 S3) (e11 : (S3 11).toInt = a) (e12 : (S2 12).toInt = 0 → (S3 12).toInt = gvF 0 (chL 12 f e q b)) (h0 : (S2 0).toInt = 4) : secO S3 g4 g5 n2 (L ++ cfX f e q a b) (pc + 0) := by
  obtain ⟨ha, hb, hs, kd, d⟩ := h
  have s1 : S3 1 = S2 1 := hf 1 (by decide)
  have l1 := hA.1
  have z : ∀ j : Int, ¬ (10 : Int) = j → ¬ (11 : Int) = j → ¬ (12 : Int) = j → cK j (cfX f e q a b) = 0 := fun j u v w => by rw [cfX_k u, if_neg v, if_neg w]; rfl
  have z12 : (S2 12).toInt = 0 := by rw [hs.2.2.1, gvF_0 _ _ h12]
  have k1 := kd.1
  refine ⟨?_, by rw [s1]; omega, sC_app hs ?_ ?_ ?_ ?_ ?_ ?_ ?_ ?_ ?_ (if5 hs ?_ ?_) (if30 hs ?_ ?_), ⟨Or.inr ⟨?_, ?_⟩, Or.inl ?_⟩, by rw [List.length_append]; omega⟩
  · rw [s1, apA_cs hA hb.1 hb.2.1, ha, exC_a, cfX_C]
  · rw [hf 3 (by decide)]; exact az (z 2 (by decide) (by decide) (by decide))
  · rw [hf 4 (by decide)]; exact az (z 3 (by decide) (by decide) (by decide))
  · rw [hf 7 (by decide)]; exact az (z 6 (by decide) (by decide) (by decide))
  · rw [hf 8 (by decide)]; exact az rfl
  · rw [hf 9 (by decide)]; exact az (z 8 (by decide) (by decide) (by decide))
  · rw [hf 10 (by decide)]; exact az (z 9 (by decide) (by decide) (by decide))
  · rw [e11, cfX_k (by decide), if_pos rfl, if_neg (by decide), hs.2.1.2.2, h11]; omega
  · rw [e12 z12, z12, cfX_g]
  · rw [hf 13 (by decide)]; exact (pmA_00 _ _ (z 29 (by decide) (by decide) (by decide))).symm
  · rw [hf 6 (by decide)]
  · exact z 5 (by decide) (by decide) (by decide)
  · rw [hf 14 (by decide)]
  · exact z 30 (by decide) (by decide) (by decide)
  · rw [cK_a, z 7 (by decide) (by decide) (by decide)]; omega
  · rw [cK_a, z 8 (by decide) (by decide) (by decide)]; omega
  · rw [hf 0 (by decide)]; exact h0
theorem cfr_3 {S S2 S3 K g M g4 g5 f : Nat → Int32} {n n2 e q kd kd2 : Int} {a b : Nat} (hk : kd = 2 ∧ kd2 = 4) (hm : mnP (zu S 0 4) S2 K g n) (h2 : (S 0).toInt = 2) (hA : apA g M n g4 g5 n2 (cfX f e q a b)) (hn : n2 ≤ 64) (hf : zfr [11, 12] S2 S3) (e11 : (S3 11).toInt = a) (e12 : (S2 12).toInt = 0 → (S3 12).toInt = gvF 0 (chL 12 f e q b)) : stepO S S3 K M n g4 g5 n2 kd kd2 (cfX f e q a b) 0 := by
  refine ⟨fun j hj => ?_, fun L pc h => ?_⟩
  · obtain ⟨zf, x, hx, hl, hh, he, e3, e10⟩ := hm
    have hx1 : (S 1).toInt ≤ x + 1 := hx.1
    have := hA.2.1 j (by omega)
    exact ⟨this.1.trans (hl j (by omega)), this.2⟩
  · obtain ⟨a1, a2, a3⟩ := cfr_1 hm h2 h
    unfold stL
    rw [if_pos hk]
    exact cfr_2 a1 a2 a3 hA hn hf e11 e12 (by rw [hm.1 0 (by decide)]; exact (show (4 : Int32).toInt = 4 by decide))
section
variable {I0 I1 I2 I3 f1 f2 f3 f4 f5 S2 g : Nat → Int32} {x1 x2 x3 : Int32}
theorem g_fr2 {Z1 Z2 : Int32 → (Nat → Int32) × (Nat → Int32) × (Nat → Int32) × (Nat → Int32) → Prop} {n : Int} (hc : qC f1) (hx : 0 ≤ x1.toInt) (hx6 : x1.toInt ≤ 63) (he : (I0 1).toInt ≤ 64) (h0 : 0 ≤ n) (h2 : 0 ≤ x2.toInt) (h3 : 0 ≤ x3.toInt ∧ x3.toInt ≤ 3) (h6 : n + 1 + x2.toInt + x3.toInt ≤ 64) (hd : ∀ j : Int, 0 ≤ j → j < x3.toInt → 48 ≤ ych f1 (I0 1).toInt (x1.toInt + 1 + j) ∧ ych f1 (I0 1).toInt (x1.toInt + 1 + j) ≤ 57)
    (hB : ∀ I S h4 h5 : Nat → Int32, zfr [12] S2 S → ((S2 12).toInt = 0 → (S 12).toInt = gvF 0 (chL 12 f1 (I0 1).toInt (x1.toInt + 1) x3.toInt.toNat)) → apA g f5 n h4 h5 (I 4).toInt (cfX f1 (I0 1).toInt (x1.toInt + 1) x2.toInt.toNat x3.toInt.toNat) → Z1 (1 + x2 + x3) (I, zu S 11 x2, h4, h5) → Z2 (1 + x2 + x3) (I, zu S 11 x2, h4, h5)) :
    ∀ (N : Nat) (I S h4 h5 : Nat → Int32) (x5 : Int32), 0 ≤ x5.toInt → x5.toInt ≤ x3.toInt → zfr [12] S2 S → ((S2 12).toInt = 0 → (S 12).toInt = gvF 0 (chL 12 f1 (I0 1).toInt (x1.toInt + 1) x5.toInt.toNat) ∧ 0 ≤ (S 12).toInt ∧ (x5.toInt ≤ 0 → (S 12).toInt ≤ 0) ∧ (x5.toInt ≤ 1 → (S 12).toInt ≤ 9) ∧ (x5.toInt ≤ 2 → (S 12).toInt ≤ 99) ∧ (S 12).toInt ≤ 999) → apA g f5 n h4 h5 (I 4).toInt (cfX f1 (I0 1).toInt (x1.toInt + 1) x2.toInt.toNat x5.toInt.toNat) → v_Reader_readFraction_124 I0 64 f1 64 64 x1 x2 x3 Z1 N I S h4 h5 x5 → v_Reader_readFraction_124 I0 64 f1 64 64 x1 x2 x3 Z2 N I S h4 h5 x5 := by
  have hx1 : (x1 + 1).toInt = x1.toInt + 1 := zadd1 (by simp only [Int32.reduceToInt]; omega) (by simp only [Int32.reduceToInt]; omega)
  intro N
  induction N with
  | zero => intro I S h4 h5 x5 _ _ _ _ _ h; exact h.elim
  | succ N ih =>
    intro I S h4 h5 x5 h5a h5b hf hv hA
    have ln := hA.1
    rw [cfX_len] at ln
    refine x_Reader_readFraction_124 (fI_ite (fun d => hB I S h4 h5 hf (fun q => ?_) ?_) (fun d => ?_))
    · rw [zle_le] at d
      rw [show x3.toInt.toNat = x5.toInt.toNat by omega]; exact (hv q).1
    · rw [zle_le] at d
      rw [show x3.toInt.toNat = x5.toInt.toNat by omega]; exact hA
    · rw [zle_le] at d
      have e17 : (x1 + 1 + x5).toInt = x1.toInt + 1 + x5.toInt := by rw [← hx1]; exact zadd1 (by omega) (by omega)
      have e51 : (x5 + 1).toInt = x5.toInt + 1 := zadd1 (by simp only [Int32.reduceToInt]; omega) (by simp only [Int32.reduceToInt]; omega)
      have en : (x5.toInt + 1).toNat = x5.toInt.toNat + 1 := by omega
      have ep : x1.toInt + 1 + ((x5.toInt.toNat : Nat) : Int) = x1.toInt + 1 + x5.toInt := by omega
      have dg := hd x5.toInt h5a (by omega)
      refine h_Reader_sign ⟨hc, by rw [e17]; omega, he⟩ (fun r4 u4 hr4 => x_Reader_readFraction_146 (g_Code_add (by omega) (by omega) (fun J k1 k2 a b => x_Reader_readFraction_149 (h_Reader_sign ⟨hc, by rw [e17]; omega, he⟩ (fun r5 u5 hr5 => x_Reader_readFraction_173 (ih J _ k1 k2 (x5 + 1) (by rw [e51]; omega) (by rw [e51]; omega) (zfr_zu (by decide) hf) (fun q => ?_) ?_))))))
      · have v := hv q
        rw [e17] at hr5
        rw [← hr5] at dg
        have m1 : (S 12 * 10).toInt = (S 12).toInt * 10 := zmul1 (by simp only [Int32.reduceToInt]; omega) (by simp only [Int32.reduceToInt]; omega)
        have m2 : (r5 - 48).toInt = r5.toInt - 48 := zsub1 (by simp only [Int32.reduceToInt]; omega) (by simp only [Int32.reduceToInt]; omega)
        have m3 : (S 12 * 10 + (r5 - 48)).toInt = (S 12).toInt * 10 + (r5.toInt - 48) := by rw [← m1, ← m2]; exact zadd1 (by rw [m1, m2]; omega) (by rw [m1, m2]; omega)
        show (S 12 * 10 + (r5 - 48)).toInt = _ ∧ 0 ≤ (S 12 * 10 + (r5 - 48)).toInt ∧ (_ → (S 12 * 10 + (r5 - 48)).toInt ≤ 0) ∧ (_ → (S 12 * 10 + (r5 - 48)).toInt ≤ 9) ∧ (_ → (S 12 * 10 + (r5 - 48)).toInt ≤ 99) ∧ (S 12 * 10 + (r5 - 48)).toInt ≤ 999
        rw [m3, e51]
        refine ⟨?_, by omega, by omega, by omega, by omega, by omega⟩
        rw [en, chL_s, gvF_app, ← v.1, ep, ← hr5]
        show _ = (if (12 : Int) = 12 then 10 * (S 12).toInt + r5.toInt - 48 else (S 12).toInt)
        rw [if_pos rfl]; omega
      · refine apA_e (apA_t h0 hA b) ?_
        rw [e51, hr4, e17, en]
        unfold cfX
        rw [chL_s, ep, ← List.append_assoc]; rfl
theorem g_fr1 {Z1 Z2 : Int32 → (Nat → Int32) × (Nat → Int32) × (Nat → Int32) × (Nat → Int32) → Prop} {n : Int} (hc : qC f1) (hx : 0 ≤ x1.toInt) (hx6 : x1.toInt ≤ 63) (he : (I0 1).toInt ≤ 64) (h0 : 0 ≤ n) (h2 : 0 ≤ x2.toInt ∧ x2.toInt ≤ 3) (h6 : n + 1 + x2.toInt ≤ 64)
    (hB : ∀ I h4 h5 : Nat → Int32, apA g f5 n h4 h5 (I 4).toInt (cfX f1 (I0 1).toInt (x1.toInt + 1) x2.toInt.toNat 0) → ∀ N, v_Reader_readFraction_124 I0 64 f1 64 64 x1 x2 x3 Z1 N I S2 h4 h5 0 → v_Reader_readFraction_124 I0 64 f1 64 64 x1 x2 x3 Z2 N I S2 h4 h5 0) :
    ∀ (N : Nat) (I h4 h5 : Nat → Int32) (x5 : Int32), 0 ≤ x5.toInt → x5.toInt ≤ x2.toInt → apA g f5 n h4 h5 (I 4).toInt (cfX f1 (I0 1).toInt (x1.toInt + 1) x5.toInt.toNat 0) → v_Reader_readFraction_90 I0 64 f1 S2 64 64 x1 x2 x3 Z1 N I h4 h5 x5 → v_Reader_readFraction_90 I0 64 f1 S2 64 64 x1 x2 x3 Z2 N I h4 h5 x5 := by
  have hx1 : (x1 + 1).toInt = x1.toInt + 1 := zadd1 (by simp only [Int32.reduceToInt]; omega) (by simp only [Int32.reduceToInt]; omega)
  intro N
  induction N with
  | zero => intro I h4 h5 x5 _ _ _ h; exact h.elim
  | succ N ih =>
    intro I h4 h5 x5 h5a h5b hA
    have ln := hA.1
    rw [cfX_len] at ln
    refine x_Reader_readFraction_90 (fI_ite (fun d => fI_ex (hB I h4 h5 ?_)) (fun d => ?_))
    · rw [zle_le] at d
      rw [show x2.toInt.toNat = x5.toInt.toNat by omega]; exact hA
    · rw [zle_le] at d
      have e17 : (x1 + 1 + x5).toInt = x1.toInt + 1 + x5.toInt := by rw [← hx1]; exact zadd1 (by omega) (by omega)
      have e51 : (x5 + 1).toInt = x5.toInt + 1 := zadd1 (by simp only [Int32.reduceToInt]; omega) (by simp only [Int32.reduceToInt]; omega)
      have en : (x5.toInt + 1).toNat = x5.toInt.toNat + 1 := by omega
      have ep : x1.toInt + 1 + ((x5.toInt.toNat : Nat) : Int) = x1.toInt + 1 + x5.toInt := by omega
      refine h_Reader_sign ⟨hc, by rw [e17]; omega, he⟩ (fun r4 u4 hr4 => x_Reader_readFraction_112 (g_Code_add (by omega) (by omega) (fun J k1 k2 a b => x_Reader_readFraction_115 (ih J k1 k2 (x5 + 1) (by rw [e51]; omega) (by rw [e51]; omega) ?_))))
      refine apA_e (apA_t h0 hA b) ?_
      rw [e51, hr4, e17, en]
      unfold cfX
      rw [chL_s, ep]
      show ((10 : Int), (47 : Int)) :: (chL 11 f1 (I0 1).toInt (x1.toInt + 1) x5.toInt.toNat ++ [] ++ [(11, _)]) = (10, 47) :: (_ ++ [])
      rw [List.append_nil, List.append_nil]
theorem g_readFraction {Z1 Z2 : Int32 → (Nat → Int32) × (Nat → Int32) × (Nat → Int32) × (Nat → Int32) → Prop} (hc : qC f1) (hx : 0 ≤ x1.toInt) (hx6 : x1.toInt ≤ 63) (he : (I0 1).toInt ≤ 64) (hb : 0 ≤ (I3 1).toInt ∧ (I3 1).toInt ≤ (I2 4).toInt) (h6 : (I2 4).toInt ≤ x1.toInt) (h20 : (I3 0).toInt = 2) (h3 : -5000 ≤ (I3 3).toInt ∧ (I3 3).toInt ≤ 5000) (h10 : -5000 ≤ (I3 10).toInt ∧ (I3 10).toInt ≤ 5000) (hZ : ∀ (r : Int32) (I S g4 g5 : Nat → Int32), (r.toInt ≤ 0 ∨ stepO I3 S f4 f5 (I2 4).toInt g4 g5 (I 4).toInt (I3 0).toInt (S 0).toInt ((10, 47) :: chL (if ych f1 (I0 1).toInt (x1.toInt + 1) = 48 ∨ ych f1 (I0 1).toInt (x1.toInt + 1) = 35 ∨ ych f1 (I0 1).toInt (x1.toInt + 1) = 63 then 11 else 12) f1 (I0 1).toInt (x1.toInt + 1) (r.toInt - 1).toNat) 0) → Z1 r (I, S, g4, g5) → Z2 r (I, S, g4, g5)) : v_Reader_readFraction_0 I0 64 f1 I2 I3 64 f4 64 f5 x1 Z1 → v_Reader_readFraction_0 I0 64 f1 I2 I3 64 f4 64 f5 x1 Z2 := by
  have hx1 : (x1 + 1).toInt = x1.toInt + 1 := zadd1 (by simp only [Int32.reduceToInt]; omega) (by simp only [Int32.reduceToInt]; omega)
  have hno := hZ 0 I2 I3 f4 f5 (Or.inl (by decide))
  refine x_Reader_readFraction_0 (h_Reader_placesFrom ⟨hc, by rw [hx1]; omega, by rw [hx1]; omega, he⟩ (fun r u hr => x_Reader_readFraction_7 (h_Reader_digitsFrom ⟨hc, by rw [hx1]; omega, by rw [hx1]; omega, he⟩ (fun r2 u2 hr2 => x_Reader_readFraction_15 (h_Reader_kindBefore ⟨by omega, by omega, by omega⟩ (fun r3 u3 _ => ?_))))))
  rw [hx1] at hr hr2
  obtain ⟨p0, p3, pn⟩ := hr
  obtain ⟨d0, d3, dn⟩ := hr2
  have pe := kPn_end pn
  have pz := kPn_z pn
  have hd : ∀ j : Int, 0 ≤ j → j < r2.toInt → 48 ≤ ych f1 (I0 1).toInt (x1.toInt + 1 + j) ∧ ych f1 (I0 1).toInt (x1.toInt + 1 + j) ≤ 57 := fun j q1 q2 => by
    rcases dn with ⟨_, w⟩ | ⟨_, w⟩
    · omega
    · exact w.2.2.1 j q1 q2
  have de : r2.toInt = 0 ∨ (x1.toInt + 1 + r2.toInt ≤ (I0 1).toInt ∧ r.toInt = 0 ∧ ¬ (ych f1 (I0 1).toInt (x1.toInt + 1) = 48 ∨ ych f1 (I0 1).toInt (x1.toInt + 1) = 35 ∨ ych f1 (I0 1).toInt (x1.toInt + 1) = 63)) := by
    rcases dn with ⟨_, w⟩ | ⟨w0, w⟩
    · exact Or.inl w
    · have w1 := kDn_end w
      have w2 := kDn_z w
      unfold kPl at pz
      omega
  have e2 : (1 + r).toInt = 1 + r.toInt := zadd1 (by simp only [Int32.reduceToInt]; omega) (by simp only [Int32.reduceToInt]; omega)
  have e3 : (1 + r + r2).toInt = 1 + r.toInt + r2.toInt := by rw [← e2]; exact zadd1 (by omega) (by omega)
  have e4 : (r + r2).toInt = r.toInt + r2.toInt := zadd1 (by omega) (by omega)
  have eX : ¬ r.toInt + r2.toInt = 0 → cfX f1 (I0 1).toInt (x1.toInt + 1) r.toInt.toNat r2.toInt.toNat = (10, 47) :: chL (if ych f1 (I0 1).toInt (x1.toInt + 1) = 48 ∨ ych f1 (I0 1).toInt (x1.toInt + 1) = 35 ∨ ych f1 (I0 1).toInt (x1.toInt + 1) = 63 then 11 else 12) f1 (I0 1).toInt (x1.toInt + 1) ((1 + r + r2).toInt - 1).toNat := fun q => by
    rw [e3]
    unfold cfX
    rcases de with w | ⟨_, w1, w2⟩
    · rcases pz with ⟨y1, y2⟩ | ⟨y1, _⟩
      · unfold kPl at y2
        rw [if_pos y2, w, show (1 + r.toInt + 0 - 1).toNat = r.toInt.toNat by omega]
        show _ :: (_ ++ []) = _
        rw [List.append_nil]
      · omega
    · rw [if_neg w2, w1, show (1 + 0 + r2.toInt - 1).toNat = r2.toInt.toNat by omega]; rfl
  have g49 : ∀ s : Int32, v_Reader_readFraction_49 I0 64 f1 I2 I3 64 f4 64 f5 x1 r r2 s Z1 → v_Reader_readFraction_49 I0 64 f1 I2 I3 64 f4 64 f5 x1 r r2 s Z2 := by
    intro s
    refine x_Reader_readFraction_49 (fI_ite (fun _ => hno) (fun _ => fI_ite' (fun c => ?_) (fun _ => hno)))
    have c : ¬ r.toInt + r2.toInt = 0 := fun q => c (zle_eq.2 ((e4.trans q).trans (by decide)))
    have eX := eX c
    rw [← e3] at *
    refine g_makeNumerator (I2 := zu I3 0 4) hb (by omega) h3 h10 (fun S g hm => x_Reader_readFraction_76 (g_Code_add (by omega) (by omega) (fun I k1 k2 _ hA => x_Reader_readFraction_87 (fI_ex (fun N => ?_)))))
    refine g_fr1 (g := g) (f5 := f5) (n := (I2 4).toInt) hc hx hx6 he (by omega) ⟨p0, p3⟩ (by omega) (fun J h4 h5 hA2 M => ?_) N I k1 k2 0 (by decide) (by simp only [Int32.reduceToInt]; omega) hA
    refine g_fr2 (S2 := S) (g := g) (f5 := f5) (n := (I2 4).toInt) hc hx hx6 he (by omega) p0 ⟨d0, d3⟩ (by omega) hd (fun Q T h6 h7 hf hv hA3 => ?_) M J S h4 h5 0 (by decide) (by simp only [Int32.reduceToInt]; omega) zfr_refl (fun q => ⟨q, by omega, fun _ => by omega, fun _ => by omega, fun _ => by omega, by omega⟩) hA2
    have ln := hA3.1
    rw [cfX_len] at ln
    refine hZ (1 + r + r2) Q (zu T 11 r) h6 h7 (Or.inr ?_)
    rw [← eX]
    exact cfr_3 ⟨h20, by rw [show (zu T 11 r) 0 = T 0 from rfl, hf 0 (by decide), hm.1 0 (by decide)]; exact (show (4 : Int32).toInt = 4 by decide)⟩ hm h20 hA3 (by omega) (zfr_zu (by decide) (fun k hk => hf k (fun w => hk (List.mem_cons_of_mem _ w)))) (by show r.toInt = _; omega) (fun q => hv q)
  have g48 : v_Reader_readFraction_48 I0 64 f1 I2 I3 64 f4 64 f5 x1 r r2 Z1 → v_Reader_readFraction_48 I0 64 f1 I2 I3 64 f4 64 f5 x1 r r2 Z2 := x_Reader_readFraction_48 (g49 _)
  exact x_Reader_readFraction_20 (fI_ite' (fun _ => g48) (fun _ => h_Section_hasCommaOrPercent trivial (fun r4 u4 _ => x_Reader_readFraction_31 (fI_ite' (fun _ => g48) (fun _ => fI_ite' (fun _ => g48) (fun _ => g49 _))))))
end
