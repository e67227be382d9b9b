set_option maxHeartbeats 4000000 in
set_option maxRecDepth 10000 in
theorem d_Dresser_dress {I1 : Nat → Int32} {I2 : Nat → Int32} {I3 : Nat → Int32} {J3 : Nat → Int64} {I5 : Nat → Int32} {I6 : Nat → Int32} {I7 : Nat → Int32} {I8 : Nat → Int32} {f9 : Nat → Int32} {n10 : Nat} {f10 : Nat → Int32} {f11 : Nat → Int32} {f12 : Nat → Int32} {I13 : Nat → Int32} {J13 : Nat → Int64} {J14 : Nat → Int64} {I15 : Nat → Int32} {J15 : Nat → Int64} {J16 : Nat → Int64} {J17 : Nat → Int64} {I18 : Nat → Int32} {J18 : Nat → Int64} {I19 : Nat → Int32} {J19 : Nat → Int64} {I20 : Nat → Int32} {I21 : Nat → Int32} {J21 : Nat → Int64} {I22 : Nat → Int32} {J22 : Nat → Int64} (hp : qR n10 f10 ∧ (0 ≤ (J3 2).toInt ∧ (J3 2).toInt < 100000000000000000 ∧ -350 ≤ (I3 3).toInt ∧ (I3 3).toInt ≤ 300) ∧ (1 ≤ (I2 1).toInt ∧ (I2 1).toInt ≤ 4 ∧ ((I2 1).toInt ≤ 1 ∨ ¬ (I5 0).toInt = 6) ∧ ((I2 1).toInt ≤ 2 ∨ ¬ (I6 0).toInt = 6) ∧ ((I2 1).toInt ≤ 3 ∨ ¬ (I7 0).toInt = 6)) ∧ (0 < (I2 1).toInt → secP I5 f11 f12 (I2 4).toInt) ∧ (1 < (I2 1).toInt → secP I6 f11 f12 (I2 4).toInt) ∧ (2 < (I2 1).toInt → secP I7 f11 f12 (I2 4).toInt) ∧ (3 < (I2 1).toInt → secP I8 f11 f12 (I2 4).toInt) ∧ (qT f9 ∧ 0 ≤ (I3 5).toInt ∧ (I3 5).toInt ≤ 64) ∧ ((I1 2).toInt = 0 ∨ ∃ T, dsP I2 I3 J3 I5 I6 I7 I8 f9 f11 f12 T ∧ lkC n10 f10 (I1 1).toInt T) ∧ dgO I22 J22) : qN n10 (qB1 (fun NF  u => u.2.1 = NF ∧ qR NF (u.2.2.1) ∧ (∃ T, dsP I2 I3 J3 I5 I6 I7 I8 f9 f11 f12 T ∧ lkC u.2.1 u.2.2.1 (u.1 1).toInt T) ∧ dgO u.2.2.2.2.2.2.2.2.2.2.2.2.2.2.2.2.2.1 u.2.2.2.2.2.2.2.2.2.2.2.2.2.2.2.2.2.2)) (fun NF Z => v_Dresser_dress_0 I1 I2 I3 J3 I5 I6 I7 I8 64 f9 n10 f10 64 f11 64 f12 I13 J13 J14 I15 J15 J16 J17 I18 J18 I19 J19 I20 I21 J21 I22 J22 NF Z) := by
  obtain ⟨hR, hp⟩ := hp
  (try simp only [zu_s, zu_n, zin_iff, zb_iff, zc_iff, zle_lt, zle_le, zle_eq, zm1, zm8, qnI64, qnI4, qnz, Int32.reduceToInt, ↓reduceIte, ne_eq, Nat.reduceEqDiff, not_false_eq_true, not_true_eq_false, reduceCtorEq, or_true, true_or, or_false, false_or, and_true, true_and, and_false, false_and, true_implies, false_implies, implies_true, zl_lt, zl_le, zl_eq, zi64, Int64.reduceToInt] at hp); (try simp (disch := first | omega | ((simp (disch := (first | omega | ((simp only [Int32.reduceToInt, Int64.reduceToInt, zm1, zm8, zi64, qnI64]); first | done | omega))) only [Int32.reduceToInt, Int64.reduceToInt, zm1, zm8, zadd1, zsub1, zmul1, zneg1, zl_add1, zl_sub1, zi64, qnI64]); first | done | omega)) only [Int32.reduceToInt, Int64.reduceToInt, zm1, zm8, zadd1, zsub1, zmul1, zneg1, zl_add1, zl_sub1, zi64, qnI64] at hp)
  have bl0 := zlo (I1 1); have bh0 := zhi (I1 1)
  have bl1 := zlo (I1 2); have bh1 := zhi (I1 2)
  have bl2 := zlo (I2 1); have bh2 := zhi (I2 1)
  have bl3 := zlo (I2 4); have bh3 := zhi (I2 4)
  have bl4 := zlo (I3 3); have bh4 := zhi (I3 3)
  have bl5 := zlo (I3 5); have bh5 := zhi (I3 5)
  have bl6 := zlo (I5 0); have bh6 := zhi (I5 0)
  have bl7 := zlo (I6 0); have bh7 := zhi (I6 0)
  have bl8 := zlo (I7 0); have bh8 := zhi (I7 0)
  obtain ⟨hv, hH6, hS5, hS6, hS7, hS8, hq, hlk, hdg⟩ := hp
  have fin : ∀ (K1 : Nat → Int32) (m : Nat) (g : Nat → Int32) (cI13 : Nat → Int32) (cJ13 : Nat → Int64) (cJ14 : Nat → Int64) (cI15 : Nat → Int32) (cJ15 : Nat → Int64) (cJ16 : Nat → Int64) (cJ17 : Nat → Int64) (cI18 : Nat → Int32) (cJ18 : Nat → Int64) (cI19 : Nat → Int32) (cJ19 : Nat → Int64) (cI20 : Nat → Int32) (cI21 : Nat → Int32) (cJ21 : Nat → Int64) (cI22 : Nat → Int32) (cJ22 : Nat → Int64) (T : List Int), qR m g → lkC m g (K1 1).toInt T → dsP I2 I3 J3 I5 I6 I7 I8 f9 f11 f12 T → dgO cI22 cJ22 → qN m (qB1 (fun NF  u => u.2.1 = NF ∧ qR NF (u.2.2.1) ∧ (∃ T, dsP I2 I3 J3 I5 I6 I7 I8 f9 f11 f12 T ∧ lkC u.2.1 u.2.2.1 (u.1 1).toInt T) ∧ dgO u.2.2.2.2.2.2.2.2.2.2.2.2.2.2.2.2.2.1 u.2.2.2.2.2.2.2.2.2.2.2.2.2.2.2.2.2.2)) (fun NF Z => v_Dresser_dress_192 K1 I2 I3 J3 I5 I6 I7 I8 64 f9 m g 64 f11 64 f12 cI13 cJ13 cJ14 cI15 cJ15 cJ16 cJ17 cI18 cJ18 cI19 cJ19 cI20 cI21 cJ21 cI22 cJ22 NF Z) := fun K1 m g cI13 cJ13 cJ14 cI15 cJ15 cJ16 cJ17 cI18 cJ18 cI19 cJ19 cI20 cI21 cJ21 cI22 cJ22 T a b c d => w_Dresser_dress_192 (qN_ret1 ⟨rfl, a, ⟨T, c, b⟩, d⟩)
  refine w_Dresser_dress_0 (qN_ite (fun h0 => ?_) (fun h0 => ?_))
  rotate_left
  · obtain ⟨T, hT, hL⟩ := hlk.resolve_left (fun c => h0 (zle_eq.2 (c.trans (by decide))))
    exact qN_ret1 ⟨rfl, hR, ⟨T, hT, hL⟩, hdg⟩
  clear hlk
  refine cn_Look_clear True.intro (fun gK h1 => ?_)
  refine w_Dresser_dress_12 (cn_Code_sectionFor hH6 (fun r hT => ?_))
  have hTb := kTr_b2 hT hH6.1 hH6.2.1
  have hTl := kTr_lt hT hH6.1
  have hk0 : ((zu gK 2 1) 1).toInt = 0 := h1
  obtain ⟨K1, hK1⟩ : ∃ K, K = zu gK 2 1 := ⟨_, rfl⟩
  rw [← hK1] at hk0 ⊢
  clear hK1 h1
  refine w_Dresser_dress_23 (cn_Code_section True.intro (fun r2 h2 => ?_))
  have h2 := h2.2
  refine qN_opt (fun hn => ?_) (fun j hj => ?_)
  · have hse := kSn hn h2
    have hr : r.toInt = -1 := by omega
    rw [hr] at hT
    have go : ∀ x5 : Int32, bR (I3 1).toInt (I2 1).toInt (I5 0).toInt (I6 0).toInt (I7 0).toInt x5.toInt → qN n10 (qB1 (fun NF  u => u.2.1 = NF ∧ qR NF (u.2.2.1) ∧ (∃ T, dsP I2 I3 J3 I5 I6 I7 I8 f9 f11 f12 T ∧ lkC u.2.1 u.2.2.1 (u.1 1).toInt T) ∧ dgO u.2.2.2.2.2.2.2.2.2.2.2.2.2.2.2.2.2.1 u.2.2.2.2.2.2.2.2.2.2.2.2.2.2.2.2.2.2)) (fun NF Z => v_Dresser_dress_48 K1 I2 I3 J3 I5 I6 I7 I8 64 f9 n10 f10 64 f11 64 f12 I13 J13 J14 I15 J15 J16 J17 I18 J18 I19 J19 I20 I21 J21 I22 J22 x5 NF Z) := by
      intro x5 hb
      refine w_Dresser_dress_48 (w_Dresser_dress_64 (qN_ite (fun h3 => ?_) (fun h3 => ?_)))
      · have h3 : (I3 0).toInt = 0 := by rw [h3]; decide
        exact w_Dresser_dress_87 (w_Dresser_dress_97 (cn_Dresser_dressGeneral ⟨hR, hv.1, hv.2.1, hv.2.2.1, hv.2.2.2⟩ (fun gI gn gf hn h => w_Dresser_dress_105 (by obtain ⟨ha, T, hg, hA⟩ := h; exact fin _ _ _ _ _ _ _ _ _ _ _ _ _ _ _ _ _ _ _ T ha (pC_L hA hk0) ⟨-1, x5.toInt, hT, hb, Or.inl ⟨rfl, Or.inr ⟨h3, hg⟩⟩⟩ hdg))))
      · have h3 : ¬ (I3 0).toInt = 0 := fun c => h3 (zle_eq.2 (c.trans (by decide)))
        exact cn_Dresser_putText ⟨hR, hq⟩ (fun gI gn gf hn h => w_Dresser_dress_84 (fin _ _ _ _ _ _ _ _ _ _ _ _ _ _ _ _ _ _ _ _ h.1 (pC_L h.2 hk0) ⟨-1, x5.toInt, hT, hb, Or.inl ⟨rfl, Or.inl ⟨h3, rfl⟩⟩⟩ hdg))
    refine w_Dresser_dress_26 (qN_ite (fun h3 => ?_) (fun h3 => ?_))
    · have h3 : (I3 1).toInt = 0 := by rw [h3]; decide
      exact w_Dresser_dress_47 (go 0 (bR_0 h3))
    · have h3 : ¬ (I3 1).toInt = 0 := fun c => h3 (zle_eq.2 (c.trans (by decide)))
      refine cn_Code_numberSections hH6 (fun r3 h4 => ?_)
      refine w_Dresser_dress_39 (qN_ite (fun h5 => ?_) (fun h5 => ?_))
      · rw [zle_le] at h5
        exact w_Dresser_dress_47 (go 0 (bR_1 h4 h5))
      · rw [zle_le] at h5
        exact go 1 (bR_2 h3 h4 h5)
  · have hse := kSs hj h2
    have go : ∀ x5 : Int32, bR (I3 1).toInt (I2 1).toInt (I5 0).toInt (I6 0).toInt (I7 0).toInt x5.toInt → qN n10 (qB1 (fun NF  u => u.2.1 = NF ∧ qR NF (u.2.2.1) ∧ (∃ T, dsP I2 I3 J3 I5 I6 I7 I8 f9 f11 f12 T ∧ lkC u.2.1 u.2.2.1 (u.1 1).toInt T) ∧ dgO u.2.2.2.2.2.2.2.2.2.2.2.2.2.2.2.2.2.1 u.2.2.2.2.2.2.2.2.2.2.2.2.2.2.2.2.2.2)) (fun NF Z => v_Dresser_dress_48v1 K1 I2 I3 J3 I5 I6 I7 I8 64 f9 n10 f10 64 f11 64 f12 I13 J13 J14 I15 J15 J16 J17 I18 J18 I19 J19 I20 I21 J21 I22 J22 j x5 NF Z) := by
      intro x5 hb
      refine w_Dresser_dress_48v1 (qN_4 (by omega) (fun hj0 => ?_) (fun hj0 => ?_) (fun hj0 => ?_) (fun hj0 => ?_))
      · have hr : r.toInt = 0 := by omega
        have HS := hS5 (by omega)
        rw [hr] at hT
        have g : qN n10 (qB1 (fun NF  u => u.2.1 = NF ∧ qR NF (u.2.2.1) ∧ (∃ T, dsP I2 I3 J3 I5 I6 I7 I8 f9 f11 f12 T ∧ lkC u.2.1 u.2.2.1 (u.1 1).toInt T) ∧ dgO u.2.2.2.2.2.2.2.2.2.2.2.2.2.2.2.2.2.1 u.2.2.2.2.2.2.2.2.2.2.2.2.2.2.2.2.2.2)) (fun NF Z => v_Dresser_dress_87v1 K1 I2 I3 J3 I5 I6 I7 I8 64 f9 n10 f10 64 f11 64 f12 I13 J13 J14 I15 J15 J16 J17 I18 J18 I19 J19 I20 I21 J21 I22 J22 0 x5 (I5 0) NF Z) := by
          refine w_Dresser_dress_87v1 (qN_ite' (fun k0 => ?_) (fun k0 => ?_))
          rotate_left
          · have k0 : (I5 0).toInt = 0 := by rw [k0]; decide
            exact w_Dresser_dress_97 (cn_Dresser_dressGeneral ⟨hR, hv.1, hv.2.1, hv.2.2.1, hv.2.2.2⟩ (fun gI gn gf hn h => w_Dresser_dress_105 (by obtain ⟨ha, T, hg, hA⟩ := h; exact fin _ _ _ _ _ _ _ _ _ _ _ _ _ _ _ _ _ _ _ T ha (pC_L hA hk0) ⟨0, x5.toInt, hT, hb, Or.inr (Or.inl ⟨rfl, Or.inl ⟨k0, hg⟩⟩)⟩ hdg)))
          have num : ((I5 0).toInt = 2 ∨ (I5 0).toInt = 3) → qN n10 (qB1 (fun NF  u => u.2.1 = NF ∧ qR NF (u.2.2.1) ∧ (∃ T, dsP I2 I3 J3 I5 I6 I7 I8 f9 f11 f12 T ∧ lkC u.2.1 u.2.2.1 (u.1 1).toInt T) ∧ dgO u.2.2.2.2.2.2.2.2.2.2.2.2.2.2.2.2.2.1 u.2.2.2.2.2.2.2.2.2.2.2.2.2.2.2.2.2.2)) (fun NF Z => v_Dresser_dress_120 K1 I2 I3 J3 I5 I6 I7 I8 64 f9 n10 f10 64 f11 64 f12 I13 J13 J14 I15 J15 J16 J17 I18 J18 I19 J19 I20 I21 J21 I22 J22 0 x5 NF Z) := fun k => by
            have hs := HS.2.1 k
            exact w_Dresser_dress_120 (qN_4 (by decide) (fun _ => cn_NumberDresser_dress ⟨hR, ⟨hv.1, hv.2.1, hv.2.2.1, hv.2.2.2, hs.2⟩, hs.1, hdg⟩ (fun g20 g21 h21 g22 h22 gI gn gf hn h => w_Dresser_dress_134 (fin _ _ _ _ _ _ _ _ _ _ _ _ _ _ _ _ _ _ _ _ h.1 (pC_L h.2.2.2 hk0) ⟨0, x5.toInt, hT, hb, Or.inr (Or.inl ⟨rfl, Or.inr (Or.inl ⟨k, ⟨_, _, _, _, _, _, _, _, h.2.1, rfl⟩⟩)⟩)⟩ h.2.2.1.2))) (fun e => absurd e (by decide)) (fun e => absurd e (by decide)) (fun e => absurd e (by decide)))
          refine qN_ite (fun k2 => ?_) (fun k2 => ?_)
          · exact num (Or.inl (by rw [k2]; decide))
          refine qN_ite' (fun k3 => ?_) (fun k3 => ?_)
          rotate_left
          · exact num (Or.inr (by rw [k3]; decide))
          clear num
          refine qN_ite' (fun k4 => ?_) (fun k4 => ?_)
          rotate_left
          · have k4 : (I5 0).toInt = 4 := by rw [k4]; decide
            have hs := HS.2.2.1 k4
            exact qN_4 (by decide) (fun _ => cn_FractionDresser_dress ⟨hR, ⟨hv.1, hv.2.1, hv.2.2.1, hv.2.2.2, hs.2⟩, hs.1⟩ (fun g16 g17 g18 h18 gI gn gf g19 h19 hn h => w_Dresser_dress_157 (by obtain ⟨ha, T, hg, hA⟩ := h; exact fin _ _ _ _ _ _ _ _ _ _ _ _ _ _ _ _ _ _ _ T ha (pC_L hA hk0) ⟨0, x5.toInt, hT, hb, Or.inr (Or.inl ⟨rfl, Or.inr (Or.inr (Or.inl ⟨k4, ⟨_, _, _, _, hg⟩⟩))⟩)⟩ hdg))) (fun e => absurd e (by decide)) (fun e => absurd e (by decide)) (fun e => absurd e (by decide))
          refine qN_ite' (fun k5 => ?_) (fun k5 => ?_)
          rotate_left
          · have k5 : (I5 0).toInt = 5 := by rw [k5]; decide
            have hs := HS.2.2.2.1 k5
            exact qN_4 (by decide) (fun _ => cn_DateDresser_dress ⟨hR, ⟨hv.1, hv.2.1, hv.2.2.1, hv.2.2.2, hs.2⟩, hs.1⟩ (fun g13 h13 h14 g15 h15 gI gn gf hn h => w_Dresser_dress_180 (by obtain ⟨ha, T, hg, hA⟩ := h; exact fin _ _ _ _ _ _ _ _ _ _ _ _ _ _ _ _ _ _ _ T ha (pC_L hA hk0) ⟨0, x5.toInt, hT, hb, Or.inr (Or.inl ⟨rfl, Or.inr (Or.inr (Or.inr (Or.inl ⟨k5, hg⟩)))⟩)⟩ hdg))) (fun e => absurd e (by decide)) (fun e => absurd e (by decide)) (fun e => absurd e (by decide))
          have hk : (I5 0).toInt = 1 ∨ (I5 0).toInt = 6 := by
            have n0 : ¬ (I5 0).toInt = 0 := fun c => k0 (zle_eq.2 (c.trans (by decide)))
            have n2 : ¬ (I5 0).toInt = 2 := fun c => k2 (zle_eq.2 (c.trans (by decide)))
            have n3 : ¬ (I5 0).toInt = 3 := fun c => k3 (zle_eq.2 (c.trans (by decide)))
            have n4 : ¬ (I5 0).toInt = 4 := fun c => k4 (zle_eq.2 (c.trans (by decide)))
            have n5 : ¬ (I5 0).toInt = 5 := fun c => k5 (zle_eq.2 (c.trans (by decide)))
            have := HS.1
            omega
          have hs := HS.2.2.2.2 hk
          exact qN_4 (by decide) (fun _ => cn_Dresser_dressWords ⟨hR, hs, hq⟩ (fun gI gn gf hn h => fin _ _ _ _ _ _ _ _ _ _ _ _ _ _ _ _ _ _ _ _ h.1 (pC_L h.2 hk0) ⟨0, x5.toInt, hT, hb, Or.inr (Or.inl ⟨rfl, Or.inr (Or.inr (Or.inr (Or.inr ⟨hk, rfl⟩)))⟩)⟩ hdg)) (fun e => absurd e (by decide)) (fun e => absurd e (by decide)) (fun e => absurd e (by decide))
        exact w_Dresser_dress_64v1 (qN_ite (fun _ => g) (fun _ => g))
      · have hr : r.toInt = 1 := by omega
        have HS := hS6 (by omega)
        rw [hr] at hT
        have g : qN n10 (qB1 (fun NF  u => u.2.1 = NF ∧ qR NF (u.2.2.1) ∧ (∃ T, dsP I2 I3 J3 I5 I6 I7 I8 f9 f11 f12 T ∧ lkC u.2.1 u.2.2.1 (u.1 1).toInt T) ∧ dgO u.2.2.2.2.2.2.2.2.2.2.2.2.2.2.2.2.2.1 u.2.2.2.2.2.2.2.2.2.2.2.2.2.2.2.2.2.2)) (fun NF Z => v_Dresser_dress_87v1 K1 I2 I3 J3 I5 I6 I7 I8 64 f9 n10 f10 64 f11 64 f12 I13 J13 J14 I15 J15 J16 J17 I18 J18 I19 J19 I20 I21 J21 I22 J22 1 x5 (I6 0) NF Z) := by
          refine w_Dresser_dress_87v1 (qN_ite' (fun k0 => ?_) (fun k0 => ?_))
          rotate_left
          · have k0 : (I6 0).toInt = 0 := by rw [k0]; decide
            exact w_Dresser_dress_97 (cn_Dresser_dressGeneral ⟨hR, hv.1, hv.2.1, hv.2.2.1, hv.2.2.2⟩ (fun gI gn gf hn h => w_Dresser_dress_105 (by obtain ⟨ha, T, hg, hA⟩ := h; exact fin _ _ _ _ _ _ _ _ _ _ _ _ _ _ _ _ _ _ _ T ha (pC_L hA hk0) ⟨1, x5.toInt, hT, hb, Or.inr (Or.inr (Or.inl ⟨rfl, Or.inl ⟨k0, hg⟩⟩))⟩ hdg)))
          have num : ((I6 0).toInt = 2 ∨ (I6 0).toInt = 3) → qN n10 (qB1 (fun NF  u => u.2.1 = NF ∧ qR NF (u.2.2.1) ∧ (∃ T, dsP I2 I3 J3 I5 I6 I7 I8 f9 f11 f12 T ∧ lkC u.2.1 u.2.2.1 (u.1 1).toInt T) ∧ dgO u.2.2.2.2.2.2.2.2.2.2.2.2.2.2.2.2.2.1 u.2.2.2.2.2.2.2.2.2.2.2.2.2.2.2.2.2.2)) (fun NF Z => v_Dresser_dress_120 K1 I2 I3 J3 I5 I6 I7 I8 64 f9 n10 f10 64 f11 64 f12 I13 J13 J14 I15 J15 J16 J17 I18 J18 I19 J19 I20 I21 J21 I22 J22 1 x5 NF Z) := fun k => by
            have hs := HS.2.1 k
            exact w_Dresser_dress_120 (qN_4 (by decide) (fun e => absurd e (by decide)) (fun _ => cn_NumberDresser_dress ⟨hR, ⟨hv.1, hv.2.1, hv.2.2.1, hv.2.2.2, hs.2⟩, hs.1, hdg⟩ (fun g20 g21 h21 g22 h22 gI gn gf hn h => w_Dresser_dress_134 (fin _ _ _ _ _ _ _ _ _ _ _ _ _ _ _ _ _ _ _ _ h.1 (pC_L h.2.2.2 hk0) ⟨1, x5.toInt, hT, hb, Or.inr (Or.inr (Or.inl ⟨rfl, Or.inr (Or.inl ⟨k, ⟨_, _, _, _, _, _, _, _, h.2.1, rfl⟩⟩)⟩))⟩ h.2.2.1.2))) (fun e => absurd e (by decide)) (fun e => absurd e (by decide)))
          refine qN_ite (fun k2 => ?_) (fun k2 => ?_)
          · exact num (Or.inl (by rw [k2]; decide))
          refine qN_ite' (fun k3 => ?_) (fun k3 => ?_)
          rotate_left
          · exact num (Or.inr (by rw [k3]; decide))
          clear num
          refine qN_ite' (fun k4 => ?_) (fun k4 => ?_)
          rotate_left
          · have k4 : (I6 0).toInt = 4 := by rw [k4]; decide
            have hs := HS.2.2.1 k4
            exact qN_4 (by decide) (fun e => absurd e (by decide)) (fun _ => cn_FractionDresser_dress ⟨hR, ⟨hv.1, hv.2.1, hv.2.2.1, hv.2.2.2, hs.2⟩, hs.1⟩ (fun g16 g17 g18 h18 gI gn gf g19 h19 hn h => w_Dresser_dress_157 (by obtain ⟨ha, T, hg, hA⟩ := h; exact fin _ _ _ _ _ _ _ _ _ _ _ _ _ _ _ _ _ _ _ T ha (pC_L hA hk0) ⟨1, x5.toInt, hT, hb, Or.inr (Or.inr (Or.inl ⟨rfl, Or.inr (Or.inr (Or.inl ⟨k4, ⟨_, _, _, _, hg⟩⟩))⟩))⟩ hdg))) (fun e => absurd e (by decide)) (fun e => absurd e (by decide))
          refine qN_ite' (fun k5 => ?_) (fun k5 => ?_)
          rotate_left
          · have k5 : (I6 0).toInt = 5 := by rw [k5]; decide
            have hs := HS.2.2.2.1 k5
            exact qN_4 (by decide) (fun e => absurd e (by decide)) (fun _ => cn_DateDresser_dress ⟨hR, ⟨hv.1, hv.2.1, hv.2.2.1, hv.2.2.2, hs.2⟩, hs.1⟩ (fun g13 h13 h14 g15 h15 gI gn gf hn h => w_Dresser_dress_180 (by obtain ⟨ha, T, hg, hA⟩ := h; exact fin _ _ _ _ _ _ _ _ _ _ _ _ _ _ _ _ _ _ _ T ha (pC_L hA hk0) ⟨1, x5.toInt, hT, hb, Or.inr (Or.inr (Or.inl ⟨rfl, Or.inr (Or.inr (Or.inr (Or.inl ⟨k5, hg⟩)))⟩))⟩ hdg))) (fun e => absurd e (by decide)) (fun e => absurd e (by decide))
          have hk : (I6 0).toInt = 1 ∨ (I6 0).toInt = 6 := by
            have n0 : ¬ (I6 0).toInt = 0 := fun c => k0 (zle_eq.2 (c.trans (by decide)))
            have n2 : ¬ (I6 0).toInt = 2 := fun c => k2 (zle_eq.2 (c.trans (by decide)))
            have n3 : ¬ (I6 0).toInt = 3 := fun c => k3 (zle_eq.2 (c.trans (by decide)))
            have n4 : ¬ (I6 0).toInt = 4 := fun c => k4 (zle_eq.2 (c.trans (by decide)))
            have n5 : ¬ (I6 0).toInt = 5 := fun c => k5 (zle_eq.2 (c.trans (by decide)))
            have := HS.1
            omega
          have hs := HS.2.2.2.2 hk
          exact qN_4 (by decide) (fun e => absurd e (by decide)) (fun _ => cn_Dresser_dressWords ⟨hR, hs, hq⟩ (fun gI gn gf hn h => fin _ _ _ _ _ _ _ _ _ _ _ _ _ _ _ _ _ _ _ _ h.1 (pC_L h.2 hk0) ⟨1, x5.toInt, hT, hb, Or.inr (Or.inr (Or.inl ⟨rfl, Or.inr (Or.inr (Or.inr (Or.inr ⟨hk, rfl⟩)))⟩))⟩ hdg)) (fun e => absurd e (by decide)) (fun e => absurd e (by decide))
        exact w_Dresser_dress_64v1 (qN_ite (fun _ => g) (fun _ => g))
      · have hr : r.toInt = 2 := by omega
        have HS := hS7 (by omega)
        rw [hr] at hT
        have g : qN n10 (qB1 (fun NF  u => u.2.1 = NF ∧ qR NF (u.2.2.1) ∧ (∃ T, dsP I2 I3 J3 I5 I6 I7 I8 f9 f11 f12 T ∧ lkC u.2.1 u.2.2.1 (u.1 1).toInt T) ∧ dgO u.2.2.2.2.2.2.2.2.2.2.2.2.2.2.2.2.2.1 u.2.2.2.2.2.2.2.2.2.2.2.2.2.2.2.2.2.2)) (fun NF Z => v_Dresser_dress_87v1 K1 I2 I3 J3 I5 I6 I7 I8 64 f9 n10 f10 64 f11 64 f12 I13 J13 J14 I15 J15 J16 J17 I18 J18 I19 J19 I20 I21 J21 I22 J22 2 x5 (I7 0) NF Z) := by
          refine w_Dresser_dress_87v1 (qN_ite' (fun k0 => ?_) (fun k0 => ?_))
          rotate_left
          · have k0 : (I7 0).toInt = 0 := by rw [k0]; decide
            exact w_Dresser_dress_97 (cn_Dresser_dressGeneral ⟨hR, hv.1, hv.2.1, hv.2.2.1, hv.2.2.2⟩ (fun gI gn gf hn h => w_Dresser_dress_105 (by obtain ⟨ha, T, hg, hA⟩ := h; exact fin _ _ _ _ _ _ _ _ _ _ _ _ _ _ _ _ _ _ _ T ha (pC_L hA hk0) ⟨2, x5.toInt, hT, hb, Or.inr (Or.inr (Or.inr (Or.inl ⟨rfl, Or.inl ⟨k0, hg⟩⟩)))⟩ hdg)))
          have num : ((I7 0).toInt = 2 ∨ (I7 0).toInt = 3) → qN n10 (qB1 (fun NF  u => u.2.1 = NF ∧ qR NF (u.2.2.1) ∧ (∃ T, dsP I2 I3 J3 I5 I6 I7 I8 f9 f11 f12 T ∧ lkC u.2.1 u.2.2.1 (u.1 1).toInt T) ∧ dgO u.2.2.2.2.2.2.2.2.2.2.2.2.2.2.2.2.2.1 u.2.2.2.2.2.2.2.2.2.2.2.2.2.2.2.2.2.2)) (fun NF Z => v_Dresser_dress_120 K1 I2 I3 J3 I5 I6 I7 I8 64 f9 n10 f10 64 f11 64 f12 I13 J13 J14 I15 J15 J16 J17 I18 J18 I19 J19 I20 I21 J21 I22 J22 2 x5 NF Z) := fun k => by
            have hs := HS.2.1 k
            exact w_Dresser_dress_120 (qN_4 (by decide) (fun e => absurd e (by decide)) (fun e => absurd e (by decide)) (fun _ => cn_NumberDresser_dress ⟨hR, ⟨hv.1, hv.2.1, hv.2.2.1, hv.2.2.2, hs.2⟩, hs.1, hdg⟩ (fun g20 g21 h21 g22 h22 gI gn gf hn h => w_Dresser_dress_134 (fin _ _ _ _ _ _ _ _ _ _ _ _ _ _ _ _ _ _ _ _ h.1 (pC_L h.2.2.2 hk0) ⟨2, x5.toInt, hT, hb, Or.inr (Or.inr (Or.inr (Or.inl ⟨rfl, Or.inr (Or.inl ⟨k, ⟨_, _, _, _, _, _, _, _, h.2.1, rfl⟩⟩)⟩)))⟩ h.2.2.1.2))) (fun e => absurd e (by decide)))
          refine qN_ite (fun k2 => ?_) (fun k2 => ?_)
          · exact num (Or.inl (by rw [k2]; decide))
          refine qN_ite' (fun k3 => ?_) (fun k3 => ?_)
          rotate_left
          · exact num (Or.inr (by rw [k3]; decide))
          clear num
          refine qN_ite' (fun k4 => ?_) (fun k4 => ?_)
          rotate_left
          · have k4 : (I7 0).toInt = 4 := by rw [k4]; decide
            have hs := HS.2.2.1 k4
            exact qN_4 (by decide) (fun e => absurd e (by decide)) (fun e => absurd e (by decide)) (fun _ => cn_FractionDresser_dress ⟨hR, ⟨hv.1, hv.2.1, hv.2.2.1, hv.2.2.2, hs.2⟩, hs.1⟩ (fun g16 g17 g18 h18 gI gn gf g19 h19 hn h => w_Dresser_dress_157 (by obtain ⟨ha, T, hg, hA⟩ := h; exact fin _ _ _ _ _ _ _ _ _ _ _ _ _ _ _ _ _ _ _ T ha (pC_L hA hk0) ⟨2, x5.toInt, hT, hb, Or.inr (Or.inr (Or.inr (Or.inl ⟨rfl, Or.inr (Or.inr (Or.inl ⟨k4, ⟨_, _, _, _, hg⟩⟩))⟩)))⟩ hdg))) (fun e => absurd e (by decide))
          refine qN_ite' (fun k5 => ?_) (fun k5 => ?_)
          rotate_left
          · have k5 : (I7 0).toInt = 5 := by rw [k5]; decide
            have hs := HS.2.2.2.1 k5
            exact qN_4 (by decide) (fun e => absurd e (by decide)) (fun e => absurd e (by decide)) (fun _ => cn_DateDresser_dress ⟨hR, ⟨hv.1, hv.2.1, hv.2.2.1, hv.2.2.2, hs.2⟩, hs.1⟩ (fun g13 h13 h14 g15 h15 gI gn gf hn h => w_Dresser_dress_180 (by obtain ⟨ha, T, hg, hA⟩ := h; exact fin _ _ _ _ _ _ _ _ _ _ _ _ _ _ _ _ _ _ _ T ha (pC_L hA hk0) ⟨2, x5.toInt, hT, hb, Or.inr (Or.inr (Or.inr (Or.inl ⟨rfl, Or.inr (Or.inr (Or.inr (Or.inl ⟨k5, hg⟩)))⟩)))⟩ hdg))) (fun e => absurd e (by decide))
          have hk : (I7 0).toInt = 1 ∨ (I7 0).toInt = 6 := by
            have n0 : ¬ (I7 0).toInt = 0 := fun c => k0 (zle_eq.2 (c.trans (by decide)))
            have n2 : ¬ (I7 0).toInt = 2 := fun c => k2 (zle_eq.2 (c.trans (by decide)))
            have n3 : ¬ (I7 0).toInt = 3 := fun c => k3 (zle_eq.2 (c.trans (by decide)))
            have n4 : ¬ (I7 0).toInt = 4 := fun c => k4 (zle_eq.2 (c.trans (by decide)))
            have n5 : ¬ (I7 0).toInt = 5 := fun c => k5 (zle_eq.2 (c.trans (by decide)))
            have := HS.1
            omega
          have hs := HS.2.2.2.2 hk
          exact qN_4 (by decide) (fun e => absurd e (by decide)) (fun e => absurd e (by decide)) (fun _ => cn_Dresser_dressWords ⟨hR, hs, hq⟩ (fun gI gn gf hn h => fin _ _ _ _ _ _ _ _ _ _ _ _ _ _ _ _ _ _ _ _ h.1 (pC_L h.2 hk0) ⟨2, x5.toInt, hT, hb, Or.inr (Or.inr (Or.inr (Or.inl ⟨rfl, Or.inr (Or.inr (Or.inr (Or.inr ⟨hk, rfl⟩)))⟩)))⟩ hdg)) (fun e => absurd e (by decide))
        exact w_Dresser_dress_64v1 (qN_ite (fun _ => g) (fun _ => g))
      · have hr : r.toInt = 3 := by omega
        have HS := hS8 (by omega)
        rw [hr] at hT
        have g : qN n10 (qB1 (fun NF  u => u.2.1 = NF ∧ qR NF (u.2.2.1) ∧ (∃ T, dsP I2 I3 J3 I5 I6 I7 I8 f9 f11 f12 T ∧ lkC u.2.1 u.2.2.1 (u.1 1).toInt T) ∧ dgO u.2.2.2.2.2.2.2.2.2.2.2.2.2.2.2.2.2.1 u.2.2.2.2.2.2.2.2.2.2.2.2.2.2.2.2.2.2)) (fun NF Z => v_Dresser_dress_87v1 K1 I2 I3 J3 I5 I6 I7 I8 64 f9 n10 f10 64 f11 64 f12 I13 J13 J14 I15 J15 J16 J17 I18 J18 I19 J19 I20 I21 J21 I22 J22 3 x5 (I8 0) NF Z) := by
          refine w_Dresser_dress_87v1 (qN_ite' (fun k0 => ?_) (fun k0 => ?_))
          rotate_left
          · have k0 : (I8 0).toInt = 0 := by rw [k0]; decide
            exact w_Dresser_dress_97 (cn_Dresser_dressGeneral ⟨hR, hv.1, hv.2.1, hv.2.2.1, hv.2.2.2⟩ (fun gI gn gf hn h => w_Dresser_dress_105 (by obtain ⟨ha, T, hg, hA⟩ := h; exact fin _ _ _ _ _ _ _ _ _ _ _ _ _ _ _ _ _ _ _ T ha (pC_L hA hk0) ⟨3, x5.toInt, hT, hb, Or.inr (Or.inr (Or.inr (Or.inr ⟨rfl, Or.inl ⟨k0, hg⟩⟩)))⟩ hdg)))
          have num : ((I8 0).toInt = 2 ∨ (I8 0).toInt = 3) → qN n10 (qB1 (fun NF  u => u.2.1 = NF ∧ qR NF (u.2.2.1) ∧ (∃ T, dsP I2 I3 J3 I5 I6 I7 I8 f9 f11 f12 T ∧ lkC u.2.1 u.2.2.1 (u.1 1).toInt T) ∧ dgO u.2.2.2.2.2.2.2.2.2.2.2.2.2.2.2.2.2.1 u.2.2.2.2.2.2.2.2.2.2.2.2.2.2.2.2.2.2)) (fun NF Z => v_Dresser_dress_120 K1 I2 I3 J3 I5 I6 I7 I8 64 f9 n10 f10 64 f11 64 f12 I13 J13 J14 I15 J15 J16 J17 I18 J18 I19 J19 I20 I21 J21 I22 J22 3 x5 NF Z) := fun k => by
            have hs := HS.2.1 k
            exact w_Dresser_dress_120 (qN_4 (by decide) (fun e => absurd e (by decide)) (fun e => absurd e (by decide)) (fun e => absurd e (by decide)) (fun _ => cn_NumberDresser_dress ⟨hR, ⟨hv.1, hv.2.1, hv.2.2.1, hv.2.2.2, hs.2⟩, hs.1, hdg⟩ (fun g20 g21 h21 g22 h22 gI gn gf hn h => w_Dresser_dress_134 (fin _ _ _ _ _ _ _ _ _ _ _ _ _ _ _ _ _ _ _ _ h.1 (pC_L h.2.2.2 hk0) ⟨3, x5.toInt, hT, hb, Or.inr (Or.inr (Or.inr (Or.inr ⟨rfl, Or.inr (Or.inl ⟨k, ⟨_, _, _, _, _, _, _, _, h.2.1, rfl⟩⟩)⟩)))⟩ h.2.2.1.2))))
          refine qN_ite (fun k2 => ?_) (fun k2 => ?_)
          · exact num (Or.inl (by rw [k2]; decide))
          refine qN_ite' (fun k3 => ?_) (fun k3 => ?_)
          rotate_left
          · exact num (Or.inr (by rw [k3]; decide))
          clear num
          refine qN_ite' (fun k4 => ?_) (fun k4 => ?_)
          rotate_left
          · have k4 : (I8 0).toInt = 4 := by rw [k4]; decide
            have hs := HS.2.2.1 k4
            exact qN_4 (by decide) (fun e => absurd e (by decide)) (fun e => absurd e (by decide)) (fun e => absurd e (by decide)) (fun _ => cn_FractionDresser_dress ⟨hR, ⟨hv.1, hv.2.1, hv.2.2.1, hv.2.2.2, hs.2⟩, hs.1⟩ (fun g16 g17 g18 h18 gI gn gf g19 h19 hn h => w_Dresser_dress_157 (by obtain ⟨ha, T, hg, hA⟩ := h; exact fin _ _ _ _ _ _ _ _ _ _ _ _ _ _ _ _ _ _ _ T ha (pC_L hA hk0) ⟨3, x5.toInt, hT, hb, Or.inr (Or.inr (Or.inr (Or.inr ⟨rfl, Or.inr (Or.inr (Or.inl ⟨k4, ⟨_, _, _, _, hg⟩⟩))⟩)))⟩ hdg)))
          refine qN_ite' (fun k5 => ?_) (fun k5 => ?_)
          rotate_left
          · have k5 : (I8 0).toInt = 5 := by rw [k5]; decide
            have hs := HS.2.2.2.1 k5
            exact qN_4 (by decide) (fun e => absurd e (by decide)) (fun e => absurd e (by decide)) (fun e => absurd e (by decide)) (fun _ => cn_DateDresser_dress ⟨hR, ⟨hv.1, hv.2.1, hv.2.2.1, hv.2.2.2, hs.2⟩, hs.1⟩ (fun g13 h13 h14 g15 h15 gI gn gf hn h => w_Dresser_dress_180 (by obtain ⟨ha, T, hg, hA⟩ := h; exact fin _ _ _ _ _ _ _ _ _ _ _ _ _ _ _ _ _ _ _ T ha (pC_L hA hk0) ⟨3, x5.toInt, hT, hb, Or.inr (Or.inr (Or.inr (Or.inr ⟨rfl, Or.inr (Or.inr (Or.inr (Or.inl ⟨k5, hg⟩)))⟩)))⟩ hdg)))
          have hk : (I8 0).toInt = 1 ∨ (I8 0).toInt = 6 := by
            have n0 : ¬ (I8 0).toInt = 0 := fun c => k0 (zle_eq.2 (c.trans (by decide)))
            have n2 : ¬ (I8 0).toInt = 2 := fun c => k2 (zle_eq.2 (c.trans (by decide)))
            have n3 : ¬ (I8 0).toInt = 3 := fun c => k3 (zle_eq.2 (c.trans (by decide)))
            have n4 : ¬ (I8 0).toInt = 4 := fun c => k4 (zle_eq.2 (c.trans (by decide)))
            have n5 : ¬ (I8 0).toInt = 5 := fun c => k5 (zle_eq.2 (c.trans (by decide)))
            have := HS.1
            omega
          have hs := HS.2.2.2.2 hk
          exact qN_4 (by decide) (fun e => absurd e (by decide)) (fun e => absurd e (by decide)) (fun e => absurd e (by decide)) (fun _ => cn_Dresser_dressWords ⟨hR, hs, hq⟩ (fun gI gn gf hn h => fin _ _ _ _ _ _ _ _ _ _ _ _ _ _ _ _ _ _ _ _ h.1 (pC_L h.2 hk0) ⟨3, x5.toInt, hT, hb, Or.inr (Or.inr (Or.inr (Or.inr ⟨rfl, Or.inr (Or.inr (Or.inr (Or.inr ⟨hk, rfl⟩)))⟩)))⟩ hdg))
        exact w_Dresser_dress_64v1 (qN_ite (fun _ => g) (fun _ => g))
    refine w_Dresser_dress_26v1 (qN_ite (fun h3 => ?_) (fun h3 => ?_))
    · have h3 : (I3 1).toInt = 0 := by rw [h3]; decide
      exact w_Dresser_dress_47v1 (go 0 (bR_0 h3))
    · have h3 : ¬ (I3 1).toInt = 0 := fun c => h3 (zle_eq.2 (c.trans (by decide)))
      refine cn_Code_numberSections hH6 (fun r3 h4 => ?_)
      refine w_Dresser_dress_39v1 (qN_ite (fun h5 => ?_) (fun h5 => ?_))
      · rw [zle_le] at h5
        exact w_Dresser_dress_47v1 (go 0 (bR_1 h4 h5))
      · rw [zle_le] at h5
        exact go 1 (bR_2 h3 h4 h5)
theorem cn_Dresser_dress {κ : Type} {B : Nat → (κ → Prop) → Prop} {I1 : Nat → Int32} {I2 : Nat → Int32} {I3 : Nat → Int32} {J3 : Nat → Int64} {I5 : Nat → Int32} {I6 : Nat → Int32} {I7 : Nat → Int32} {I8 : Nat → Int32} {f9 : Nat → Int32} {n10 : Nat} {f10 : Nat → Int32} {f11 : Nat → Int32} {f12 : Nat → Int32} {I13 : Nat → Int32} {J13 : Nat → Int64} {J14 : Nat → Int64} {I15 : Nat → Int32} {J15 : Nat → Int64} {J16 : Nat → Int64} {J17 : Nat → Int64} {I18 : Nat → Int32} {J18 : Nat → Int64} {I19 : Nat → Int32} {J19 : Nat → Int64} {I20 : Nat → Int32} {I21 : Nat → Int32} {J21 : Nat → Int64} {I22 : Nat → Int32} {J22 : Nat → Int64} {R : ((Nat → Int32) × (Nat) × (Nat → Int32) × (Nat → Int32) × (Nat → Int64) × (Nat → Int64) × (Nat → Int32) × (Nat → Int64) × (Nat → Int64) × (Nat → Int64) × (Nat → Int32) × (Nat → Int64) × (Nat → Int32) × (Nat → Int64) × (Nat → Int32) × (Nat → Int32) × (Nat → Int64) × (Nat → Int32) × (Nat → Int64)) → Nat → κ → Prop} (hp : qR n10 f10 ∧ (0 ≤ (J3 2).toInt ∧ (J3 2).toInt < 100000000000000000 ∧ -350 ≤ (I3 3).toInt ∧ (I3 3).toInt ≤ 300) ∧ (1 ≤ (I2 1).toInt ∧ (I2 1).toInt ≤ 4 ∧ ((I2 1).toInt ≤ 1 ∨ ¬ (I5 0).toInt = 6) ∧ ((I2 1).toInt ≤ 2 ∨ ¬ (I6 0).toInt = 6) ∧ ((I2 1).toInt ≤ 3 ∨ ¬ (I7 0).toInt = 6)) ∧ (0 < (I2 1).toInt → secP I5 f11 f12 (I2 4).toInt) ∧ (1 < (I2 1).toInt → secP I6 f11 f12 (I2 4).toInt) ∧ (2 < (I2 1).toInt → secP I7 f11 f12 (I2 4).toInt) ∧ (3 < (I2 1).toInt → secP I8 f11 f12 (I2 4).toInt) ∧ (qT f9 ∧ 0 ≤ (I3 5).toInt ∧ (I3 5).toInt ≤ 64) ∧ ((I1 2).toInt = 0 ∨ ∃ T, dsP I2 I3 J3 I5 I6 I7 I8 f9 f11 f12 T ∧ lkC n10 f10 (I1 1).toInt T) ∧ dgO I22 J22) (h : ∀ (gI1 : Nat → Int32) (gn10 : Nat) (gf10 : Nat → Int32) (gI13 : Nat → Int32) (gJ13 : Nat → Int64) (gJ14 : Nat → Int64) (gI15 : Nat → Int32) (gJ15 : Nat → Int64) (gJ16 : Nat → Int64) (gJ17 : Nat → Int64) (gI18 : Nat → Int32) (gJ18 : Nat → Int64) (gI19 : Nat → Int32) (gJ19 : Nat → Int64) (gI20 : Nat → Int32) (gI21 : Nat → Int32) (gJ21 : Nat → Int64) (gI22 : Nat → Int32) (gJ22 : Nat → Int64), n10 ≤ gn10 → qR gn10 gf10 ∧ (∃ T, dsP I2 I3 J3 I5 I6 I7 I8 f9 f11 f12 T ∧ lkC gn10 gf10 (gI1 1).toInt T) ∧ dgO gI22 gJ22 → qN gn10 B (fun NF Z => R (gI1, gn10, gf10, gI13, gJ13, gJ14, gI15, gJ15, gJ16, gJ17, gI18, gJ18, gI19, gJ19, gI20, gI21, gJ21, gI22, gJ22) NF Z)) : qN n10 B (fun NF Z => ∃ Nc, n10 ≤ Nc ∧ Nc ≤ NF ∧ v_Dresser_dress_0 I1 I2 I3 J3 I5 I6 I7 I8 64 f9 n10 f10 64 f11 64 f12 I13 J13 J14 I15 J15 J16 J17 I18 J18 I19 J19 I20 I21 J21 I22 J22 Nc (fun u => R u NF Z)) := by
  refine qN_c1 (d_Dresser_dress hp) (fun Nc u hl hq => ?_)
  obtain ⟨gI1, gn10, gf10, gI13, gJ13, gJ14, gI15, gJ15, gJ16, gJ17, gI18, gJ18, gI19, gJ19, gI20, gI21, gJ21, gI22, gJ22⟩ := u
  obtain ⟨he, hq⟩ := hq; dsimp only at he hq; subst he; exact h _ _ _ _ _ _ _ _ _ _ _ _ _ _ _ _ _ _ _ hl hq