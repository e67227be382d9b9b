set_option maxHeartbeats 2000000 in
set_option maxRecDepth 10000 in
theorem f_M_date {I0 : Nat → Int32} {J0 : Nat → Int64} {f1 : Nat → Int32} {f2 : Nat → Int32} {f3 : Nat → Int32} {f4 : Nat → Int32} {f5 : Nat → Int32} {f6 : Nat → Int32} {f7 : Nat → Int32} {f8 : Nat → Int32} {x1 : Int32} {Z1 Z2 : (Nat → Int32) × (Nat → Int64) × (Nat → Int32) × (Nat → Int32) → Prop} (hp : (0 ≤ x1.toInt ∧ x1.toInt < 5 ∧ 0 ≤ (f1 x1.toNatClampNeg).toInt ∧ (f1 x1.toNatClampNeg).toInt ≤ (f2 x1.toNatClampNeg).toInt ∧ (f2 x1.toNatClampNeg).toInt ≤ 64) ∧ vO f5 (I0 24).toInt (I0 25).toInt ∧ 0 ≤ (pmA 0 (rs f3 f4 (fun _ => 0) (fun _ => 0) (f1 x1.toNatClampNeg).toInt (f2 x1.toNatClampNeg).toInt)) ∧ (pmA 0 (rs f3 f4 (fun _ => 0) (fun _ => 0) (f1 x1.toNatClampNeg).toInt (f2 x1.toNatClampNeg).toInt)) ≤ 3 ∧ dtK f3 f4 f8 (f1 x1.toNatClampNeg).toInt (f2 x1.toNatClampNeg).toInt) (hZ : ∀ (a27 : Int32) (a28 : Int32) (a35 : Int32) (a37 : Int32) (a38 : Int32) (a39 : Int32) (a40 : Int32) (a33 : Int32) (gJ0 : Nat → Int64) (gf6 : Nat → Int32) (gf7 : Nat → Int32), ((∃ T, rdP (I0 23).toInt x1.toInt (I0 25).toInt (dV f5 (I0 24).toInt.toNat) ((I0 25).toInt - (I0 24).toInt) (pmA 0 (rs f3 f4 (fun _ => 0) (fun _ => 0) (f1 x1.toNatClampNeg).toInt (f2 x1.toNatClampNeg).toInt)) (hdR f3 (f1 x1.toNatClampNeg).toInt (f2 x1.toNatClampNeg).toInt) (rs f3 f4 f8 (fun _ => 0) (f1 x1.toNatClampNeg).toInt (f2 x1.toNatClampNeg).toInt) T ∧ pR f7 (I0 33).toInt gf7 ((zu (zu (zu (zu (zu (zu (zu (zu I0 27 a27) 28 a28) 35 a35) 37 a37) 38 a38) 39 a39) 40 a40) 33 a33) 33).toInt T)) → Z1 ((zu (zu (zu (zu (zu (zu (zu (zu I0 27 a27) 28 a28) 35 a35) 37 a37) 38 a38) 39 a39) 40 a40) 33 a33), gJ0, gf6, gf7) → Z2 ((zu (zu (zu (zu (zu (zu (zu (zu I0 27 a27) 28 a28) 35 a35) 37 a37) 38 a38) 39 a39) 40 a40) 33 a33), gJ0, gf6, gf7)) : v_M_date_0 I0 J0 10 f1 10 f2 320 f3 320 f4 20 f5 420 f6 4200 f7 320 f8 x1 Z1 → v_M_date_0 I0 J0 10 f1 10 f2 320 f3 320 f4 20 f5 420 f6 4200 f7 320 f8 x1 Z2 := by
  have hZ2 : ∀ (I' : Nat → Int32) (gJ0 : Nat → Int64) (gf6 : Nat → Int32) (gf7 : Nat → Int32), zfr [27, 28, 35, 37, 38, 39, 40, 33] I0 I' → ((∃ T, rdP (I0 23).toInt x1.toInt (I0 25).toInt (dV f5 (I0 24).toInt.toNat) ((I0 25).toInt - (I0 24).toInt) (pmA 0 (rs f3 f4 (fun _ => 0) (fun _ => 0) (f1 x1.toNatClampNeg).toInt (f2 x1.toNatClampNeg).toInt)) (hdR f3 (f1 x1.toNatClampNeg).toInt (f2 x1.toNatClampNeg).toInt) (rs f3 f4 f8 (fun _ => 0) (f1 x1.toNatClampNeg).toInt (f2 x1.toNatClampNeg).toInt) T ∧ pR f7 (I0 33).toInt gf7 (I' 33).toInt T)) → Z1 (I', gJ0, gf6, gf7) → Z2 (I', gJ0, gf6, gf7) := by
    intro I' gJ0 gf6 gf7 hf hc
    obtain ⟨a27, a28, a35, a37, a38, a39, a40, a33, rfl⟩ := zcn8 hf
    exact hZ _ _ _ _ _ _ _ _ _ _ _ hc
  clear hZ
  (try simp only [zu_s, zu_n, zin_iff, zb_iff, zc_iff, zle_lt, zle_le, zle_eq, zm1, zm8, Int32.reduceToInt, ↓reduceIte, ne_eq, Nat.reduceEqDiff, not_false_eq_true, not_true_eq_false, reduceCtorEq, or_true, true_or, or_false, false_or, and_true, true_and, and_false, false_and, true_implies, false_implies, implies_true, zl_lt, zl_le, zl_eq, zi64, Int64.reduceToInt] at hp); (try simp (disch := first | omega | ((simp (disch := (first | omega | ((simp only [Int32.reduceToInt, Int64.reduceToInt, zm1, zm8, zi64]); first | done | omega))) only [Int32.reduceToInt, Int64.reduceToInt, zm1, zm8, zadd1, zsub1, zmul1, zneg1, zdiv10p, zl_div10p, zl_mul1, zl_add1, zl_sub1, zi64]); first | done | omega)) only [Int32.reduceToInt, Int64.reduceToInt, zm1, zm8, zadd1, zsub1, zmul1, zneg1, zdiv10p, zl_div10p, zl_mul1, zl_add1, zl_sub1, zi64] at hp)
  obtain ⟨hp, hvO, hP0, hP3, hdk⟩ := hp
  have hV := vO_17 hvO
  have hrb := spR_bd (v := (dV f5 (I0 24).toInt.toNat)) (s := ((I0 25).toInt - (I0 24).toInt)) hV.1 hV.2
  have hW0 := spW_0 (v := (dV f5 (I0 24).toInt.toNat)) (s := ((I0 25).toInt - (I0 24).toInt)) hV.1
  obtain ⟨pp, hpp⟩ : ∃ a, a = (pmA 0 (rs f3 f4 (fun _ => 0) (fun _ => 0) (f1 x1.toNatClampNeg).toInt (f2 x1.toNatClampNeg).toInt)) := ⟨_, rfl⟩
  have hpl : ∀ j : Nat, (f1 x1.toNatClampNeg).toInt ≤ (j : Int) → (j : Int) < (f2 x1.toNatClampNeg).toInt → (f3 j).toInt = 15 → (f4 j).toInt ≤ pp := fun j a b c => by rw [hpp]; exact pm_le _ _ 0 (by omega) rfl j a b c
  refine x_M_date_0 (f_M_findDay ⟨hp, hvO, hP0, hP3⟩ (fun r a27 a28 a35 a37 gJ g6 h => ?_))
  rw [← hpp] at hP0 hP3 hZ2
  have h : fdO r.toInt a35.toInt (gJ 36).toInt a37.toInt (I0 23).toInt x1.toInt (I0 25).toInt (spW (dV f5 (I0 24).toInt.toNat) ((I0 25).toInt - (I0 24).toInt)) (spR (dV f5 (I0 24).toInt.toNat) ((I0 25).toInt - (I0 24).toInt)) pp := by rw [hpp]; exact h
  have hZ3 : ∀ (K : Nat → Int32) (g : Nat → Int32), zfr [27, 28, 35, 37, 38, 39, 40, 33] I0 K → (∃ T, rdP (I0 23).toInt x1.toInt (I0 25).toInt (dV f5 (I0 24).toInt.toNat) ((I0 25).toInt - (I0 24).toInt) pp (hdR f3 (f1 x1.toNatClampNeg).toInt (f2 x1.toNatClampNeg).toInt) (rs f3 f4 f8 (fun _ => 0) (f1 x1.toNatClampNeg).toInt (f2 x1.toNatClampNeg).toInt) T ∧ pR f7 (I0 33).toInt g (K 33).toInt T) → Z1 (K, gJ, g6, g) → Z2 (K, gJ, g6, g) := fun K g a b => hZ2 K gJ g6 g a b
  clear hZ2
  (try dsimp only)
  have hf0 : zfr [27, 28, 35, 37, 38, 39, 40, 33] I0 (zu (zu (zu (zu I0 27 a27) 28 a28) 35 a35) 37 a37) := by (repeat (with_reducible refine zfr_zu (by decide) ?_)); with_reducible exact zfr_refl
  refine x_M_date_5 (fI_ite' (fun h0 => ?_) (fun h0 => ?_))
  rotate_left
  · exact f_M_put True.intro (fun a g hA => x_M_date_14 (hZ3 _ _ (zfr_zu (by decide) hf0) (rdq_0 h (by rw [h0]; decide) hA)))
  have hr : ¬ r.toInt = 0 := fun c => h0 (zle_eq.2 (c.trans (by decide)))
  obtain ⟨hC, hdy, htk, hpt, hlt⟩ := fdO_1 h hr
  have hcb := dtC_b (r := spR (dV f5 (I0 24).toInt.toNat) ((I0 25).toInt - (I0 24).toInt)) (P := pp)
  obtain ⟨nn, hnn⟩ : ∃ a, a = ddN (dV f5 (I0 24).toInt.toNat) ((I0 25).toInt - (I0 24).toInt) pp := ⟨_, rfl⟩
  have hdn : a35.toInt = nn := by rw [hnn]; exact hdy
  have hn0 : 0 ≤ nn := by omega
  have htb := dtI_b (r := spR (dV f5 (I0 24).toInt.toNat) ((I0 25).toInt - (I0 24).toInt)) (P := pp) hrb.1 hrb.2 hP3
  obtain ⟨tk, htk2⟩ : ∃ a, a = dtI (spR (dV f5 (I0 24).toInt.toNat) ((I0 25).toInt - (I0 24).toInt)) pp := ⟨_, rfl⟩
  rw [← htk2] at htk htb
  obtain ⟨ss, hss⟩ : ∃ a, a = tk / 10 ^ pp.toNat := ⟨_, rfl⟩
  obtain ⟨tt, htt⟩ : ∃ a, a = tk % 10 ^ pp.toNat * 10 ^ (3 - pp).toNat := ⟨_, rfl⟩
  have p10p := p10 pp.toNat
  have hs0 : 0 ≤ ss := by rw [hss]; exact Int.ediv_nonneg htb.1 (Int.le_of_lt p10p)
  have hs1 : ss < 86400 := by rw [hss]; exact Int.ediv_lt_of_lt_mul p10p htb.2
  have hcd := cd_bb hn0 (by omega)
  refine f_M_findDate ⟨by show 0 ≤ a35.toInt; omega, by show a35.toInt ≤ 2958466; omega⟩ (fun a38 a39 a40 h2 => ?_)
  have h2 : a38.toInt = cdY a35.toInt ∧ a39.toInt = cdM a35.toInt ∧ a40.toInt = cdD a35.toInt := h2
  rw [hdn] at h2
  (try dsimp only)
  obtain ⟨K1, hK1⟩ : ∃ K, K = zu (zu (zu (zu (zu (zu (zu I0 27 a27) 28 a28) 35 a35) 37 a37) 38 a38) 39 a39) 40 a40 := ⟨_, rfl⟩
  have hf1 : zfr [27, 28, 35, 37, 38, 39, 40, 33] I0 K1 := by rw [hK1]; (repeat (with_reducible refine zfr_zu (by decide) ?_)); with_reducible exact zfr_refl
  have hF1 : dtF K1 nn pp := by rw [hK1]; exact ⟨hdn, hpt, h2.1, h2.2.1, h2.2.2⟩
  have h33 : (K1 33).toInt = (I0 33).toInt := by rw [hK1]; rfl
  rw [← hK1]
  clear hK1
  have lp : ∀ (hh : Int32) (x5 : Int64) (x7 : Int32), hh.toInt = hdR f3 (f1 x1.toNatClampNeg).toInt (f2 x1.toNatClampNeg).toInt → x5.toInt = 86400 * nn + ss → ((x7 = 0 ∧ ss < 43200) ∨ (¬ x7 = 0 ∧ 43200 ≤ ss)) → ∀ (N : Nat) (K : Nat → Int32) (g : Nat → Int32) (x8 : Int32), zfr [27, 28, 35, 37, 38, 39, 40, 33] I0 K → dtF K nn pp → (f1 x1.toNatClampNeg).toInt ≤ x8.toInt → dR f7 (I0 33).toInt g (K 33).toInt (dvE (cdY nn) (cdM nn) (cdD nn) nn ss tt (hdR f3 (f1 x1.toNatClampNeg).toInt (f2 x1.toNatClampNeg).toInt)) (rs f3 f4 f8 (fun _ => 0) x8.toInt (f2 x1.toNatClampNeg).toInt) (drun (dvE (cdY nn) (cdM nn) (cdD nn) nn ss tt (hdR f3 (f1 x1.toNatClampNeg).toInt (f2 x1.toNatClampNeg).toInt)) (rs f3 f4 f8 (fun _ => 0) (f1 x1.toNatClampNeg).toInt (f2 x1.toNatClampNeg).toInt)) → (v_M_date_93 gJ 10 f1 10 f2 320 f3 320 f4 20 f5 420 g6 4200 320 f8 x1 hh x5 x7 Z1 N) K g x8 → (v_M_date_93 gJ 10 f1 10 f2 320 f3 320 f4 20 f5 420 g6 4200 320 f8 x1 hh x5 x7 Z2 N) K g x8 := by
    intro hh x5 x7 hhe hx5 hlate N
    have e36 : (x5 / 3600).toInt = nn * 24 + ss / 3600 := by rw [zl_dn hx5 lk_3600 (by omega) (by decide)]; exact (all_h hs0 hs1).1
    have e60 : (x5 / 60).toInt = nn * 1440 + ss / 60 := by rw [zl_dn hx5 lk_60 (by omega) (by decide)]; exact (all_h hs0 hs1).2.1
    have e1 : x5.toInt = nn * 86400 + ss := by rw [hx5]; exact (all_h hs0 hs1).2.2
    induction N with
    | zero => intro K g x8 _ _ _ _ h; exact h.elim
    | succ N ih =>
      intro K g x8 hf hF hx hX
      refine x_M_date_93 (fI_and (fun _ => fI_ite (fun h0 => ?_) (fun h0 => ?_)))
      · rw [zle_le] at h0
        exact hZ3 K g hf (rdq_1 hC hnn (by omega) (by rw [← htk2]; exact hss) (by rw [← htk2]; exact htt) (dr_x hX h0))
      rw [zle_le] at h0
      have hx81 : (x8 + 1).toInt = x8.toInt + 1 := zadd1 (by simp only [Int32.reduceToInt]; omega) (by simp only [Int32.reduceToInt]; omega)
      have st : ∀ (K' : Nat → Int32) (g' : Nat → Int32) (X : List Int), zfr [27, 28, 35, 37, 38, 39, 40, 33] I0 K' → dtF K' nn pp → pR g (K 33).toInt g' (K' 33).toInt X → X = drun (dvE (cdY nn) (cdM nn) (cdD nn) nn ss tt (hdR f3 (f1 x1.toNatClampNeg).toInt (f2 x1.toNatClampNeg).toInt)) (rx (f3 x8.toNatClampNeg).toInt (f4 x8.toNatClampNeg).toInt (f8 x8.toNatClampNeg).toInt 0) → v_M_date_372 K' gJ 10 f1 10 f2 320 f3 320 f4 20 f5 420 g6 4200 g' 320 f8 x1 hh x5 x7 x8 (v_M_date_93 gJ 10 f1 10 f2 320 f3 320 f4 20 f5 420 g6 4200 320 f8 x1 hh x5 x7 Z1 N) Z1 → v_M_date_372 K' gJ 10 f1 10 f2 320 f3 320 f4 20 f5 420 g6 4200 g' 320 f8 x1 hh x5 x7 x8 (v_M_date_93 gJ 10 f1 10 f2 320 f3 320 f4 20 f5 420 g6 4200 320 f8 x1 hh x5 x7 Z2 N) Z2 := fun K' g' X a b c d => x_M_date_372 (ih K' g' (x8 + 1) a b (by rw [hx81]; omega) (dr_s hX (by omega) h0 c d hx81))
      have st0 := fun e => st K g [] hf hF (pR_0 rfl) e
      have hj : ((x8.toNatClampNeg : Nat) : Int) = x8.toInt := by rw [zcl]; omega
      have hdj := hdk x8.toNatClampNeg (by omega) (by omega)
      have hpj := hpl x8.toNatClampNeg (by omega) (by omega)
      refine fI_and (fun _ => ?_)
      refine fI_ite (fun k1 => ?_) (fun k1 => ?_)
      · exact fI_and (fun _ => f_M_put True.intro (fun a g2 hA => x_M_date_195 (st _ _ _ (zfr_zu (by decide) hf) (dtF_z hF) hA (dx_1 (by rw [k1]; decide)))))
      refine fI_ite (fun k2 => ?_) (fun k2 => ?_)
      · exact st0 (dx_n (by rw [k2]; decide) (by rw [k2]; decide) (by rw [k2]; decide) (by rw [k2]; decide) (by rw [k2]; decide) (by rw [k2]; decide) (by rw [k2]; decide) (by rw [k2]; decide) (by rw [k2]; decide))
      refine fI_ite (fun k3 => ?_) (fun k3 => ?_)
      · exact st0 (dx_n (by rw [k3]; decide) (by rw [k3]; decide) (by rw [k3]; decide) (by rw [k3]; decide) (by rw [k3]; decide) (by rw [k3]; decide) (by rw [k3]; decide) (by rw [k3]; decide) (by rw [k3]; decide))
      refine fI_ite (fun k4 => ?_) (fun k4 => ?_)
      · exact st0 (dx_n (by rw [k4]; decide) (by rw [k4]; decide) (by rw [k4]; decide) (by rw [k4]; decide) (by rw [k4]; decide) (by rw [k4]; decide) (by rw [k4]; decide) (by rw [k4]; decide) (by rw [k4]; decide))
      refine fI_ite (fun k5 => ?_) (fun k5 => ?_)
      · exact st0 (dx_n (by rw [k5]; decide) (by rw [k5]; decide) (by rw [k5]; decide) (by rw [k5]; decide) (by rw [k5]; decide) (by rw [k5]; decide) (by rw [k5]; decide) (by rw [k5]; decide) (by rw [k5]; decide))
      refine fI_ite (fun k6 => ?_) (fun k6 => ?_)
      · exact st0 (dx_n (by rw [k6]; decide) (by rw [k6]; decide) (by rw [k6]; decide) (by rw [k6]; decide) (by rw [k6]; decide) (by rw [k6]; decide) (by rw [k6]; decide) (by rw [k6]; decide) (by rw [k6]; decide))
      refine fI_ite (fun k7 => ?_) (fun k7 => ?_)
      · exact absurd (by rw [k7]; decide) hdj.1.1
      refine fI_ite (fun k8 => ?_) (fun k8 => ?_)
      · exact absurd (by rw [k8]; decide) hdj.1.2.1
      refine fI_ite (fun k9 => ?_) (fun k9 => ?_)
      · exact st0 (dx_n (by rw [k9]; decide) (by rw [k9]; decide) (by rw [k9]; decide) (by rw [k9]; decide) (by rw [k9]; decide) (by rw [k9]; decide) (by rw [k9]; decide) (by rw [k9]; decide) (by rw [k9]; decide))
      refine fI_ite (fun k10 => ?_) (fun k10 => ?_)
      · exact absurd (by rw [k10]; decide) hdj.1.2.2
      refine fI_ite (fun k11 => ?_) (fun k11 => ?_)
      · refine fI_and (fun _ => fI_and (fun _ => f_M_rowOf ⟨?_, hdj.2.1 (by rw [k11]; decide)⟩ (fun a g2 hA => x_M_date_217 (st _ _ _ (zfr_zu (by decide) hf) (dtF_z hF) hA (dx_11 (by rw [k11]; decide) (by rw [hF.1, hF.2.1, hF.2.2.1, hF.2.2.2.1, hF.2.2.2.2, htk, ← hss, hhe])))))) 
        rw [hF.1, hF.2.1, hF.2.2.1, hF.2.2.2.1, hF.2.2.2.2, htk]
        exact ⟨hP0, hP3, htb.1, htb.2, hn0, by omega, hcd.1.1, hcd.1.2, hcd.2.1.1, hcd.2.1.2, hcd.2.2⟩
      refine fI_ite (fun k12 => ?_) (fun k12 => ?_)
      · have hb2 := hdj.2.2.1 (by rw [k12]; decide)
        refine fI_and (fun _ => fI_ite' (fun h4 => ?_) (fun h4 => ?_))
        · refine fI_and (fun _ => fI_ite' (fun h5 => ?_) (fun h5 => ?_))
          · exact x_M_date_265 (fI_and (fun _ => f_M_figures ⟨by rw [e1]; omega, by rw [e1]; omega, by omega, by omega⟩ (fun a g2 hA => x_M_date_275 (st _ _ _ (zfr_zu (by decide) hf) (dtF_z hF) hA (by rw [e1]; exact dx_12c (by rw [k12]; decide) (fun c => h4 (zle_eq.2 (c.trans (by decide)))) (fun c => h5 (zle_eq.2 (c.trans (by decide)))))))))
          · exact x_M_date_265 (fI_and (fun _ => f_M_figures ⟨by rw [e60]; omega, by rw [e60]; omega, by omega, by omega⟩ (fun a g2 hA => x_M_date_275 (st _ _ _ (zfr_zu (by decide) hf) (dtF_z hF) hA (by rw [e60]; exact dx_12b (by rw [k12]; decide) (by rw [h5]; decide))))))
        · exact x_M_date_265 (fI_and (fun _ => f_M_figures ⟨by rw [e36]; omega, by rw [e36]; omega, by omega, by omega⟩ (fun a g2 hA => x_M_date_275 (st _ _ _ (zfr_zu (by decide) hf) (dtF_z hF) hA (by rw [e36]; exact dx_12a (by rw [k12]; decide) (by rw [h4]; decide))))))
      refine fI_ite (fun k13 => ?_) (fun k13 => ?_)
      · refine fI_ite (fun h4 => ?_) (fun h4 => ?_)
        · exact x_M_date_291 (f_M_put True.intro (fun a g2 hA => x_M_date_294 (f_M_put True.intro (fun a2 g3 hB => x_M_date_300 (st _ _ _ (zfr_zu (by decide) (zfr_zu (by decide) hf)) (dtF_z (dtF_z hF)) (pR_t hA hB) (dx_13 (by rw [k13]; decide) (Or.inl ⟨(hlate.resolve_right (fun c => c.1 h4)).2, by decide⟩) (by decide)))))))
        · exact x_M_date_291 (f_M_put True.intro (fun a g2 hA => x_M_date_294 (f_M_put True.intro (fun a2 g3 hB => x_M_date_300 (st _ _ _ (zfr_zu (by decide) (zfr_zu (by decide) hf)) (dtF_z (dtF_z hF)) (pR_t hA hB) (dx_13 (by rw [k13]; decide) (Or.inr ⟨(hlate.resolve_left (fun c => h4 c.1)).2, by decide⟩) (by decide)))))))
      refine fI_ite (fun k14 => ?_) (fun k14 => ?_)
      · refine fI_ite (fun h4 => ?_) (fun h4 => ?_)
        · exact x_M_date_316 (f_M_put True.intro (fun a g2 hA => x_M_date_319 (st _ _ _ (zfr_zu (by decide) hf) (dtF_z hF) hA (dx_14 (by rw [k14]; decide) (Or.inl ⟨(hlate.resolve_right (fun c => c.1 h4)).2, by decide⟩)))))
        · exact x_M_date_316 (f_M_put True.intro (fun a g2 hA => x_M_date_319 (st _ _ _ (zfr_zu (by decide) hf) (dtF_z hF) hA (dx_14 (by rw [k14]; decide) (Or.inr ⟨(hlate.resolve_left (fun c => h4 c.1)).2, by decide⟩)))))
      refine fI_ite (fun k15 => ?_) (fun k15 => ?_)
      · have ha3 := hdj.2.2.2 (by rw [k15]; decide)
        have hap := hpj (by rw [k15]; decide)
        have e37 : ((K 37) - f4 x8.toNatClampNeg).toInt = pp - (f4 x8.toNatClampNeg).toInt := (zdif hF.2.1 rfl (by omega) (by omega) (by omega) (by omega)).1
        refine f_M_put True.intro (fun a g2 hA => x_M_date_328 (f_M_tenTo ⟨?_, ?_⟩ (fun r4 h8 => x_M_date_340 (fI_and (fun _ => fI_and (fun _ => f_M_tenTo ⟨?_, ?_⟩ (fun r5 h9 => ?_)))))))
        · show 0 ≤ (K 37).toInt; rw [hF.2.1]; exact hP0
        · show (K 37).toInt ≤ 3; rw [hF.2.1]; exact hP3
        · show 0 ≤ ((K 37) - f4 x8.toNatClampNeg).toInt; rw [e37]; omega
        · show ((K 37) - f4 x8.toNatClampNeg).toInt ≤ 3; rw [e37]; omega
        have h8 : r4.toInt = 10 ^ pp.toNat := by rw [← hF.2.1]; exact h8
        have h9 : r5.toInt = 10 ^ (pp - (f4 x8.toNatClampNeg).toInt).toNat := by rw [← e37]; exact h9
        have hq := dt_m htk h8 h9 htb.1 hP3
        exact x_M_date_357 (fI_and (fun _ => fI_and (fun _ => f_M_figures ⟨by rw [hq.1]; exact hq.2.1, by rw [hq.1]; omega, by omega, by omega⟩ (fun a2 g3 hB => x_M_date_369 (st _ _ _ (zfr_zu (by decide) (zfr_zu (by decide) hf)) (dtF_z (dtF_z hF)) (pR_t hA hB) (dx_15 (by rw [k15]; decide) htt (by omega) hap hP3 (by decide) hq.1))))))
      exact st0 (dx_n (fun c => k1 (zle_eq.2 (c.trans (by decide)))) hdj.1.1 hdj.1.2.1 hdj.1.2.2 (fun c => k11 (zle_eq.2 (c.trans (by decide)))) (fun c => k12 (zle_eq.2 (c.trans (by decide)))) (fun c => k13 (zle_eq.2 (c.trans (by decide)))) (fun c => k14 (zle_eq.2 (c.trans (by decide)))) (fun c => k15 (zle_eq.2 (c.trans (by decide)))))
  have main : ∀ hh : Int32, hh.toInt = hdR f3 (f1 x1.toNatClampNeg).toInt (f2 x1.toNatClampNeg).toInt → v_M_date_42 K1 gJ 10 f1 10 f2 320 f3 320 f4 20 f5 420 g6 4200 f7 320 f8 x1 hh Z1 → v_M_date_42 K1 gJ 10 f1 10 f2 320 f3 320 f4 20 f5 420 g6 4200 f7 320 f8 x1 hh Z2 := by
    intro hh hhe
    refine x_M_date_42 (f_M_tenTo ⟨by rw [hF1.2.1]; exact hP0, by rw [hF1.2.1]; exact hP3⟩ (fun r3 h6 => ?_))
    rw [hF1.2.1] at h6
    have hq := zl_dn htk (y := r3.toInt64) (b := 10 ^ pp.toNat) (by rw [zi64]; exact h6) htb.1 (by omega)
    rw [← hss] at hq
    have hx5 : (86400 * (K1 35).toInt64 + (gJ 36) / r3.toInt64).toInt = 86400 * nn + ss := zl_an (zl_xn lk_86400 (y := (K1 35).toInt64) (b := nn) (by rw [zi64]; exact hF1.1) (by omega) (by omega)) hq (by omega) (by omega) (by omega) (by omega)
    have hX : dR f7 (I0 33).toInt f7 (K1 33).toInt (dvE (cdY nn) (cdM nn) (cdD nn) nn ss tt (hdR f3 (f1 x1.toNatClampNeg).toInt (f2 x1.toNatClampNeg).toInt)) (rs f3 f4 f8 (fun _ => 0) (f1 x1.toNatClampNeg).toInt (f2 x1.toNatClampNeg).toInt) (drun (dvE (cdY nn) (cdM nn) (cdD nn) nn ss tt (hdR f3 (f1 x1.toNatClampNeg).toInt (f2 x1.toNatClampNeg).toInt)) (rs f3 f4 f8 (fun _ => 0) (f1 x1.toNatClampNeg).toInt (f2 x1.toNatClampNeg).toInt)) := gR_i h33 rfl
    refine x_M_date_54 (fI_and (fun _ => fI_all (fI_ite (fun h7 => ?_) (fun h7 => ?_))))
    · rw [zl_lt, hq] at h7
      simp only [Int64.reduceToInt] at h7
      exact x_M_date_83 (fI_and (fun _ => fI_ex (fun N => lp hh _ _ hhe hx5 (Or.inl ⟨rfl, h7⟩) N K1 f7 _ hf1 hF1 (Int.le_refl _) hX)))
    · rw [zl_lt, hq] at h7
      simp only [Int64.reduceToInt] at h7
      exact x_M_date_83 (fI_and (fun _ => fI_ex (fun N => lp hh _ _ hhe hx5 (Or.inr ⟨by decide, by omega⟩) N K1 f7 _ hf1 hF1 (Int.le_refl _) hX)))
  refine x_M_date_19 (f_M_countOf hp (fun r1 h3 => x_M_date_26 (f_M_countOf hp (fun r2 h4 => x_M_date_33 (fI_ite (fun h5 => main _ ?_) (fun h5 => main _ ?_))))))
  · have e := zadd1 (x := r1) (y := r2) (by omega) (by omega)
    rw [zle_le, e] at h5
    simp only [Int32.reduceToInt] at h3 h4 h5 ⊢
    unfold hdR; rw [if_neg (by omega)]
  · have e := zadd1 (x := r1) (y := r2) (by omega) (by omega)
    rw [zle_le, e] at h5
    simp only [Int32.reduceToInt] at h3 h4 h5 ⊢
    unfold hdR; rw [if_pos (by omega)]