set_option maxHeartbeats 2000000 in
set_option maxRecDepth 10000 in
theorem f_M_make {I0 : Nat → Int32} {J0 : Nat → Int64} {f1 : Nat → Int32} {f2 : Nat → Int32} {f3 : Nat → Int32} {f4 : Nat → Int32} {f5 : Nat → Int32} {f6 : Nat → Int32} {f7 : Nat → Int32} {f8 : Nat → Int32} {f9 : Nat → Int32} {f10 : Nat → Int32} {f11 : Nat → Int32} {f12 : Nat → Int32} {f13 : Nat → Int32} {f14 : Nat → Int32} {Z1 Z2 : (Nat → Int32) × (Nat → Int64) × (Nat → Int32) × (Nat → Int32) × (Nat → Int32) × (Nat → Int32) → Prop} (hp : (1 ≤ (f1 (0 : Int32).toNatClampNeg).toInt ∧ (f1 (0 : Int32).toNatClampNeg).toInt ≤ 4 ∧ ((f1 (0 : Int32).toNatClampNeg).toInt ≤ 1 ∨ ¬ (f2 0).toInt = 6) ∧ ((f1 (0 : Int32).toNatClampNeg).toInt ≤ 2 ∨ ¬ (f2 1).toInt = 6) ∧ ((f1 (0 : Int32).toNatClampNeg).toInt ≤ 3 ∨ ¬ (f2 2).toInt = 6)) ∧ vO f8 (I0 24).toInt (I0 25).toInt ∧ (0 ≤ (I0 21).toInt ∧ (I0 21).toInt ≤ 64) ∧ (∀ j : Nat, (j : Int) < (f1 (0 : Int32).toNatClampNeg).toInt → rscP (f2 j).toInt f7 f11 f13 f12 (f5 j).toInt (f6 j).toInt)) (hZ : ∀ (a27 : Int32) (a28 : Int32) (a30 : Int32) (a33 : Int32) (a35 : Int32) (a37 : Int32) (a38 : Int32) (a39 : Int32) (a40 : Int32) (a23 : Int32) (gJ0 : Nat → Int64) (gf4 : Nat → Int32) (gf9 : Nat → Int32) (gf10 : Nat → Int32) (gf14 : Nat → Int32), ((∃ T, rsP (f1 (0 : Int32).toNatClampNeg).toInt (f2 0).toInt (f2 1).toInt (f2 2).toInt (I0 20).toInt (I0 23).toInt f2 f5 f6 f7 f11 f13 f12 f8 (I0 24).toInt (I0 25).toInt (txs f3 0 (I0 21).toInt) T ∧ lkR gf4 ((zu (zu (zu (zu (zu (zu (zu (zu (zu (zu I0 27 a27) 28 a28) 30 a30) 33 a33) 35 a35) 37 a37) 38 a38) 39 a39) 40 a40) 23 a23) 33).toInt T)) → Z1 ((zu (zu (zu (zu (zu (zu (zu (zu (zu (zu I0 27 a27) 28 a28) 30 a30) 33 a33) 35 a35) 37 a37) 38 a38) 39 a39) 40 a40) 23 a23), gJ0, gf4, gf9, gf10, gf14) → Z2 ((zu (zu (zu (zu (zu (zu (zu (zu (zu (zu I0 27 a27) 28 a28) 30 a30) 33 a33) 35 a35) 37 a37) 38 a38) 39 a39) 40 a40) 23 a23), gJ0, gf4, gf9, gf10, gf14)) : v_M_make_0 I0 J0 2 f1 10 f2 64 f3 4200 f4 10 f5 10 f6 320 f7 20 f8 420 f9 480 f10 320 f11 320 f12 320 f13 480 f14 Z1 → v_M_make_0 I0 J0 2 f1 10 f2 64 f3 4200 f4 10 f5 10 f6 320 f7 20 f8 420 f9 480 f10 320 f11 320 f12 320 f13 480 f14 Z2 := by
  have hZ2 : ∀ (I' : Nat → Int32) (gJ0 : Nat → Int64) (gf4 : Nat → Int32) (gf9 : Nat → Int32) (gf10 : Nat → Int32) (gf14 : Nat → Int32), zfr [27, 28, 30, 33, 35, 37, 38, 39, 40, 23] I0 I' → ((∃ T, rsP (f1 (0 : Int32).toNatClampNeg).toInt (f2 0).toInt (f2 1).toInt (f2 2).toInt (I0 20).toInt (I0 23).toInt f2 f5 f6 f7 f11 f13 f12 f8 (I0 24).toInt (I0 25).toInt (txs f3 0 (I0 21).toInt) T ∧ lkR gf4 (I' 33).toInt T)) → Z1 (I', gJ0, gf4, gf9, gf10, gf14) → Z2 (I', gJ0, gf4, gf9, gf10, gf14) := by
    intro I' gJ0 gf4 gf9 gf10 gf14 hf hc
    obtain ⟨a27, a28, a30, a33, a35, a37, a38, a39, a40, a23, rfl⟩ := zcn10 hf
    exact hZ _ _ _ _ _ _ _ _ _ _ _ _ _ _ _ hc
  clear hZ
  (try simp only [zu_s, zu_n, zin_iff, zb_iff, zc_iff, zle_lt, zle_le, zle_eq, zm1, zm8, Int32.reduceToInt, ↓reduceIte, ne_eq, Nat.reduceEqDiff, not_false_eq_true, not_true_eq_false, reduceCtorEq, or_true, true_or, or_false, false_or, and_true, true_and, and_false, false_and, true_implies, false_implies, implies_true, zl_lt, zl_le, zl_eq, zi64, Int64.reduceToInt] at hp); (try simp (disch := first | omega | ((simp (disch := (first | omega | ((simp only [Int32.reduceToInt, Int64.reduceToInt, zm1, zm8, zi64]); first | done | omega))) only [Int32.reduceToInt, Int64.reduceToInt, zm1, zm8, zadd1, zsub1, zmul1, zneg1, zdiv10p, zl_div10p, zl_mul1, zl_add1, zl_sub1, zi64]); first | done | omega)) only [Int32.reduceToInt, Int64.reduceToInt, zm1, zm8, zadd1, zsub1, zmul1, zneg1, zdiv10p, zl_div10p, zl_mul1, zl_add1, zl_sub1, zi64] at hp)
  obtain ⟨hH6, hvO, htl, hrs⟩ := hp
  refine x_M_make_0 (f_M_taken hH6 (fun r hT => ?_))
  have hT : kTr (f1 (0 : Int32).toNatClampNeg).toInt (f2 0).toInt (f2 1).toInt (f2 2).toInt (I0 20).toInt (I0 23).toInt (I0 24).toInt r.toInt := hT
  have hTb := kTr_b2 hT hH6.1 hH6.2.1
  have hTl := kTr_lt hT hH6.1
  have hV := vO_17 hvO
  have fin : ∀ (K : Nat → Int32) (J : Nat → Int64) (g4 g9 g10 g14 : Nat → Int32) (T : List Int), zfr [27, 28, 30, 33, 35, 37, 38, 39, 40, 23] I0 K → lkR g4 (K 33).toInt T → rsP (f1 (0 : Int32).toNatClampNeg).toInt (f2 0).toInt (f2 1).toInt (f2 2).toInt (I0 20).toInt (I0 23).toInt f2 f5 f6 f7 f11 f13 f12 f8 (I0 24).toInt (I0 25).toInt (txs f3 0 (I0 21).toInt) T → Z1 (K, J, g4, g9, g10, g14) → Z2 (K, J, g4, g9, g10, g14) := fun K J g4 g9 g10 g14 T a b c => hZ2 K J g4 g9 g10 g14 a ⟨T, c, b⟩
  clear hZ2
  (try dsimp only)
  have go84 : ∀ s1 : Int32, gbR (I0 23).toInt r.toInt s1.toInt → ((r.toInt = -1 ∧ (I0 20).toInt = 0) ∨ (0 ≤ r.toInt ∧ (f2 r.toInt.toNat).toInt = 0)) → v_M_make_84 (zu I0 33 0) J0 2 f1 10 f2 64 f3 4200 f4 10 f5 10 f6 320 f7 20 f8 420 f9 480 f10 320 f11 320 f12 320 f13 480 f14 ((zu I0 33 0) 23) s1 Z1 → v_M_make_84 (zu I0 33 0) J0 2 f1 10 f2 64 f3 4200 f4 10 f5 10 f6 320 f7 20 f8 420 f9 480 f10 320 f11 320 f12 320 f13 480 f14 ((zu I0 33 0) 23) s1 Z2 := by
    intro s1 hb hc
    refine x_M_make_84 (fI_and (fun _ => f_M_general hvO (fun a27 a28 a33 g9 g4 h => x_M_make_91 (fI_and (fun _ => ?_)))))
    have h : pR f4 0 g4 a33.toInt (gnr g9 a27.toInt a28.toInt s1.toInt) ∧ tkO g9 f8 a27.toInt (I0 24).toInt a28.toInt (I0 25).toInt := h
    exact fin _ _ _ _ _ _ _ (by (repeat (with_reducible refine zfr_zu (by decide) ?_)); with_reducible exact zfr_refl) (pR_L h.1 rfl) ⟨r.toInt, hT, Or.inr (Or.inl ⟨hc, s1.toInt, g9, a27.toInt, a28.toInt, hb, h.2, rfl⟩)⟩
  have go61 : ((r.toInt = -1 ∧ (I0 20).toInt = 0) ∨ (0 ≤ r.toInt ∧ (f2 r.toInt.toNat).toInt = 0)) → v_M_make_61 (zu I0 33 0) J0 2 f1 10 f2 64 f3 4200 f4 10 f5 10 f6 320 f7 20 f8 420 f9 480 f10 320 f11 320 f12 320 f13 480 f14 r Z1 → v_M_make_61 (zu I0 33 0) J0 2 f1 10 f2 64 f3 4200 f4 10 f5 10 f6 320 f7 20 f8 420 f9 480 f10 320 f11 320 f12 320 f13 480 f14 r Z2 := by
    intro hc
    refine x_M_make_61 (fI_ite (fun h0 => ?_) (fun h0 => ?_))
    · have h0 : (I0 23).toInt = 0 := (congrArg Int32.toInt h0).trans (by decide)
      exact x_M_make_83 (go84 0 (Or.inr ⟨Or.inl h0, by decide⟩) hc)
    · have h0 : ¬ (I0 23).toInt = 0 := fun c => h0 (zle_eq.2 (c.trans (by decide)))
      refine fI_ite (fun h1 => ?_) (fun h1 => ?_)
      · have h1 : r.toInt = 1 := (congrArg Int32.toInt h1).trans (by decide)
        exact x_M_make_83 (go84 0 (Or.inr ⟨Or.inr h1, by decide⟩) hc)
      · have h1 : ¬ r.toInt = 1 := fun c => h1 (zle_eq.2 (c.trans (by decide)))
        exact go84 1 (Or.inl ⟨h0, h1, by decide⟩) hc
  have go113 : ∀ s0 : Int32, nbR (I0 23).toInt r.toInt s0.toInt → 0 ≤ r.toInt → ¬ (f2 r.toInt.toNat).toInt = 0 → v_M_make_113 (zu I0 33 0) J0 2 f1 10 f2 64 f3 4200 f4 10 f5 10 f6 320 f7 20 f8 420 f9 480 f10 320 f11 320 f12 320 f13 480 f14 r s0 Z1 → v_M_make_113 (zu I0 33 0) J0 2 f1 10 f2 64 f3 4200 f4 10 f5 10 f6 320 f7 20 f8 420 f9 480 f10 320 f11 320 f12 320 f13 480 f14 r s0 Z2 := by
    intro s0 hb hr0 hk0
    have hrn : r.toNatClampNeg = r.toInt.toNat := zcl r
    have hsc := hrs r.toInt.toNat (by omega)
    rw [← hrn] at hsc
    have hsec : 0 ≤ r.toInt ∧ r.toInt < 5 ∧ 0 ≤ (f5 r.toNatClampNeg).toInt ∧ (f5 r.toNatClampNeg).toInt ≤ (f6 r.toNatClampNeg).toInt ∧ (f6 r.toNatClampNeg).toInt ≤ 64 := ⟨hr0, by omega, hsc.1⟩
    have done : ∀ T : List Int, rSec (f2 r.toNatClampNeg).toInt f7 f11 f13 f12 (f5 r.toNatClampNeg).toInt (f6 r.toNatClampNeg).toInt f8 (I0 24).toInt (I0 25).toInt (I0 23).toInt r.toInt s0.toInt (txs f3 0 (I0 21).toInt) T → rsP (f1 (0 : Int32).toNatClampNeg).toInt (f2 0).toInt (f2 1).toInt (f2 2).toInt (I0 20).toInt (I0 23).toInt f2 f5 f6 f7 f11 f13 f12 f8 (I0 24).toInt (I0 25).toInt (txs f3 0 (I0 21).toInt) T := fun T h => ⟨r.toInt, hT, Or.inr (Or.inr ⟨⟨hr0, hk0⟩, s0.toInt, hb, h⟩)⟩
    refine x_M_make_113 (fI_and (fun _ => fI_ite (fun k2 => ?_) (fun k2 => ?_)))
    · have k2 : (f2 r.toNatClampNeg).toInt = 2 := (congrArg Int32.toInt k2).trans (by decide)
      refine f_M_number1 ⟨hsec, hvO, hsc.2.1 (Or.inl k2)⟩ (fun a27 a28 a30 a33 g9 g4 g10 h => x_M_make_158 (x_M_make_192 ?_))
      obtain ⟨n, hn⟩ := dnc_ex (rdM_p (p := ((zu I0 33 0) 25).toInt + (2 * (zrem f7 7 (f5 r.toNatClampNeg).toInt (f6 r.toNatClampNeg).toInt) - 3 * (zrem f7 5 (f5 r.toNatClampNeg).toInt (f6 r.toNatClampNeg).toInt)) - ((zu I0 33 0) 24).toInt) (d := zrem f7 3 (f5 r.toNatClampNeg).toInt (f6 r.toNatClampNeg).toInt) hV.1)
      exact fin _ _ _ _ _ _ _ (by (repeat (with_reducible refine zfr_zu (by decide) ?_)); with_reducible exact zfr_refl) (pR_L (h n hn) rfl) (done _ (Or.inl ⟨k2, n, hn, rfl⟩))
    have k2 : ¬ (f2 r.toNatClampNeg).toInt = 2 := fun c => k2 (zle_eq.2 (c.trans (by decide)))
    refine fI_ite (fun k3 => ?_) (fun k3 => ?_)
    · have k3 : (f2 r.toNatClampNeg).toInt = 3 := (congrArg Int32.toInt k3).trans (by decide)
      refine f_M_power1 ⟨hsec, hvO, hsc.2.1 (Or.inr k3)⟩ (fun a27 a28 a30 a33 g9 g4 g10 h => x_M_make_167 (x_M_make_192 ?_))
      obtain ⟨n0, hn0⟩ := dnc_ex (rdM_p (p := ((I0 25).toInt + -(pE (I0 24).toInt (I0 25).toInt (pW (zrem f7 2 (f5 r.toNatClampNeg).toInt (f6 r.toNatClampNeg).toInt))) - (I0 24).toInt)) (d := zrem f7 3 (f5 r.toNatClampNeg).toInt (f6 r.toNatClampNeg).toInt) hV.1)
      obtain ⟨n, hn⟩ := dnc_ex (rdM_p (p := ((I0 25).toInt + -(pF (I0 24).toInt (I0 25).toInt (pW (zrem f7 2 (f5 r.toNatClampNeg).toInt (f6 r.toNatClampNeg).toInt)) n0 (zrem f7 3 (f5 r.toNatClampNeg).toInt (f6 r.toNatClampNeg).toInt)) - (I0 24).toInt)) (d := zrem f7 3 (f5 r.toNatClampNeg).toInt (f6 r.toNatClampNeg).toInt) hV.1)
      exact fin _ _ _ _ _ _ _ (by (repeat (with_reducible refine zfr_zu (by decide) ?_)); with_reducible exact zfr_refl) (pR_L (h n0 n hn0 hn) rfl) (done _ (Or.inr (Or.inl ⟨k3, n0, n, hn0, hn, rfl⟩)))
    have k3 : ¬ (f2 r.toNatClampNeg).toInt = 3 := fun c => k3 (zle_eq.2 (c.trans (by decide)))
    refine fI_ite (fun k4 => ?_) (fun k4 => ?_)
    · have k4 : (f2 r.toNatClampNeg).toInt = 4 := (congrArg Int32.toInt k4).trans (by decide)
      refine f_M_fraction ⟨hsec, hvO, hsc.2.2.1 k4⟩ (fun a27 a28 a30 a33 g9 g10 g4 g14 h => x_M_make_176 (x_M_make_192 ?_))
      obtain ⟨T, hf, hA⟩ := h
      exact fin _ _ _ _ _ _ T (by (repeat (with_reducible refine zfr_zu (by decide) ?_)); with_reducible exact zfr_refl) (pR_L hA rfl) (done _ (Or.inr (Or.inr (Or.inl ⟨k4, hf⟩))))
    have k4 : ¬ (f2 r.toNatClampNeg).toInt = 4 := fun c => k4 (zle_eq.2 (c.trans (by decide)))
    refine fI_ite (fun k5 => ?_) (fun k5 => ?_)
    · have k5 : (f2 r.toNatClampNeg).toInt = 5 := (congrArg Int32.toInt k5).trans (by decide)
      have hs5 := hsc.2.2.2 k5
      refine f_M_date ⟨hsec, hvO, hs5.1.1, hs5.1.2, hs5.2⟩ (fun a27 a28 a35 a37 a38 a39 a40 a33 gJ g9 g4 h => x_M_make_184 (x_M_make_192 ?_))
      obtain ⟨T, hf, hA⟩ := h
      exact fin _ _ _ _ _ _ T (by (repeat (with_reducible refine zfr_zu (by decide) ?_)); with_reducible exact zfr_refl) (pR_L hA rfl) (done _ (Or.inr (Or.inr (Or.inr (Or.inl ⟨k5, hf⟩)))))
    have k5 : ¬ (f2 r.toNatClampNeg).toInt = 5 := fun c => k5 (zle_eq.2 (c.trans (by decide)))
    refine f_M_literals ⟨hsec, htl⟩ (fun a33 g4 h => x_M_make_192 ?_)
    exact fin _ _ _ _ _ _ _ (by (repeat (with_reducible refine zfr_zu (by decide) ?_)); with_reducible exact zfr_refl) (pR_L h rfl) (done _ (Or.inr (Or.inr (Or.inr (Or.inr ⟨⟨k2, k3, k4, k5⟩, rfl⟩)))))
  have go48 : (0 ≤ r.toInt ∨ (I0 20).toInt = 0) → v_M_make_48 (zu I0 33 0) J0 2 f1 10 f2 64 f3 4200 f4 10 f5 10 f6 320 f7 20 f8 420 f9 480 f10 320 f11 320 f12 320 f13 480 f14 r Z1 → v_M_make_48 (zu I0 33 0) J0 2 f1 10 f2 64 f3 4200 f4 10 f5 10 f6 320 f7 20 f8 420 f9 480 f10 320 f11 320 f12 320 f13 480 f14 r Z2 := by
    intro hc
    refine x_M_make_48 (fI_ite (fun h0 => ?_) (fun h0 => ?_))
    · have h0 : r.toInt < 0 := by rw [zle_lt] at h0; exact h0
      exact go61 (Or.inl ⟨by omega, hc.resolve_left (by omega)⟩)
    have h0 : 0 ≤ r.toInt := by rw [zle_lt] at h0; exact Int.le_of_not_gt h0
    refine fI_and (fun _ => fI_ite' (fun k0 => ?_) (fun k0 => ?_))
    rotate_left
    · have k0 : (f2 r.toInt.toNat).toInt = 0 := (congrArg Int32.toInt k0).trans (by decide)
      exact go61 (Or.inr ⟨h0, k0⟩)
    have k0 : ¬ (f2 r.toInt.toNat).toInt = 0 := fun c => k0 (zle_eq.2 (c.trans (by decide)))
    refine fI_ite (fun h1 => ?_) (fun h1 => ?_)
    · have h1 : (I0 23).toInt = 0 := (congrArg Int32.toInt h1).trans (by decide)
      exact x_M_make_112 (go113 0 (Or.inr ⟨Or.inl h1, by decide⟩) h0 k0)
    have h1 : ¬ (I0 23).toInt = 0 := fun c => h1 (zle_eq.2 (c.trans (by decide)))
    refine fI_ite' (fun h2 => ?_) (fun h2 => ?_)
    · have h2 : ¬ r.toInt = 0 := fun c => h2 (zle_eq.2 (c.trans (by decide)))
      exact x_M_make_112 (go113 0 (Or.inr ⟨Or.inr h2, by decide⟩) h0 k0)
    · have h2 : r.toInt = 0 := (congrArg Int32.toInt h2).trans (by decide)
      exact go113 1 (Or.inl ⟨h1, h2, by decide⟩) h0 k0
  refine x_M_make_9 (fI_ite (fun h0 => ?_) (fun h0 => ?_))
  · have h0 : 0 ≤ r.toInt := by rw [zle_le] at h0; exact h0
    exact go48 (Or.inl h0)
  have h0 : ¬ 0 ≤ r.toInt := by rw [zle_le] at h0; exact h0
  refine fI_ite (fun h1 => ?_) (fun h1 => ?_)
  · have h1 : (I0 20).toInt = 0 := (congrArg Int32.toInt h1).trans (by decide)
    exact go48 (Or.inr h1)
  have h1 : ¬ (I0 20).toInt = 0 := fun c => h1 (zle_eq.2 (c.trans (by decide)))
  have lp : ∀ (N : Nat) (K : Nat → Int32) (g : Nat → Int32) (x2 : Int32), zfr [27, 28, 30, 33, 35, 37, 38, 39, 40, 23] I0 K → (K 21).toInt = (I0 21).toInt → 0 ≤ x2.toInt → gR f4 0 g (K 33).toInt (txs f3 x2.toInt (I0 21).toInt) (txs f3 0 (I0 21).toInt) → v_M_make_23 J0 2 f1 10 f2 64 f3 4200 10 f5 10 f6 320 f7 20 f8 420 f9 480 f10 320 f11 320 f12 320 f13 480 f14 Z1 N K g x2 → v_M_make_23 J0 2 f1 10 f2 64 f3 4200 10 f5 10 f6 320 f7 20 f8 420 f9 480 f10 320 f11 320 f12 320 f13 480 f14 Z2 N K g x2 := by
    intro N
    induction N with
    | zero => intro K g x2 _ _ _ _ h; exact h.elim
    | succ N ih =>
      intro K g x2 hf h21 hx hX
      refine x_M_make_23 (fI_ite (fun h2 => ?_) (fun h2 => ?_))
      · rw [zle_le, h21] at h2
        exact fin K J0 g f9 f10 f14 _ hf (pR_L (gR_x hX (txs_x h2)) rfl) ⟨r.toInt, hT, Or.inl ⟨by omega, h1, rfl⟩⟩
      rw [zle_le, h21] at h2
      have hx1 : (x2 + 1).toInt = x2.toInt + 1 := zadd1 (by simp only [Int32.reduceToInt]; omega) (by simp only [Int32.reduceToInt]; omega)
      exact fI_and (fun _ => f_M_put True.intro (fun a g2 hA => x_M_make_41 (ih _ _ _ (zfr_zu (by decide) hf) h21 (by rw [hx1]; omega) (gR_s hX hA (txs_s hx h2 hx1)))))
  exact fI_ex (fun N => lp N (zu I0 33 0) f4 0 (zfr_zu (by decide) zfr_refl) rfl (by decide) (gR_i rfl rfl))