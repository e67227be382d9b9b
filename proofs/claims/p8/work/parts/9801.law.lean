theorem lw_go {L : Nat} {xs : Nat → Int32} (hL : L < 100000) : ∀ (N : Nat) (I0 : Nat → Int32) (f1 : Nat → Int32) (I2 : Nat → Int32) (f4 : Nat → Int32) (f5 : Nat → Int32) (I6 : Nat → Int32) (I7 : Nat → Int32) (I8 : Nat → Int32) (I9 : Nat → Int32) (I10 : Nat → Int32) (I11 : Nat → Int32) (f13 : Nat → Int32) (f14 : Nat → Int32) (I15 : Nat → Int32) (I16 : Nat → Int32) (I17 : Nat → Int32) (I18 : Nat → Int32) (I19 : Nat → Int32) (J19 : Nat → Int64) (f20 : Nat → Int32) (I22 : Nat → Int32) (I23 : Nat → Int32) (J23 : Nat → Int64) (I24 : Nat → Int32) (J24 : Nat → Int64) (J25 : Nat → Int64) (J26 : Nat → Int64) (I27 : Nat → Int32) (J27 : Nat → Int64) (I28 : Nat → Int32) (J28 : Nat → Int64) (I29 : Nat → Int32) (J29 : Nat → Int64) (J30 : Nat → Int64) (I31 : Nat → Int32) (J31 : Nat → Int64) (I32 : Nat → Int32) (n33 : Nat) (f33 : Nat → Int32) (I34 : Nat → Int32) (J34 : Nat → Int64) (f35 : Nat → Int32) (f36 : Nat → Int32) (f37 : Nat → Int32) (f38 : Nat → Int32) (f39 : Nat → Int32) (f40 : Nat → Int32) (f41 : Nat → Int32) (f42 : Nat → Int32) (f43 : Nat → Int32) (f44 : Nat → Int32) (f45 : Nat → Int32) (f46 : Nat → Int32) (f47 : Nat → Int32) (f48 : Nat → Int32) (f49 : Nat → Int32) (f50 : Nat → Int64) (x4 : Int32), lwJ I0 f1 I2 f4 f5 I6 I7 I8 I9 I15 I16 I17 I18 I19 J19 f20 I24 J24 I32 n33 f33 I34 f35 f36 f37 f38 f39 f40 f41 f42 f43 f44 f45 → 0 ≤ x4.toInt → x4.toInt ≤ (L : Int) → (L : Int) < x4.toInt + 5 * (N : Int) → v_L_law_23 L xs N I0 64 f1 I2 64 f4 64 f5 I6 I7 I8 I9 I10 I11 64 f13 64 f14 I15 I16 I17 I18 I19 J19 64 f20 I22 I23 J23 I24 J24 J25 J26 I27 J27 I28 J28 I29 J29 J30 I31 J31 I32 n33 f33 I34 J34 64 f35 2 f36 10 f37 10 f38 10 f39 320 f40 320 f41 320 f42 320 f43 64 f44 20 f45 420 f46 480 f47 480 f48 4200 f49 1 f50 x4 := by
  intro N; induction N with
  | zero => intro I0 f1 I2 f4 f5 I6 I7 I8 I9 I10 I11 f13 f14 I15 I16 I17 I18 I19 J19 f20 I22 I23 J23 I24 J24 J25 J26 I27 J27 I28 J28 I29 J29 J30 I31 J31 I32 n33 f33 I34 J34 f35 f36 f37 f38 f39 f40 f41 f42 f43 f44 f45 f46 f47 f48 f49 f50 x4 _ _ h1 h2; omega
  | succ N ih =>
    intro I0 f1 I2 f4 f5 I6 I7 I8 I9 I10 I11 f13 f14 I15 I16 I17 I18 I19 J19 f20 I22 I23 J23 I24 J24 J25 J26 I27 J27 I28 J28 I29 J29 J30 I31 J31 I32 n33 f33 I34 J34 f35 f36 f37 f38 f39 f40 f41 f42 f43 f44 f45 f46 f47 f48 f49 f50 x4 hI h0 h1 hm
    have hof : (Int32.ofNat L).toInt = (L : Int) := Int32.toInt_ofNat_of_lt (by omega)
    have hof5 : ((Int32.ofNat L) - (5 : Int32)).toInt = (L : Int) - 5 := by rw [zsub1] <;> simp only [Int32.reduceToInt, hof] <;> omega
    by_cases hend : ((Int32.ofNat L) - (5 : Int32)) < x4
    · exact u_L_law_23 ⟨fun _ => True.intro, fun h => absurd hend h⟩
    have hx : x4.toInt + 5 ≤ (L : Int) := by rw [zle_lt, hof5] at hend; omega
    have p0 : vp_in x4 L := zin_iff.2 ⟨h0, by omega⟩
    have pk : ∀ k : Int32, 0 ≤ k.toInt → k.toInt ≤ 4 → vp_in (x4 + k) L := fun k a b => by rw [zin_iff, zadd1] <;> omega
    have p1 := pk 1 (by decide) (by decide); have p2 := pk 2 (by decide) (by decide); have p3 := pk 3 (by decide) (by decide); have p4 := pk 4 (by decide) (by decide)
    have hx5 : (x4 + (5 : Int32)).toInt = x4.toInt + 5 := by rw [zadd1] <;> simp only [Int32.reduceToInt] <;> omega
    have nxt : ∀ (I0 : Nat → Int32) (f1 : Nat → Int32) (I2 : Nat → Int32) (f4 : Nat → Int32) (f5 : Nat → Int32) (I6 : Nat → Int32) (I7 : Nat → Int32) (I8 : Nat → Int32) (I9 : Nat → Int32) (I10 : Nat → Int32) (I11 : Nat → Int32) (f13 : Nat → Int32) (f14 : Nat → Int32) (I15 : Nat → Int32) (I16 : Nat → Int32) (I17 : Nat → Int32) (I18 : Nat → Int32) (I19 : Nat → Int32) (J19 : Nat → Int64) (f20 : Nat → Int32) (I22 : Nat → Int32) (I23 : Nat → Int32) (J23 : Nat → Int64) (I24 : Nat → Int32) (J24 : Nat → Int64) (J25 : Nat → Int64) (J26 : Nat → Int64) (I27 : Nat → Int32) (J27 : Nat → Int64) (I28 : Nat → Int32) (J28 : Nat → Int64) (I29 : Nat → Int32) (J29 : Nat → Int64) (J30 : Nat → Int64) (I31 : Nat → Int32) (J31 : Nat → Int64) (I32 : Nat → Int32) (n33 : Nat) (f33 : Nat → Int32) (I34 : Nat → Int32) (J34 : Nat → Int64) (f35 : Nat → Int32) (f36 : Nat → Int32) (f37 : Nat → Int32) (f38 : Nat → Int32) (f39 : Nat → Int32) (f40 : Nat → Int32) (f41 : Nat → Int32) (f42 : Nat → Int32) (f43 : Nat → Int32) (f44 : Nat → Int32) (f45 : Nat → Int32) (f46 : Nat → Int32) (f47 : Nat → Int32) (f48 : Nat → Int32) (f49 : Nat → Int32) (f50 : Nat → Int64), lwJ I0 f1 I2 f4 f5 I6 I7 I8 I9 I15 I16 I17 I18 I19 J19 f20 I24 J24 I32 n33 f33 I34 f35 f36 f37 f38 f39 f40 f41 f42 f43 f44 f45 → v_L_law_290 I0 64 f1 I2 64 f4 64 f5 I6 I7 I8 I9 I10 I11 64 f13 64 f14 I15 I16 I17 I18 I19 J19 64 f20 I22 I23 J23 I24 J24 J25 J26 I27 J27 I28 J28 I29 J29 J30 I31 J31 I32 n33 f33 I34 J34 64 f35 2 f36 10 f37 10 f38 10 f39 320 f40 320 f41 320 f42 320 f43 64 f44 20 f45 420 f46 480 f47 480 f48 4200 f49 1 f50 x4 (v_L_law_23 L xs N) L xs := by
      intro I0 f1 I2 f4 f5 I6 I7 I8 I9 I10 I11 f13 f14 I15 I16 I17 I18 I19 J19 f20 I22 I23 J23 I24 J24 J25 J26 I27 J27 I28 J28 I29 J29 J30 I31 J31 I32 n33 f33 I34 J34 f35 f36 f37 f38 f39 f40 f41 f42 f43 f44 f45 f46 f47 f48 f49 f50 hI
      exact u_L_law_290 (ih _ _ _ _ _ _ _ _ _ _ _ _ _ _ _ _ _ _ _ _ _ _ _ _ _ _ _ _ _ _ _ _ _ _ _ _ _ _ _ _ _ _ _ _ _ _ _ _ _ _ _ _ _ _ _ _ _ _ hI (by omega) (by omega) (by push_cast at hm; omega))
    clear ih
    obtain ⟨⟨⟨l0, l1, le⟩, hC, hS, hT, hR, hM⟩, hty, hqT, hV, hN, hQ, hL, hD⟩ := hI
    have hlen : 0 ≤ (I34 1).toInt ∧ (I34 1).toInt ≤ 64 := by omega
    refine u_L_law_23 ⟨fun h => absurd h hend, fun _ => ⟨p0, ⟨fun _ => ⟨p1, ?c_type⟩, fun _ => ⟨fun _ => ?c_erase, fun _ => ⟨fun _ => ?c_code, fun _ => ⟨fun _ => ⟨p1, ?c_num⟩, fun _ => ⟨fun _ => ?c_text, fun _ => ⟨fun _ => ?c_look, fun _ => ⟨fun _ => ⟨p1, ?c_at⟩, fun _ => ⟨fun _ => ⟨p1, ?c_about⟩, fun _ => ?c_none⟩⟩⟩⟩⟩⟩⟩⟩⟩⟩
    case c_none => exact (nxt _ _ _ _ _ _ _ _ _ _ _ _ _ _ _ _ _ _ _ _ _ _ _ _ _ _ _ _ _ _ _ _ _ _ _ _ _ _ _ _ _ _ _ _ _ _ _ _ _ _ _ _ _ _ _ _ _ ⟨⟨⟨l0, l1, le⟩, hC, hS, hT, hR, hM⟩, hty, hqT, hV, hN, hQ, hL, hD⟩)
    case c_about =>
      refine s_L_about hN.1 (fun r hx hq => ?_) (fun hx => ?_)
      · refine u_L_law_273 ⟨p1, s_M_about hM.1 (fun r2 a0 h => u_L_law_285 (nxt _ _ _ _ _ _ _ _ _ _ _ _ _ _ _ _ _ _ _ _ _ _ _ _ _ _ _ _ _ _ _ _ _ _ _ _ _ _ _ _ _ _ _ _ _ _ _ _ _ _ _ _ _ _ _ _ _ ⟨⟨⟨l0, l1, ?le⟩, hC, hS, hT, hR, lwM_z (by decide) (hM)⟩, hty, hqT, lwV7_z (by decide) (hV), hN, hQ, hL, hD⟩))⟩
        case le => rw [zu_n (by decide)]; exact le
      · refine u_L_law_273 ⟨p1, s_M_about hM.1 (fun r2 a0 h => u_L_law_285 (nxt _ _ _ _ _ _ _ _ _ _ _ _ _ _ _ _ _ _ _ _ _ _ _ _ _ _ _ _ _ _ _ _ _ _ _ _ _ _ _ _ _ _ _ _ _ _ _ _ _ _ _ _ _ _ _ _ _ ⟨⟨⟨l0, l1, ?le⟩, hC, hS, hT, hR, lwM_z (by decide) (hM)⟩, hty, hqT, lwV7_z (by decide) (hV), hN, hQ, hL, hD⟩))⟩
        case le => rw [zu_n (by decide)]; exact le
    case c_text =>
      refine s7_text hqT hV.2.2.2.1.1 ⟨l0, l1⟩ (fun I' g a b c d e q => u_L_law_217 (m7_text hlen (fun g2 e2 => u_L_law_221 (nxt _ _ _ _ _ _ _ _ _ _ _ _ _ _ _ _ _ _ _ _ _ _ _ _ _ _ _ _ _ _ _ _ _ _ _ _ _ _ _ _ _ _ _ _ _ _ _ _ _ _ _ _ _ _ _ _ _ ⟨⟨⟨l0, l1, le⟩, hC, hS, hT, hR, ?mm⟩, hty, hqT, ?vv, hN, hQ, Or.inl rfl, hD⟩))))
      case mm =>
        unfold lwM at hM ⊢
        obtain ⟨hm1, hm2⟩ := hM
        refine ⟨?_, hm2⟩
        simp only [zu_s, zu_n, ne_eq, Nat.reduceEqDiff, not_false_eq_true, reduceCtorEq] at hm1 ⊢
        exact ⟨hm1.1, hm1.2.1, hm1.2.2.1, hm1.2.2.2.1, Or.inr rfl, hm1.2.2.2.2.2.1, hlen.1, hlen.2, hm1.2.2.2.2.2.2.2.2.1, hm1.2.2.2.2.2.2.2.2.2⟩
      case vv =>
        unfold lwV7 at hV ⊢
        simp only [zu_s, zu_n, ne_eq, Nat.reduceEqDiff, not_false_eq_true, reduceCtorEq]
        refine ⟨⟨by rw [a]; decide, by rw [b]; exact hV.1.2⟩, by rw [c]; exact hV.2.1, by rw [c]; exact hV.2.2.1, ⟨q, by omega, by omega⟩, ?_⟩
        have w1 : txs g2 0 (I34 1).toInt = txs f35 0 (I34 1).toInt := txs_g e2
        have w2 : txs g 0 (I0 1).toInt = txs f1 0 (I0 1).toInt := txs_g e
        rw [w1, d, w2, hty, le]
    case c_erase =>
      refine qG_w1 (d_ND_erase True.intro) (fun u hu => u_L_law_116 (s_M_erase True.intro (fun a0 a1 h => u_L_law_120 (nxt _ _ _ _ _ _ _ _ _ _ _ _ _ _ _ _ _ _ _ _ _ _ _ _ _ _ _ _ _ _ _ _ _ _ _ _ _ _ _ _ _ _ _ _ _ _ _ _ _ _ _ _ _ _ _ _ _ ⟨⟨⟨?_, ?_, ?_⟩, hC, hS, hT, hR, lwM_z (by decide) (lwM_z (by decide) (hM))⟩, hty, hqT, lwV7_z (by decide) (lwV7_z (by decide) (hV)), hN, hQ, hL, hD⟩))))
      · omega
      · omega
      · omega
    case c_num =>
      have go2 : ∀ (I19 : Nat → Int32) (J19 : Nat → Int64) (I32 : Nat → Int32) (s1 : Int32), ((¬ ((xs (x4 + (2 : Int32)).toNatClampNeg).toInt < 0 ∨ 99999999 < (xs (x4 + (2 : Int32)).toNatClampNeg).toInt ∨ (xs (x4 + (3 : Int32)).toNatClampNeg).toInt < 0 ∨ 999999999 < (xs (x4 + (3 : Int32)).toNatClampNeg).toInt ∨ (xs (x4 + (4 : Int32)).toNatClampNeg).toInt < -350 ∨ 300 < (xs (x4 + (4 : Int32)).toNatClampNeg).toInt) ∧ (I19 0).toInt = 0 ∧ (((I19 1).toInt = 1 ∧ ¬ s1.toInt = 0 ∧ ¬ ((xs (x4 + (2 : Int32)).toNatClampNeg).toInt * 1000000000 + (xs (x4 + (3 : Int32)).toNatClampNeg).toInt) = 0) ∨ ((I19 1).toInt = 0 ∧ (s1.toInt = 0 ∨ ((xs (x4 + (2 : Int32)).toNatClampNeg).toInt * 1000000000 + (xs (x4 + (3 : Int32)).toNatClampNeg).toInt) = 0))) ∧ (J19 2).toInt = ((xs (x4 + (2 : Int32)).toNatClampNeg).toInt * 1000000000 + (xs (x4 + (3 : Int32)).toNatClampNeg).toInt) ∧ (I19 3).toInt = (xs (x4 + (4 : Int32)).toNatClampNeg).toInt ∧ ((qT f20 ∧ 0 ≤ (I19 5).toInt ∧ (I19 5).toInt ≤ 64) ∧ txs f44 0 (I34 21).toInt = txs f20 0 (I19 5).toInt) ∧ (I32 2).toInt = 0) ∨ (((xs (x4 + (2 : Int32)).toNatClampNeg).toInt < 0 ∨ 99999999 < (xs (x4 + (2 : Int32)).toNatClampNeg).toInt ∨ (xs (x4 + (3 : Int32)).toNatClampNeg).toInt < 0 ∨ 999999999 < (xs (x4 + (3 : Int32)).toNatClampNeg).toInt ∨ (xs (x4 + (4 : Int32)).toNatClampNeg).toInt < -350 ∨ 300 < (xs (x4 + (4 : Int32)).toNatClampNeg).toInt) ∧ lwV7 I19 J19 f20 I34 f44 f45 ∧ lwL I2 I6 I7 I8 I9 f4 f5 I19 J19 f20 I32 n33 f33)) → v_L_law_189 I0 64 f1 I2 64 f4 64 f5 I6 I7 I8 I9 I10 I11 64 f13 64 f14 I15 I16 I17 I18 I19 J19 64 f20 I22 I23 J23 I24 J24 J25 J26 I27 J27 I28 J28 I29 J29 J30 I31 J31 I32 n33 f33 I34 J34 64 f35 2 f36 10 f37 10 f38 10 f39 320 f40 320 f41 320 f42 320 f43 64 f44 20 f45 420 f46 480 f47 480 f48 4200 f49 1 f50 x4 s1 (v_L_law_23 L xs N) L xs := fun I19 J19 I32 s1 hk => by
        refine u_L_law_189 ⟨p2, p3, p4, t_M_number0 ?pre True.intro (fun a0 a20 a23 a24 a25 g h hq => u_L_law_210 (nxt _ _ _ _ _ _ _ _ _ _ _ _ _ _ _ _ _ _ _ _ _ _ _ _ _ _ _ _ _ _ _ _ _ _ _ _ _ _ _ _ _ _ _ _ _ _ _ _ _ _ _ _ _ _ _ _ _ ⟨⟨⟨l0, l1, ?le⟩, hC, hS, hT, hR, ?mm⟩, hty, hqT, ?vv, hN, hQ, ?ll, hD⟩))⟩
        case pre => have := hM.1; exact ⟨this.1, this.2.1, this.2.2.1, this.2.2.2.1, this.2.2.2.2.1, this.2.2.2.2.2.1⟩
        case le => simp only [zu_s, zu_n, ne_eq, Nat.reduceEqDiff, not_false_eq_true, reduceCtorEq]; exact le
        case ll =>
          rcases hk with ⟨_, _, _, _, _, _, k⟩ | ⟨_, _, k⟩
          · exact Or.inl k
          · exact k
        case vv =>
          simp only [zu_s, zu_n, ne_eq, Nat.reduceEqDiff, not_false_eq_true, reduceCtorEq] at hq
          rcases hk with ⟨kb, k1, k2, k3, k4, ⟨k5, k6⟩, _⟩ | ⟨kb, k1, _⟩
          · obtain ⟨_, q1, q2, q3, q4⟩ := hq.resolve_left (fun w => kb w.1)
            clear h hq
            unfold lwV7
            simp only [zu_s, zu_n, ne_eq, Nat.reduceEqDiff, not_false_eq_true, reduceCtorEq]
            rw [k3, k4]
            refine ⟨⟨by omega, by omega⟩, ⟨q3, q4⟩, ?_, k5, k6⟩
            clear q1 q2 q3 q4 k1 k2 k3 k4 k5 k6
            omega
          · obtain ⟨_, q1, q2, q3, q4, q5⟩ := hq.resolve_right (fun w => w.1 kb)
            unfold lwV7 at k1 ⊢
            simp only [zu_s, zu_n, ne_eq, Nat.reduceEqDiff, not_false_eq_true, reduceCtorEq]
            rw [q1, q2, q3, q4, q5]
            exact k1
        case mm =>
          clear hq
          simp only [zu_s, zu_n, ne_eq, Nat.reduceEqDiff, not_false_eq_true, reduceCtorEq] at h
          unfold lwM at hM ⊢
          obtain ⟨hm1, hm2⟩ := hM
          refine ⟨?_, hm2⟩
          simp only [zu_s, zu_n, ne_eq, Nat.reduceEqDiff, not_false_eq_true, reduceCtorEq] at hm1 ⊢
          exact ⟨h.2.2.2.1, h.2.2.2.2.1, h.2.2.2.2.2.1, h.2.2.2.2.2.2, h.2.1, h.2.2.1, hm1.2.2.2.2.2.2⟩
      have gg : ∀ (s s1 : Int32), ((s.toInt = 1 ∧ ¬ s1.toInt = 0 ∧ ¬ ((xs (x4 + (2 : Int32)).toNatClampNeg).toInt * 1000000000 + (xs (x4 + (3 : Int32)).toNatClampNeg).toInt) = 0) ∨ (s.toInt = 0 ∧ (s1.toInt = 0 ∨ ((xs (x4 + (2 : Int32)).toNatClampNeg).toInt * 1000000000 + (xs (x4 + (3 : Int32)).toNatClampNeg).toInt) = 0))) → (((xs (x4 + (2 : Int32)).toNatClampNeg)).toInt64 * 1000000000 + ((xs (x4 + (3 : Int32)).toNatClampNeg)).toInt64).toInt = ((xs (x4 + (2 : Int32)).toNatClampNeg).toInt * 1000000000 + (xs (x4 + (3 : Int32)).toNatClampNeg).toInt) → ¬ ((xs (x4 + (2 : Int32)).toNatClampNeg).toInt < 0 ∨ 99999999 < (xs (x4 + (2 : Int32)).toNatClampNeg).toInt ∨ (xs (x4 + (3 : Int32)).toNatClampNeg).toInt < 0 ∨ 999999999 < (xs (x4 + (3 : Int32)).toNatClampNeg).toInt ∨ (xs (x4 + (4 : Int32)).toNatClampNeg).toInt < -350 ∨ 300 < (xs (x4 + (4 : Int32)).toNatClampNeg).toInt) → v_L_law_189 I0 64 f1 I2 64 f4 64 f5 I6 I7 I8 I9 I10 I11 64 f13 64 f14 I15 I16 I17 I18 (zu (zu (zu I19 0 (0 : Int32)) 1 s) 3 (xs (x4 + (4 : Int32)).toNatClampNeg)) (zul J19 2 ((xs (x4 + (2 : Int32)).toNatClampNeg).toInt64 * 1000000000 + (xs (x4 + (3 : Int32)).toNatClampNeg).toInt64)) 64 f20 I22 I23 J23 I24 J24 J25 J26 I27 J27 I28 J28 I29 J29 J30 I31 J31 (zu I32 2 (0 : Int32)) n33 f33 I34 J34 64 f35 2 f36 10 f37 10 f38 10 f39 320 f40 320 f41 320 f42 320 f43 64 f44 20 f45 420 f46 480 f47 480 f48 4200 f49 1 f50 x4 s1 (v_L_law_23 L xs N) L xs := fun s s1 hs hv hb => by
        refine go2 _ _ _ s1 (Or.inl ⟨hb, rfl, ?_, ?_, rfl, ⟨hV.2.2.2.1, hV.2.2.2.2⟩, rfl⟩)
        · show ((s.toInt = 1 ∧ ¬ s1.toInt = 0 ∧ ¬ ((xs (x4 + (2 : Int32)).toNatClampNeg).toInt * 1000000000 + (xs (x4 + (3 : Int32)).toNatClampNeg).toInt) = 0) ∨ (s.toInt = 0 ∧ (s1.toInt = 0 ∨ ((xs (x4 + (2 : Int32)).toNatClampNeg).toInt * 1000000000 + (xs (x4 + (3 : Int32)).toNatClampNeg).toInt) = 0)))
          exact hs
        · rw [zul_s]; exact hv
      have bb : ∀ s1 : Int32, ((xs (x4 + (2 : Int32)).toNatClampNeg).toInt < 0 ∨ 99999999 < (xs (x4 + (2 : Int32)).toNatClampNeg).toInt ∨ (xs (x4 + (3 : Int32)).toNatClampNeg).toInt < 0 ∨ 999999999 < (xs (x4 + (3 : Int32)).toNatClampNeg).toInt ∨ (xs (x4 + (4 : Int32)).toNatClampNeg).toInt < -350 ∨ 300 < (xs (x4 + (4 : Int32)).toNatClampNeg).toInt) → v_L_law_189 I0 64 f1 I2 64 f4 64 f5 I6 I7 I8 I9 I10 I11 64 f13 64 f14 I15 I16 I17 I18 I19 J19 64 f20 I22 I23 J23 I24 J24 J25 J26 I27 J27 I28 J28 I29 J29 J30 I31 J31 I32 n33 f33 I34 J34 64 f35 2 f36 10 f37 10 f38 10 f39 320 f40 320 f41 320 f42 320 f43 64 f44 20 f45 420 f46 480 f47 480 f48 4200 f49 1 f50 x4 s1 (v_L_law_23 L xs N) L xs := fun s1 hb => go2 _ _ _ s1 (Or.inr ⟨hb, hV, hL⟩)
      clear go2
      have go : ∀ s1 : Int32, (((xs (x4 + (1 : Int32)).toNatClampNeg) = 0 ∧ s1 = 0) ∨ (¬ (xs (x4 + (1 : Int32)).toNatClampNeg) = 0 ∧ s1 = 1)) → v_L_law_151 I0 64 f1 I2 64 f4 64 f5 I6 I7 I8 I9 I10 I11 64 f13 64 f14 I15 I16 I17 I18 I19 J19 64 f20 I22 I23 J23 I24 J24 J25 J26 I27 J27 I28 J28 I29 J29 J30 I31 J31 I32 n33 f33 I34 J34 64 f35 2 f36 10 f37 10 f38 10 f39 320 f40 320 f41 320 f42 320 f43 64 f44 20 f45 420 f46 480 f47 480 f48 4200 f49 1 f50 x4 s1 (v_L_law_23 L xs N) L xs := fun s1 hs1 => u_L_law_151 ⟨p2, p3, p4, s7_L_number (fun s hs hv hb => u_L_law_172 ⟨p1, fun e => gg s 0 (by rcases hs1 with ⟨_, c⟩ | ⟨c, _⟩; rw [← c]; exact hs; exact absurd e c) hv hb, fun e => gg s 1 (by rcases hs1 with ⟨c, _⟩ | ⟨_, c⟩; exact absurd c e; rw [← c]; exact hs) hv hb⟩) (fun hb => u_L_law_172 ⟨p1, fun _ => bb 0 hb, fun _ => bb 1 hb⟩)⟩
      exact ⟨fun e => go 0 (Or.inl ⟨e, rfl⟩), fun e => go 1 (Or.inr ⟨e, rfl⟩)⟩
    case c_code =>
      have mc : ∀ (I2 f4 f5 I6 I7 I8 I9 I10 I11 f13 f14 I15 I16 I17 I18 I32 : Nat → Int32) (r : Int32), lwS I6 I7 I8 I9 → lwS I15 I16 I17 I18 → ((kAcc f1 (I0 1).toInt (I2 1).toInt (fun j => kS4 j (I6 0).toInt (I7 0).toInt (I8 0).toInt (I9 0).toInt) ∧ (rdI f1 (I0 1).toInt (I2 1).toInt (I2 4).toInt I6 I7 I8 I9 f4 f5 ∧ (I2 4).toInt ≤ 64) ∧ (I32 2).toInt = 0) ∨ (kBad f1 (I0 1).toInt ∧ lwN I2 I6 I7 I8 I9 f36 f37 ∧ lwQ I2 I6 I7 I8 I9 f4 f5 f37 f38 f39 f40 f41 f42 f43 ∧ lwL I2 I6 I7 I8 I9 f4 f5 I19 J19 f20 I32 n33 f33)) → v_L_law_127 I0 64 f1 I2 64 f4 64 f5 I6 I7 I8 I9 I10 I11 64 f13 64 f14 I15 I16 I17 I18 I19 J19 64 f20 I22 I23 J23 I24 J24 J25 J26 I27 J27 I28 J28 I29 J29 J30 I31 J31 I32 n33 f33 I34 J34 64 f35 2 f36 10 f37 10 f38 10 f39 320 f40 320 f41 320 f42 320 f43 64 f44 20 f45 420 f46 480 f47 480 f48 4200 f49 1 f50 x4 r (v_L_law_23 L xs N) L xs := by
        intro I2 f4 f5 I6 I7 I8 I9 I10 I11 f13 f14 I15 I16 I17 I18 I32 r hS hT hX
        refine u_L_law_127 (t7_code ⟨⟨hlen.1, hlen.2, hM.1.2.2.2.2.2.2.2.2.1, hM.1.2.2.2.2.2.2.2.2.2⟩, hM.2⟩ hlen (fun r a0 a3 a12 a13 a14 a15 a16 a17 a18 a19 g2 g3 g4 g5 g6 g7 g8 g9 h hq hg hp => u_L_law_132 (nxt _ _ _ _ _ _ _ _ _ _ _ _ _ _ _ _ _ _ _ _ _ _ _ _ _ _ _ _ _ _ _ _ _ _ _ _ _ _ _ _ _ _ _ _ _ _ _ _ _ _ _ _ _ _ _ _ _ ⟨⟨⟨l0, l1, ?le⟩, hC, hS, hT, hR, ?mm⟩, hty, hqT, lwV7_z (by decide) (lwV7_z (by decide) (lwV7_z (by decide) (lwV7_z (by decide) (lwV7_z (by decide) (lwV7_z (by decide) (lwV7_z (by decide) (lwV7_z (by decide) (lwV7_z (by decide) (lwV7_z (by decide) (hV)))))))))), ?nn, ?qq, ?ll, hD⟩)))
        case le => simp only [zu_s, zu_n, ne_eq, Nat.reduceEqDiff, not_false_eq_true, reduceCtorEq]; exact le
        case ll =>
          rcases hX with ⟨_, _, k⟩ | ⟨_, _, _, k⟩
          · exact Or.inl k
          · exact k
        case nn =>
          rw [hty, le] at hq
          rcases hX with ⟨hX, _⟩ | ⟨hX, hN2, _⟩ <;> rcases hq with ⟨_, hq⟩ | ⟨_, hq, e2, e5⟩
          · exact lwN_a hX hq
          · exact (kAcc_bad hX hq).elim
          · exact (kAcc_bad hq hX).elim
          · subst e2; exact lwN_5 hN2 e5
        case qq =>
          rw [hty, le] at hq hg
          rcases hX with ⟨hX, hX2, _⟩ | ⟨hX, hN2, hQ2, _⟩ <;> rcases hq with ⟨hr, hq⟩ | ⟨hr, hq, e2, e5⟩
          · obtain ⟨_, m, m1, m2, m3, m4⟩ := hg.resolve_left (by omega)
            have hn := (lwN_a hX hq).2.1
            have em : m.toInt = (I2 1).toInt := by rw [hn, m1, pk_us]
            exact lwQ_j hX2.1 hX2.2 m4 em m3.2 (ych_T hqT)
          · exact (kAcc_bad hX hq).elim
          · exact (kAcc_bad hq hX).elim
          · obtain ⟨w1, w2, w3, w4, w5, w6⟩ := h.2.2.resolve_left (by omega)
            exact lwQ_f hQ2 hN2.1.2.1 w4 w5 w6 w1 w2 w3 (hp.resolve_left (by omega))
        case mm =>
          obtain ⟨⟨h1, h2, _⟩, h3, _⟩ := h
          unfold lwM at hM ⊢
          obtain ⟨hm1, _⟩ := hM
          refine ⟨?_, h3⟩
          simp only [zu_s, zu_n, ne_eq, Nat.reduceEqDiff, not_false_eq_true, reduceCtorEq] at hm1 ⊢
          exact ⟨hm1.1, hm1.2.1, hm1.2.2.1, hm1.2.2.2.1, hm1.2.2.2.2.1, hm1.2.2.2.2.2.1, hm1.2.2.2.2.2.2.1, hm1.2.2.2.2.2.2.2.1, h1, h2⟩
      refine g2_ND_code (Z1 := fun r t u => ((t = 0 ∧ u.2.2.2.2.2.2.2.2 = I32) ∨ (t = 1 ∧ (u.2.2.2.2.2.2.2.2 2).toInt = 0 ∧ rdI f1 (I0 1).toInt (u.2.1 1).toInt (u.2.1 4).toInt u.2.2.1 u.2.2.2.1 u.2.2.2.2.1 u.2.2.2.2.2.1 u.2.2.2.2.2.2.1 u.2.2.2.2.2.2.2.1 ∧ (1 ≤ (u.2.1 1).toInt ∧ (u.2.1 1).toInt ≤ 4) ∧ (u.2.1 4).toInt ≤ 64)) → _) hC l0 l1 (fun r t u x z => z x) (qG_w3 (d_ND_code ⟨⟨hC, hT⟩, l0, l1⟩) (fun r t u hq hx => ?_))
      obtain ⟨hq1, hq⟩ := hq
      rcases hq with ⟨rfl, m, hm⟩ | ⟨rfl, hbad⟩
      · obtain ⟨_, x1, x2, _, x3⟩ := hx.resolve_left (fun w => absurd w.1 (by decide))
        exact ⟨fun e => absurd e (by decide), fun _ => mc _ _ _ _ _ _ _ _ _ _ _ _ _ _ _ _ _ hq1 hS (Or.inl ⟨⟨m, _, hm, fun _ _ => rfl⟩, ⟨x2, x3⟩, x1⟩)⟩
      · obtain ⟨_, x1⟩ := hx.resolve_right (fun w => absurd w.1 (by decide))
        exact ⟨fun _ => by rw [x1]; exact mc _ _ _ _ _ _ _ _ _ _ _ _ _ _ _ _ _ hS hq1 (Or.inr ⟨hbad, hN, hQ, hL⟩), fun e => absurd e (by decide)⟩
    case c_look =>
      obtain ⟨NF, e, hl, ⟨u, ⟨he, hR2, ⟨T, hT1, hL1⟩, hD2⟩, rfl⟩, hv⟩ := d_Dresser_dress (I1 := I32) (I2 := I2) (I3 := I19) (J3 := J19) (I5 := I6) (I6 := I7) (I7 := I8) (I8 := I9) (f9 := f20) (n10 := n33) (f10 := f33) (f11 := f4) (f12 := f5) (I13 := I29) (J13 := J29) (J14 := J30) (I15 := I31) (J15 := J31) (J16 := J25) (J17 := J26) (I18 := I27) (J18 := J27) (I19 := I28) (J19 := J28) (I20 := I22) (I21 := I23) (J21 := J23) (I22 := I24) (J22 := J24) (lw_pre hR hV hN hQ hL hD)
      refine ⟨NF, hl, (qR_le hR2).2, u_ND_look_0 ⟨NF, hl, Nat.le_refl _, hv _ (u_ND_look_19 ⟨he, ?_⟩)⟩⟩
      refine u_L_law_228 (t7_look hM (lw_prR hV hN hQ ⟨hM.1.2.2.2.2.2.2.1, hM.1.2.2.2.2.2.2.2.1⟩) (fun r2 a0 a27 a28 a30 a33 a35 a37 a38 a39 a40 a23 gJ g4 g9 g10 g14 h h1 h2 => u_L_law_233 (nxt _ _ _ _ _ _ _ _ _ _ _ _ _ _ _ _ _ _ _ _ _ _ _ _ _ _ _ _ _ _ _ _ _ _ _ _ _ _ _ _ _ _ _ _ _ _ _ _ _ _ _ _ _ _ _ _ _ ⟨⟨⟨l0, l1, ?le⟩, hC, hS, hT, ?rr, ?mm⟩, hty, hqT, ?vv, hN, hQ, Or.inr ⟨T, hT1, hL1⟩, hD2⟩)))
      case le => simp only [zu_s, zu_n, ne_eq, Nat.reduceEqDiff, not_false_eq_true, reduceCtorEq]; exact le
      case rr => rw [he]; exact hR2
      case vv =>
        simp only [zu_s, zu_n, ne_eq, Nat.reduceEqDiff, not_false_eq_true, reduceCtorEq] at h
        unfold lwV7 at hV ⊢
        simp only [zu_s, zu_n, ne_eq, Nat.reduceEqDiff, not_false_eq_true, reduceCtorEq]
        exact ⟨⟨hV.1.1, hV.1.2.trans h.2.2.2.2.symm⟩, hV.2⟩
      case mm =>
        simp only [zu_s, zu_n, ne_eq, Nat.reduceEqDiff, not_false_eq_true, reduceCtorEq] at h
        unfold lwM at hM ⊢
        obtain ⟨hm1, hm2⟩ := hM
        refine ⟨?_, hm2⟩
        simp only [zu_s, zu_n, ne_eq, Nat.reduceEqDiff, not_false_eq_true, reduceCtorEq] at hm1 ⊢
        exact ⟨hm1.1, hm1.2.1, hm1.2.2.1, hm1.2.2.2.1, hm1.2.2.2.2.1, h.2.2.2.1, hm1.2.2.2.2.2.2⟩
    case c_at =>
      obtain ⟨NF, e, hl, ⟨u, ⟨he, hR2, ⟨T, hT1, hL1⟩, hD2⟩, rfl⟩, hv⟩ := d_Dresser_dress (I1 := I32) (I2 := I2) (I3 := I19) (J3 := J19) (I5 := I6) (I6 := I7) (I7 := I8) (I8 := I9) (f9 := f20) (n10 := n33) (f10 := f33) (f11 := f4) (f12 := f5) (I13 := I29) (J13 := J29) (J14 := J30) (I15 := I31) (J15 := J31) (J16 := J25) (J17 := J26) (I18 := I27) (J18 := J27) (I19 := I28) (J19 := J28) (I20 := I22) (I21 := I23) (J21 := J23) (I22 := I24) (J22 := J24) (lw_pre hR hV hN hQ hL hD)
      refine ⟨NF, hl, (qR_le hR2).2, u_ND_at_0 ⟨NF, hl, Nat.le_refl _, hv _ (u_ND_at_19 (lk_sign (by rw [he]; exact hR2) (fun r hr => u_ND_at_27 ⟨he, ?_⟩)))⟩⟩
      refine u_L_law_247 ⟨p1, (t7_at hM (lw_prR hV hN hQ ⟨hM.1.2.2.2.2.2.2.1, hM.1.2.2.2.2.2.2.2.1⟩) (fun r2 a0 a27 a28 a30 a33 a35 a37 a38 a39 a40 a23 gJ g4 g9 g10 g14 h h1 h2 => u_L_law_257 ⟨fun _ => (nxt _ _ _ _ _ _ _ _ _ _ _ _ _ _ _ _ _ _ _ _ _ _ _ _ _ _ _ _ _ _ _ _ _ _ _ _ _ _ _ _ _ _ _ _ _ _ _ _ _ _ _ _ _ _ _ _ _ ⟨⟨⟨l0, l1, ?le⟩, hC, hS, hT, ?rr, ?mm⟩, hty, hqT, ?vv, hN, hQ, Or.inr ⟨T, hT1, hL1⟩, hD2⟩), fun w => w ?eq⟩))⟩
      case le => simp only [zu_s, zu_n, ne_eq, Nat.reduceEqDiff, not_false_eq_true, reduceCtorEq]; exact le
      case rr => rw [he]; exact hR2
      case vv =>
        simp only [zu_s, zu_n, ne_eq, Nat.reduceEqDiff, not_false_eq_true, reduceCtorEq] at h
        unfold lwV7 at hV ⊢
        simp only [zu_s, zu_n, ne_eq, Nat.reduceEqDiff, not_false_eq_true, reduceCtorEq]
        exact ⟨⟨hV.1.1, hV.1.2.trans h.2.2.2.2.symm⟩, hV.2⟩
      case mm =>
        simp only [zu_s, zu_n, ne_eq, Nat.reduceEqDiff, not_false_eq_true, reduceCtorEq] at h
        unfold lwM at hM ⊢
        obtain ⟨hm1, hm2⟩ := hM
        refine ⟨?_, hm2⟩
        simp only [zu_s, zu_n, ne_eq, Nat.reduceEqDiff, not_false_eq_true, reduceCtorEq] at hm1 ⊢
        exact ⟨hm1.1, hm1.2.1, hm1.2.2.1, hm1.2.2.2.1, hm1.2.2.2.2.1, h.2.2.2.1, hm1.2.2.2.2.2.2⟩
      case eq =>
        obtain ⟨T2, hT2, hL2⟩ := h1
        have eT := lw_one hV hN hQ hT1 hT2
        subst eT
        exact lw_ats hL1 hL2 h.2.2.1 hr h2
    case c_type =>
      have hbd := ycB_bd (ybM (xs (x4 + (1 : Int32)).toNatClampNeg)) 4
      refine s_L_type l0 l1 hC (fun I' f' hB h64 hI' hf' hk' => ?_) (fun hB => ?_) (fun hB h64 => ?_)
      · refine u_L_law_95 ⟨p1, t_M_type hlen hlen (fun r a0 a1 g h hq => u_L_law_107 (nxt _ _ _ _ _ _ _ _ _ _ _ _ _ _ _ _ _ _ _ _ _ _ _ _ _ _ _ _ _ _ _ _ _ _ _ _ _ _ _ _ _ _ _ _ _ _ _ _ _ _ _ _ _ _ _ _ _ ⟨⟨⟨?_, ?_, ?_⟩, hf', hS, hT, hR, lwM_z (by decide) (lwM_z (by decide) (hM))⟩, ?_, ?_, lwV7_z (by decide) (lwV7_z (by decide) (hV)), hN, hQ, hL, hD⟩))⟩
        · dsimp only; omega
        · dsimp only; omega
        · dsimp only; omega
        · dsimp only at h hq ⊢
          rcases hq with ⟨c, _⟩ | ⟨_, c⟩
          · omega
          · rw [c, hk', hty, le]
        · dsimp only; rw [hk']; exact kTf_T hqT 4
      · refine u_L_law_95 ⟨p1, t_M_type hlen hlen (fun r a0 a1 g h hq => u_L_law_107 (nxt _ _ _ _ _ _ _ _ _ _ _ _ _ _ _ _ _ _ _ _ _ _ _ _ _ _ _ _ _ _ _ _ _ _ _ _ _ _ _ _ _ _ _ _ _ _ _ _ _ _ _ _ _ _ _ _ _ ⟨⟨⟨?_, ?_, ?_⟩, hC, hS, hT, hR, lwM_z (by decide) (lwM_z (by decide) (hM))⟩, ?_, hqT, lwV7_z (by decide) (lwV7_z (by decide) (hV)), hN, hQ, hL, hD⟩))⟩
        · omega
        · omega
        · dsimp only; omega
        · rcases hq with ⟨_, c⟩ | ⟨c, _⟩
          · rw [c]; exact hty
          · omega
      · refine u_L_law_95 ⟨p1, t_M_type hlen hlen (fun r a0 a1 g h hq => u_L_law_107 (nxt _ _ _ _ _ _ _ _ _ _ _ _ _ _ _ _ _ _ _ _ _ _ _ _ _ _ _ _ _ _ _ _ _ _ _ _ _ _ _ _ _ _ _ _ _ _ _ _ _ _ _ _ _ _ _ _ _ ⟨⟨⟨?_, ?_, ?_⟩, hC, hS, hT, hR, lwM_z (by decide) (lwM_z (by decide) (hM))⟩, ?_, hqT, lwV7_z (by decide) (lwV7_z (by decide) (hV)), hN, hQ, hL, hD⟩))⟩
        · omega
        · omega
        · dsimp only; omega
        · rcases hq with ⟨_, c⟩ | ⟨c, _⟩
          · rw [c]; exact hty
          · omega
theorem zl_z : ∀ (l : List Int32), (∀ x ∈ l, x = 0) → ∀ k, zl l k = 0
  | [], _, _ => rfl
  | x :: l, h, 0 => h x (List.mem_cons_self ..)
  | x :: l, h, k + 1 => zl_z l (fun y hy => h y (List.mem_cons_of_mem _ hy)) k
theorem lw_q0 : qSO (zl [(0 : Int32), 0, 0, 0, 0, 0, 0, 0, 0, 0, 0, 0, 0, 0, 0]) := by unfold qSO; decide
theorem lw_m0 {I : Nat → Int32} (hI : ∀ k, I k = 0) : lwM I (upd (fun _ => 0) 0 (1 : Int32)) (fun _ => 0) (fun _ => 0) (fun _ => 0) (fun _ => 0) (fun _ => 0) (fun _ => 0) := by
  unfold lwM
  refine ⟨?_, fun s h0 h1 => ?_⟩
  · rw [hI, hI, hI, hI, hI]
    refine ⟨by decide, by decide, by decide, by decide, Or.inl rfl, Or.inl rfl, by decide, by decide, ?_, ?_⟩ <;> decide
  · unfold zOK1
    dsimp only
    refine ⟨⟨by decide, by decide, by decide, ?_⟩, fun i a b => ?_, fun i a b => ?_, fun a => absurd a (by decide)⟩
    · rw [zrem_end (Int.le_refl _)]; decide
    · simp only [Int32.reduceToInt] at a b; omega
    · simp only [Int32.reduceToInt] at a b; omega
theorem lw_t0 : qT (fun _ => 0) := fun _ => by
  show 0 ≤ (0 : Int32).toInt ∧ (0 : Int32).toInt < 256
  decide
theorem lw_d0 : dgO (zl [0, 0, 0, 0]) (zlj [0, 0, 0, 0]) := ⟨dgM_z (by show (0 : Int) * 10 ^ 0 = 0; decide) rfl rfl rfl rfl, by decide, by decide⟩
theorem lw_v0 {I19 : Nat → Int32} {J19 : Nat → Int64} {f20 I34 f44 f45 : Nat → Int32} (h1 : ∀ k, I19 k = 0) (h2 : (J19 2).toInt = 0) (h3 : ∀ k, I34 k = 0) (h4 : ∀ k, f20 k = 0) : lwV7 I19 J19 f20 I34 f44 f45 := by
  have z : ∀ k, (I19 k).toInt = 0 := fun k => by rw [h1]; rfl
  have y : ∀ k, (I34 k).toInt = 0 := fun k => by rw [h3]; rfl
  unfold lwV7
  rw [z, z, z, z, y, y, y, y, y, h2]
  refine ⟨⟨rfl, rfl⟩, ⟨⟨⟨by decide, fun k hk => absurd hk (Nat.not_lt_zero _), Or.inl rfl⟩, Or.inl rfl, 0, rfl, Or.inl rfl, by decide⟩, fun _ => rfl⟩, by decide, ⟨fun k => by rw [h4]; decide, by decide, by decide⟩, rfl⟩
set_option maxRecDepth 10000 in
theorem pure_all {xs : Nat → Int32} {L : Nat} (hL : L ≤ 2560) : ∃ N, N ≤ 600 ∧ lw_pure L xs N := by
  refine ⟨600, by omega, ?_⟩
  unfold lw_pure
  refine lw_go (by omega) 600 _ _ _ _ _ _ _ _ _ _ _ _ _ _ _ _ _ _ _ _ _ _ _ _ _ _ _ _ _ _ _ _ _ _ _ _ _ _ _ _ _ _ _ _ _ _ _ _ _ _ _ _ _ _ _ _ _ _ ⟨⟨⟨by decide, by decide, by decide⟩, fun _ => ⟨0, by decide, rfl⟩, ⟨lw_q0, lw_q0, lw_q0, lw_q0⟩, ⟨lw_q0, lw_q0, lw_q0, lw_q0⟩, ⟨Or.inl rfl, fun _ _ => ⟨0, by decide, rfl⟩⟩, lw_m0 (fun k => ?_)⟩, rfl, lw_t0, lw_v0 (zl_z _ (by decide)) rfl (zl_z _ (by decide)) (fun _ => rfl), by unfold lwN; decide, lwQ_0 rfl rfl (fun k => by rw [zl_z _ (by decide) k]; rfl) rfl rfl rfl, Or.inl rfl, lw_d0⟩ (by decide) (by simp only [Int32.reduceToInt]; omega) (by simp only [Int32.reduceToInt]; omega)
  exact zl_z _ (by decide) k
