/-! a number's looks of both sides are one, where the items and the number are -/
theorem dgM_D {I : Nat → Int32} {J : Nat → Int64} {M d n : Int} (h : dgM I J M d) (hn : dnc M n) : dgN I J = M ∧ dgD I J = (fun p => dgt M (p + d)) ∧ dgW I = (if n ≤ d then 0 else n - d) ∧ (I 3).toInt = d := by
  have e3 : (I 3).toInt = d := h.1.2.2.2.2
  have eN : dgN I J = M := h.2.1
  have e2 := dnc_det h.2.2 hn
  refine ⟨eN, ?_, ?_, e3⟩
  · funext p; unfold dgD; rw [eN, e3]
  · unfold dgW; rw [e2, e3]
theorem nEv_0 {D : Int → Int} {w d W th E : Int} {Q : Int → Int} {q P : Int} : ∀ c : Int, nEv D w d W th E Q q P 0 c 0 = [] := fun _ => rfl
theorem nrun_np {D : Int → Int} {w d W th E E2 : Int} {Q Q2 : Int → Int} {q q2 P : Int} : ∀ (l : List (Int × Int)) (a b p : Int), cK 7 l = 0 → cK 8 l = 0 → nrun (nEv D w d W th E Q q P) a b p l = nrun (nEv D w d W th E2 Q2 q2 P) a b p l
  | [], _, _, _, _, _ => rfl
  | i :: r, a, b, p, h7, h8 => by
    have h7 : (if i.1 = 7 then 1 else 0) + cK 7 r = 0 := h7
    have h8 : (if i.1 = 8 then 1 else 0) + cK 8 r = 0 := h8
    have c7 := cK_0 (k := 7) r
    have c8 := cK_0 (k := 8) r
    have n7 : ¬ i.1 = 7 := fun c => by rw [if_pos c] at h7; omega
    have n8 : ¬ i.1 = 8 := fun c => by rw [if_pos c] at h8; omega
    rw [if_neg n7] at h7; rw [if_neg n8] at h8
    have ih := fun a b p => nrun_np (D := D) (w := w) (d := d) (W := W) (th := th) (E := E) (E2 := E2) (Q := Q) (Q2 := Q2) (q := q) (q2 := q2) (P := P) r a b p (by omega) (by omega)
    show nrun _ a b p ((i.1, i.2) :: r) = nrun _ a b p ((i.1, i.2) :: r)
    by_cases k2 : i.1 = 2
    · rw [k2, nrun_2 rfl, nrun_2 rfl, ih]; rfl
    by_cases k3 : i.1 = 3
    · rw [k3, nrun_3 rfl, nrun_3 rfl, ih]; rfl
    · rw [nrun_k k2 k3 n8, nrun_k k2 k3 n8, ih]
      congr 1
      unfold nEv
      by_cases k1 : i.1 = 1
      · rw [if_pos k1, if_pos k1]
      by_cases k4 : i.1 = 4
      · rw [k4]; rfl
      · rw [if_neg k1, if_neg k1, if_neg k2, if_neg k2, if_neg k3, if_neg k3, if_neg k4, if_neg k4, if_neg n7, if_neg n7, if_neg n8, if_neg n8]
section
variable {I3 : Nat → Int32} {J3 : Nat → Int64} {I4 : Nat → Int32} {J4 : Nat → Int64} {M n d W th E F P b : Int} {Lc Lr : List (Int × Int)}
theorem n_eqL (h3 : dgM I3 J3 M d) (hn : dnc M n) (hW : W = cK 2 Lc) (hd : d = cK 3 Lc) (hP : P = cK 8 Lc) (hth : th = if 0 < cK 5 Lc then 1 else 0) (hL : fl Lc = Lr) (hr : nrun (nEv (fun p => dgt M (p + d)) (if n ≤ d then 0 else n - d) d W th F (dgD I4 J4) (dgW I4) P) W 0 P Lr = nrun (nE (fun p => dgt M (p + d)) (if n ≤ d then 0 else n - d) d W th E P) W 0 P Lr) : sgn b (dgN I3 J3) ++ nrun (nEv (dgD I3 J3) (dgW I3) (I3 3).toInt W th F (dgD I4 J4) (dgW I4) P) W 0 P Lc = nLk M n d E b Lr := by
  obtain ⟨e1, e2, e3, e4⟩ := dgM_D h3 hn
  rw [e1, e2, e3, e4, ← nrun_fl nEv_0 Lc, hL, hr]
  unfold nLk nRT
  rw [← hL, cK_fl (by decide), cK_fl (by decide), cK_fl (by decide), cK_fl (by decide), ← hW, ← hd, ← hP, ← hth]
theorem n_eqP (h3 : dgM I3 J3 M d) (h4 : dgM I4 J4 (iab E) 0) (hE : iab E ≤ 999) (hn : dnc M n) (hW : W = cK 2 Lc) (hd : d = cK 3 Lc) (hP : P = cK 8 Lc) (hth : th = if 0 < cK 5 Lc then 1 else 0) (hL : fl Lc = Lr) : sgn b (dgN I3 J3) ++ nrun (nEv (dgD I3 J3) (dgW I3) (I3 3).toInt W th E (dgD I4 J4) (dgW I4) P) W 0 P Lc = nLk M n d E b Lr := by
  have h0 : 0 ≤ iab E := by unfold iab; split <;> omega
  have en := nd3_v h4.2.2 h0 hE
  obtain ⟨_, f2, f3, _⟩ := dgM_D h4 h4.2.2
  refine n_eqL h3 hn hW hd hP hth hL ?_
  have g2 : dgD I4 J4 = dgt (iab E) := by rw [f2]; funext p; rw [Int.add_zero]
  have g3 : dgW I4 = nd3 (iab E) := by
    rw [f3, en]
    have : 0 ≤ nd3 (iab E) := nd3_p
    split <;> omega
  rw [g2, g3]; rfl
theorem n_eqN (h3 : dgM I3 J3 M d) (hn : dnc M n) (hW : W = cK 2 Lc) (hd : d = cK 3 Lc) (hP : P = cK 8 Lc) (hth : th = if 0 < cK 5 Lc then 1 else 0) (hL : fl Lc = Lr) (h7 : cK 7 Lc = 0) (h8 : cK 8 Lc = 0) : sgn b (dgN I3 J3) ++ nrun (nEv (dgD I3 J3) (dgW I3) (I3 3).toInt W th F (dgD I4 J4) (dgW I4) P) W 0 P Lc = nLk M n d E b Lr :=
  n_eqL h3 hn hW hd hP hth hL (nrun_np Lr _ _ _ (by rw [← hL, cK_fl (by decide)]; exact h7) (by rw [← hL, cK_fl (by decide)]; exact h8))
end
/-- zeros behind the digits change no rounding -/
theorem rdM_z {V p d : Int} {s : Nat} (h0 : 0 ≤ V) (hv : V * 10 ^ s < 100000000000000000) : rdM (V * 10 ^ s) p d = rdM V (p + s) d := by
  unfold rdM
  by_cases c1 : -p - d ≤ 0
  · rw [if_pos c1, if_pos (by omega), Int.mul_assoc, ← Int.pow_add, show s + (p + d).toNat = (p + s + d).toNat by omega]
  · rw [if_neg c1]
    have e17 : (10 : Int) ^ 17 = 100000000000000000 := by decide
    have ps := p10 s
    by_cases c2 : 17 < -p - d
    · rw [if_pos c2]
      by_cases c3 : -(p + s) - d ≤ 0
      · rw [if_pos c3]
        rcases Int.lt_or_le 0 V with q | q
        · have l : 1 * 10 ^ s ≤ V * 10 ^ s := Int.mul_le_mul_of_nonneg_right (by omega) (by omega)
          have := p10_le (show 17 ≤ s by omega)
          omega
        · rw [show V = 0 by omega, Int.zero_mul]
      · rw [if_neg c3]
        by_cases c4 : 17 < -(p + s) - d
        · rw [if_pos c4]
        · rw [if_neg c4]
          have e := rnd_z (v := V) (-(p + s) - d - 1).toNat s
          rw [← e]
          unfold rnd
          have l1 := p10_le (show 17 ≤ (-(p + s) - d - 1).toNat + s by omega)
          have l2 := p10_le (show 17 ≤ (-(p + s) - d - 1).toNat + s + 1 by omega)
          have n : 0 ≤ V * 10 ^ s := Int.mul_nonneg h0 (by omega)
          rw [Int.ediv_eq_zero_of_lt n (by omega), Int.ediv_eq_zero_of_lt n (by omega)]; decide
    · rw [if_neg c2]
      by_cases c3 : -(p + s) - d ≤ 0
      · rw [if_pos c3]
        obtain ⟨j, hj⟩ : ∃ j : Nat, (-p - d - 1).toNat = j := ⟨_, rfl⟩
        have hs : s = (p + s + d).toNat + (j + 1) := by omega
        rw [hj]
        unfold rnd
        rw [show V * 10 ^ s = V * 10 ^ (p + s + d).toNat * 10 ^ (j + 1) by rw [Int.mul_assoc, ← Int.pow_add, ← hs]]
        rw [Int.mul_ediv_cancel _ (by have := p10 (j + 1); omega), Int.pow_succ, Int.mul_comm (10 ^ j) 10, ← Int.mul_assoc, Int.mul_ediv_cancel _ (by have := p10 j; omega)]
        rw [if_neg (by omega), Int.add_zero]
      · rw [if_neg c3, if_neg (by omega), show (-p - d - 1).toNat = (-(p + s) - d - 1).toNat + s by omega, rnd_z]
