/-! FRACTION: both looks are one, where the items and the number are -/
theorem spW_z {V s : Int} {e : Nat} : spW (V * 10 ^ e) s = spW V (s + e) := by
  unfold spW
  by_cases c : s < 0
  · rw [if_pos c]
    by_cases d : s + e < 0
    · rw [if_pos d, show (-s).toNat = (-(s + e)).toNat + e by omega, Int.pow_add, Int.mul_ediv_mul_of_pos_left _ _ (p10 e)]
    · rw [if_neg d]
      have h : (10 : Int) ^ e = 10 ^ (s + e).toNat * 10 ^ (-s).toNat := by rw [← Int.pow_add, show (s + e).toNat + (-s).toNat = e by omega]
      rw [h, ← Int.mul_assoc, Int.mul_ediv_cancel _ (by have := p10 (-s).toNat; omega)]
  · rw [if_neg c, if_neg (by omega), Int.mul_assoc, ← Int.pow_add, show e + s.toNat = (s + e).toNat by omega]
theorem rdM_0 {p d : Int} : rdM 0 p d = 0 := by
  unfold rdM
  split
  · rw [Int.zero_mul]
  split
  · rfl
  · unfold rnd; rw [Int.zero_ediv, Int.zero_ediv]; rfl
theorem spR_zz {V s : Int} {e : Nat} (h0 : 0 ≤ V) (hv : V * 10 ^ e < 100000000000000000) : spR (V * 10 ^ e) s = spR V (s + e) := by
  unfold spR
  by_cases c : s < 0
  · rw [if_pos c]
    by_cases d : s + e < 0
    · rw [if_pos d, show (-s).toNat = (-(s + e)).toNat + e by omega, Int.pow_add]
      have q := Int.mul_emod_mul_of_pos (a := 10 ^ e) V (10 ^ (-(s + e)).toNat) (p10 e)
      rw [Int.mul_comm V, Int.mul_comm (10 ^ (-(s + e)).toNat), q, Int.mul_comm (10 ^ e)]
      have l : V % 10 ^ (-(s + e)).toNat ≤ V := by
        have p := p10 (-(s + e)).toNat
        have q := Int.ediv_nonneg h0 (Int.le_of_lt p)
        have q2 := Int.mul_nonneg (Int.le_of_lt p) q
        rw [Int.emod_def]; omega
      have l2 : V % 10 ^ (-(s + e)).toNat * 10 ^ e ≤ V * 10 ^ e := Int.mul_le_mul_of_nonneg_right l (Int.le_of_lt (p10 e))
      exact rdM_z (Int.emod_nonneg _ (by have := p10 (-(s + e)).toNat; omega)) (by omega)
    · rw [if_neg d]
      have h : (10 : Int) ^ e = 10 ^ (s + e).toNat * 10 ^ (-s).toNat := by rw [← Int.pow_add, show (s + e).toNat + (-s).toNat = e by omega]
      rw [h, ← Int.mul_assoc, Int.mul_emod_left, rdM_0]
  · rw [if_neg c, if_neg (by omega)]
theorem spW_00 {s : Int} : spW 0 s = 0 := by
  unfold spW
  split
  · exact Int.zero_ediv _
  · exact Int.zero_mul _
theorem vR_sp {v s : Int} {g : Nat → Int32} {c p : Int} (h : vR v s g c p) : spW v s = spW (dV g c.toNat) (p - c) ∧ spR v s = spR (dV g c.toNat) (p - c) := by
  have hV := vO_17 h.1
  obtain ⟨hv, l, e, ev, ep, e17⟩ := h
  rcases ep with c0 | ep
  · have z : dV g c.toNat = 0 := by rw [c0]; rfl
    rw [ev, z, Int.zero_mul, spW_00, spW_00, spR_z, spR_z]; exact ⟨rfl, rfl⟩
  · have lt : dV g c.toNat * 10 ^ e < 100000000000000000 := by
      have b := (dV_bd c.toNat hv.2.1).2
      have q : dV g c.toNat * 10 ^ e < 10 ^ c.toNat * 10 ^ e := Int.mul_lt_mul_of_pos_right b (p10 e)
      rw [← Int.pow_add] at q
      have := hv.1
      have := p10_le (show c.toNat + e ≤ 17 by omega)
      have e17 : (10 : Int) ^ 17 = 100000000000000000 := by decide
      omega
    rw [ev, spW_z, spR_zz hV.1 lt, show s + (e : Int) = p - c by omega]; exact ⟨rfl, rfl⟩
/-- no empty item among the places of a denominator -/
def nzT : Nat → List (Int × Int) → Prop
  | 0, _ => True
  | _ + 1, [] => True
  | n + 1, p :: r => ¬ p.1 = 0 ∧ nzT n r
def nzS (dn : Int) : List (Int × Int) → Prop
  | [] => True
  | p :: r => (p.1 = 10 → nzT dn.toNat r) ∧ nzS dn r
theorem lkL_fl {c : Int} : ∀ (k n : Nat) (l : List (Int × Int)), k ≤ n → nzT n l → lkL c k l = lkL c k (fl l)
  | 0, _, l, _, _ => by
    have e : ∀ (l : List (Int × Int)), lkL c 0 l = [] := fun l => by cases l <;> rfl
    rw [e, e]
  | k + 1, n + 1, [], _, _ => rfl
  | k + 1, 0, _, h, _ => by omega
  | k + 1, n + 1, p :: r, h, hz => by
    rw [fl_1 hz.1]
    show (if p.2 = c then _ else _) ++ lkL c k r = (if p.2 = c then _ else _) ++ lkL c k (fl r)
    rw [lkL_fl k n r (by omega) hz.2]
theorem uL_fl {dn u : Int} {r : List (Int × Int)} (h : nzT dn.toNat r) : uL dn u r = uL dn u (fl r) := by
  have p := nd3_p (u := u)
  unfold uL
  rw [lkL_fl _ dn.toNat r (by omega) h, lkL_fl _ dn.toNat r (by omega) h]
theorem frun_fl {A B : Int → Int → List Int} {bl dn u : Int} : ∀ (l : List (Int × Int)) (a q : Int), nzS dn l → frun A B bl (uL dn u) a q l = frun A B bl (uL dn u) a q (fl l)
  | [], _, _, _ => rfl
  | p :: l, a, q, h => by
    have ih := fun a q => frun_fl (A := A) (B := B) (bl := bl) (dn := dn) (u := u) l a q h.2
    by_cases k0 : p.1 = 0
    · rw [fl_0 k0, ← ih]
      exact fr_n (by omega) (by omega) (by omega) (by omega) (Or.inr (by omega))
    rw [fl_1 k0]
    show frun A B bl _ a q ((p.1, p.2) :: l) = frun A B bl _ a q ((p.1, p.2) :: fl l)
    by_cases k1 : p.1 = 1
    · rw [fr_1 k1, fr_1 k1, ih]
    by_cases k2 : p.1 = 2
    · rw [fr_2 k2, fr_2 k2, ih]
    by_cases kb : ¬ bl = 0 ∧ 9 ≤ p.1 ∧ p.1 ≤ 12
    · rw [fr_b kb.2 kb.1, fr_b kb.2 kb.1, ih]
    have kb2 : bl = 0 ∨ ¬ (9 ≤ p.1 ∧ p.1 ≤ 12) := by
      by_cases c : bl = 0
      · exact Or.inl c
      · exact Or.inr (fun d => kb ⟨c, d⟩)
    by_cases k9 : p.1 = 9
    · have b0 : bl = 0 := kb2.resolve_right (fun c => c ⟨by omega, by omega⟩)
      rw [fr_9 k9 b0, fr_9 k9 b0, ih]
    by_cases k10 : p.1 = 10
    · have b0 : bl = 0 := kb2.resolve_right (fun c => c ⟨by omega, by omega⟩)
      rw [fr_10 k10 b0, fr_10 k10 b0, ih, uL_fl (h.1 k10)]
    · rw [fr_n k1 k2 k9 k10 kb2, fr_n k1 k2 k9 k10 kb2, ih]
theorem dgM_0 {I : Nat → Int32} {J : Nat → Int64} {M n : Int} (h : dgM I J M 0) (hn : dnc M n) : dgN I J = M ∧ dgD I J = dgt M ∧ dgW I = n := by
  obtain ⟨a, b, c, _⟩ := dgM_D h hn
  refine ⟨a, ?_, ?_⟩
  · rw [b]; funext p; rw [Int.add_zero]
  · rw [c]; rcases dnc_0 hn with ⟨_, q⟩ | ⟨_, q⟩
    · rw [if_pos (by omega)]; omega
    · rw [if_neg (by omega)]; omega
theorem f_all {v s : Int} {g : Nat → Int32} {c p W V gv pl b : Int} {Lc Lr : List (Int × Int)} {I3 : Nat → Int32} {J3 : Nat → Int64} {I7 : Nat → Int32} {J7 : Nat → Int64} {T1 T2 : List Int} (h : vR v s g c p) (h1 : fdP v s W V gv pl b Lc I3 J3 I7 J7 T1) (h2 : fcP (dV g c.toNat) (p - c) (cK 2 Lr) (cK 9 Lr) gv pl b Lr T2) (hL : fl Lc = Lr) (hW : W = cK 2 Lc) (hV : V = cK 9 Lc) (hz : nzS pl Lc) : T1 = T2 := by
  have q := vR_sp h
  have eW : cK 2 Lr = W := by rw [← hL, cK_fl (by decide), hW]
  have eV : cK 9 Lr = V := by rw [← hL, cK_fl (by decide), hV]
  rw [eW, eV] at h2
  unfold fcP at h2
  rw [← q.1, ← q.2] at h2
  have lim : ∀ n : Int, dnc (spW v s) n → 9 < n → ¬ spW v s < 1000000000 := fun n hn h9 hlt => by
    have := dnc_le (k := 9) hn (by have e : (10 : Int) ^ 9 = 1000000000 := by decide
                                   omega)
    omega
  rcases h1 with ⟨a1, a2, a3, a4⟩ | ⟨a1, ⟨a2, a3⟩, a4⟩
  · rcases h2 with ⟨_, _, b3⟩ | ⟨b1, _⟩
    · rw [a4, b3]
    · have d := dgM_0 a2 a2.2.2
      exact absurd (b1 a1) (lim _ a2.2.2 (by rw [← d.2.2]; exact a3))
  · rcases h2 with ⟨b1, ⟨n, b2, b3⟩, _⟩ | ⟨_, n1, n2, b2, b3, b4⟩
    · exact absurd (a1 b1) (lim n b2 b3)
    · have d1 := dgM_0 a2 b2
      have d2 := dgM_0 a3 b3
      rw [a4, b4, d1.1, d1.2.1, d1.2.2, d2.1, d2.2.1, d2.2.2, frun_fl _ _ _ hz, hL]
      rfl
