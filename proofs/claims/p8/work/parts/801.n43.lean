/-! the reference's whole part and rest -/
theorem spW_s {V s : Int} : spW V (s + 1) = 10 * spW V s + dgt V (-s - 1) := by
  unfold spW dgt
  rcases Int.lt_or_le s (-1) with c | c
  · rw [if_pos (by omega), if_pos (by omega), if_neg (by omega), show (-(s + 1)).toNat = (-s - 1).toNat by omega, show (-s).toNat = (-s - 1).toNat + 1 by omega, Int.pow_succ, ← Int.ediv_ediv_of_nonneg (Int.le_of_lt (p10 _))]
    omega
  · rcases Int.lt_or_le s 0 with d | d
    · have : s = -1 := by omega
      subst this
      have e0 : (10 : Int) ^ ((-1 : Int) + 1).toNat = 1 := by decide
      have e1 : (10 : Int) ^ (-(-1 : Int)).toNat = 10 := by decide
      have e2 : (10 : Int) ^ (-(-1 : Int) - 1).toNat = 1 := by decide
      rw [if_neg (by decide), if_pos (by decide), if_neg (by decide), e0, e1, e2, Int.mul_one, Int.ediv_one]
      omega
    · rw [if_neg (by omega), if_neg (by omega), if_pos (by omega), show (s + 1).toNat = s.toNat + 1 by omega, Int.pow_succ, ← Int.mul_assoc]
      omega
theorem rw_dg {g : Nat → Int32} {t m k : Int} (h : dD g m.toNat) (h0 : 0 ≤ m) : rwD g t m k = dgt (dV g m.toNat) (k - (t - m)) := by
  unfold rwD
  rcases Int.lt_or_le (k - (t - m)) 0 with c | c
  · rw [if_neg (by omega)]; unfold dgt; rw [if_pos c]
  · have e := r_dig (g := g) (n := m.toNat) (t := 0) (q := k - (t - m)) (i := t - 1 - k) h (by decide) (by omega) c
    rw [show (10 : Int) ^ (0 : Int).toNat = 1 from rfl, Int.mul_one] at e
    rw [e, show ((m.toNat : Nat) : Int) = m by omega]
def fcF (V p : Int) : Int := if p < 0 then V % 10 ^ (-p).toNat else 0
theorem dg_mod {V : Int} {j i : Nat} : V / 10 ^ j % 10 = V % 10 ^ (j + (i + 1)) / 10 ^ j % 10 := by
  rw [Int.emod_def V]
  generalize V / 10 ^ (j + (i + 1)) = q
  have p := p10 j
  rw [Int.pow_add, Int.pow_succ]
  rw [show V - 10 ^ j * (10 ^ i * 10) * q = V + 10 ^ j * (10 * (-(10 ^ i * q))) by
    rw [Int.mul_assoc, Int.mul_assoc, Int.mul_neg, Int.mul_neg, Int.sub_eq_add_neg, Int.mul_left_comm (10 ^ i) 10 q]]
  rw [Int.add_mul_ediv_left _ _ (by omega)]
  omega
theorem fcF_d {V p k : Int} (hk : 1 ≤ k) : dgt V (-k - p) = dgt (fcF V p) (-k - p) := by
  unfold fcF
  split
  · unfold dgt
    by_cases d : -k - p < 0
    · rw [if_pos d, if_pos d]
    · rw [if_neg d, if_neg d]
      obtain ⟨i, hi⟩ : ∃ i : Nat, (-p).toNat = (-k - p).toNat + (i + 1) := ⟨(-p).toNat - (-k - p).toNat - 1, by omega⟩
      rw [hi]; exact dg_mod
  · unfold dgt
    rw [if_pos (by omega), if_pos (by omega)]
theorem fcF_b {V p : Int} (h : 0 ≤ V) (h1 : V < 100000000000000000) : 0 ≤ fcF V p ∧ fcF V p < 100000000000000000 ∧ spW (fcF V p) p = 0 := by
  unfold fcF
  split
  · rename_i c
    have p0 := p10 (-p).toNat
    have l := Int.emod_lt_of_pos V p0
    have n := Int.emod_nonneg V (show (10 : Int) ^ (-p).toNat ≠ 0 by omega)
    have s : V % 10 ^ (-p).toNat ≤ V := by
      have q := Int.ediv_nonneg h (Int.le_of_lt p0)
      have q2 := Int.mul_nonneg (Int.le_of_lt p0) q
      rw [Int.emod_def]; omega
    refine ⟨n, by omega, ?_⟩
    unfold spW
    rw [if_pos c]
    exact Int.ediv_eq_zero_of_lt n l
  · rename_i c
    refine ⟨by decide, by decide, ?_⟩
    unfold spW
    rw [if_neg c, Int.zero_mul]
/-- a digit behind the point taken in -/
theorem fcF_s {g : Nat → Int32} {t m k k2 r r2 x : Int} (h : dD g m.toNat) (h0 : 0 ≤ m) (hr : r = spW (fcF (dV g m.toNat) (t - m)) (t - m + k - 1)) (hk : 1 ≤ k) (hx : x = rwD g t m (-k)) (hr2 : r2 = 10 * r + x) (hk2 : k2 = k + 1) : r2 = spW (fcF (dV g m.toNat) (t - m)) (t - m + k2 - 1) := by
  rw [hk2, show t - m + (k + 1) - 1 = (t - m + k - 1) + 1 by omega, spW_s, ← hr, hr2, hx, rw_dg h h0, show -k - (t - m) = -k - (t - m) from rfl, fcF_d hk, show -(t - m + k - 1) - 1 = -k - (t - m) by omega]
theorem fcF_r {g : Nat → Int32} {t m r r2 x : Int} (h : dD g m.toNat) (h0 : 0 ≤ m) (hV : dV g m.toNat < 100000000000000000) (hr : r = spW (fcF (dV g m.toNat) (t - m)) (t - m + 16 - 1)) (hx : x = rwD g t m (-16)) (hc : (5 ≤ x ∧ r2 = r + 1) ∨ (¬ 5 ≤ x ∧ r2 = r)) : r2 = spR (dV g m.toNat) (t - m) := by
  have hb := fcF_b (p := t - m) (dV_bd m.toNat h).1 hV
  rw [rw_dg h h0, fcF_d (by decide)] at hx
  unfold spR
  split
  · rename_i c
    have eF : dV g m.toNat % 10 ^ (-(t - m)).toNat = fcF (dV g m.toNat) (t - m) := by unfold fcF; rw [if_pos c]
    rw [eF]
    generalize fcF (dV g m.toNat) (t - m) = F at *
    unfold rdM
    unfold spW at hr
    unfold dgt at hx
    by_cases c1 : -(t - m) - 15 ≤ 0
    · rw [if_pos c1]
      rw [if_pos (by omega)] at hx
      rw [if_neg (by omega)] at hr
      rw [show t - m + 15 = t - m + 16 - 1 by omega]; omega
    · rw [if_neg c1]
      rw [if_neg (by omega)] at hx
      rw [if_pos (by omega)] at hr
      have e1 : (-(t - m + 16 - 1)).toNat = (-(t - m) - 15 - 1).toNat + 1 := by omega
      have e2 : (-16 - (t - m)).toNat = (-(t - m) - 15 - 1).toNat := by omega
      rw [e1] at hr; rw [e2] at hx
      by_cases c2 : 17 < -(t - m) - 15
      · rw [if_pos c2]
        have l1 := p10_le (show 17 ≤ (-(t - m) - 15 - 1).toNat by omega)
        have l2 := p10_le (show 17 ≤ (-(t - m) - 15 - 1).toNat + 1 by omega)
        have e17 : (10 : Int) ^ 17 = 100000000000000000 := by decide
        rw [Int.ediv_eq_zero_of_lt hb.1 (by omega)] at hr
        rw [Int.ediv_eq_zero_of_lt hb.1 (by omega)] at hx
        omega
      · rw [if_neg c2]
        unfold rnd
        rw [← hr, ← hx]
        rcases hc with ⟨a, b⟩ | ⟨a, b⟩
        · rw [if_pos a, b]
        · rw [if_neg a, b, Int.add_zero]
  · rename_i c
    have eF : fcF (dV g m.toNat) (t - m) = 0 := by unfold fcF; rw [if_neg c]
    rw [eF] at hr hx
    have e0 : spW 0 (t - m + 16 - 1) = 0 := by unfold spW; rw [if_neg (by omega), Int.zero_mul]
    have e1 : dgt 0 (-16 - (t - m)) = 0 := by unfold dgt; rw [if_pos (by omega)]
    omega
theorem spW_dg {V p j : Int} (hj : 0 ≤ j) : dgt (spW V p) j = dgt V (j - p) := by
  unfold spW
  split
  · unfold dgt
    rw [if_neg (by omega), if_neg (by omega), Int.ediv_ediv_of_nonneg (Int.le_of_lt (p10 _)), ← Int.pow_add, show (-p).toNat + j.toNat = (j - p).toNat by omega]
  · rcases Int.lt_or_le j p with c | c
    · rw [dgt_lo c]; unfold dgt; rw [if_pos (by omega)]
    · rw [dgt_in (b := j - p) (by omega) rfl (by omega)]; unfold dgt; rw [if_neg (by omega)]
theorem spW_c {g : Nat → Int32} {m t : Int} (hd : dD g m.toNat) (hl : m = 0 ∨ ¬ (g 0).toInt = 0) (h0 : 0 ≤ m) (hm : m = 0 → t = 0) : dnc (spW (dV g m.toNat) (t - m)) (if t ≤ 0 then 0 else t) := by
  by_cases m0 : m = 0
  · have := hm m0
    subst this; subst m0
    rw [if_pos (by decide)]
    refine Or.inl ⟨?_, rfl⟩
    unfold spW
    rw [if_neg (by decide)]
    exact Int.zero_mul _
  · have lo := dV_lo (g := g) (m.toNat - 1) (by rw [show m.toNat - 1 + 1 = m.toNat by omega]; exact hd) (hl.resolve_left m0)
    rw [show m.toNat - 1 + 1 = m.toNat by omega] at lo
    have hi := (dV_bd m.toNat hd).2
    by_cases t0 : t ≤ 0
    · rw [if_pos t0]
      refine Or.inl ⟨?_, rfl⟩
      unfold spW
      rw [if_pos (by omega)]
      exact dV_big hd (by omega)
    · rw [if_neg t0]
      have key : 10 ^ (t - 1).toNat ≤ spW (dV g m.toNat) (t - m) ∧ spW (dV g m.toNat) (t - m) < 10 ^ t.toNat := by
        unfold spW
        by_cases c : t - m < 0
        · rw [if_pos c]
          refine ⟨Int.le_ediv_of_mul_le (p10 _) ?_, Int.ediv_lt_of_lt_mul (p10 _) ?_⟩
          · rw [← Int.pow_add, show (t - 1).toNat + (-(t - m)).toNat = m.toNat - 1 by omega]; exact lo
          · rw [← Int.pow_add, show t.toNat + (-(t - m)).toNat = m.toNat by omega]; exact hi
        · rw [if_neg c]
          refine ⟨?_, ?_⟩
          · rw [show (t - 1).toNat = (m.toNat - 1) + (t - m).toNat by omega, Int.pow_add]
            exact Int.mul_le_mul_of_nonneg_right lo (Int.le_of_lt (p10 _))
          · rw [show t.toNat = m.toNat + (t - m).toNat by omega, Int.pow_add]
            exact Int.mul_lt_mul_of_pos_right hi (p10 _)
      have := p10 (t - 1).toNat
      exact Or.inr ⟨by omega, by omega, key.1, key.2⟩
/-- a row of digits, the last one first -/
def whM (f : Nat → Int32) (n M : Int) : Prop := (dnc M n ∧ 0 ≤ M ∧ 0 ≤ n ∧ n ≤ 480) ∧ ∀ j : Nat, (j : Int) < n → (f j).toInt = dgt M j
theorem whM_i {g f h : Nat → Int32} {m t c p n : Int} (hT : tkO g h m c t p) (hv : vO h c p) (hs : (t ≤ 0 ∧ n = 0) ∨ (0 < t ∧ n = t)) (hj : ∀ j : Nat, (j : Int) < n → (f j).toInt = rwD g t m j) : whM f n (spW (dV h c.toNat) (p - c)) := by
  have td := tk_d hv hT.2.2 hT.1
  have hb := vO_b hv
  have ev : dV g m.toNat = dV h c.toNat := by rw [hT.1]; exact dV_c _ (fun j hj => hT.2.2 j (by omega))
  have e1 := hT.1
  have e2 := hT.2.1
  have sc := spW_c (t := t) td.1 td.2 (by omega) (by omega)
  have en : (if t ≤ 0 then 0 else t) = n := by
    rcases hs with ⟨a, b⟩ | ⟨a, b⟩
    · rw [if_pos a, b]
    · rw [if_neg (by omega), b]
  rw [en, ev] at sc
  have eM : spW (dV h c.toNat) (t - m) = spW (dV h c.toNat) (p - c) := by
    rcases e2 with ⟨a, b⟩ | ⟨a, b⟩
    · rw [a]
      show spW 0 _ = spW 0 _
      unfold spW
      (repeat' split) <;> first | rw [Int.zero_mul] | skip
      all_goals first | rfl | (rw [Int.zero_ediv]) | (rw [Int.zero_mul])
      all_goals first | rfl | (rw [Int.zero_ediv]) | (rw [Int.zero_mul])
    · rw [show t - m = p - c by omega]
  rw [eM] at sc
  refine ⟨⟨sc, spW_0 (dV_bd c.toNat hv.2.1).1, by omega, by omega⟩, fun j hj2 => ?_⟩
  rw [hj j hj2, rw_dg td.1 (by omega), ev, ← eM, spW_dg (by omega)]
theorem whM_b {f : Nat → Int32} {n M : Int} (h : whM f n M) : (0 ≤ n ∧ n ≤ 480) ∧ ∀ j : Nat, (j : Int) < n → 0 ≤ (f j).toInt ∧ (f j).toInt ≤ 9 := ⟨⟨h.1.2.2.1, h.1.2.2.2⟩, fun j hj => by rw [h.2 j hj]; exact dgt_b⟩
theorem dgt_s {M k : Int} (hk : 0 ≤ k) : M / 10 ^ k.toNat = 10 * (M / 10 ^ (k + 1).toNat) + dgt M k := by
  unfold dgt
  rw [if_neg (by omega), show (k + 1).toNat = k.toNat + 1 by omega, Int.pow_succ, ← Int.ediv_ediv_of_nonneg (Int.le_of_lt (p10 _))]
  omega
theorem whM_v {f : Nat → Int32} {n M : Int} {x : Int32} {v v2 y : Int} (h : whM f n M) (h0 : ¬ x.toInt < 0) (hx : x.toInt < n) (hv : v = M / 10 ^ (x.toInt + 1).toNat) (hv2 : v2 = 10 * v + (f x.toNatClampNeg).toInt) (hy : y = x.toInt - 1) : v2 = M / 10 ^ (y + 1).toNat := by
  rw [hy, show x.toInt - 1 + 1 = x.toInt by omega, dgt_s (by omega), hv2, hv, h.2 x.toNatClampNeg (by rw [zcl]; omega), zcl, show ((x.toInt.toNat : Nat) : Int) = x.toInt by omega]
theorem whM_0 {f : Nat → Int32} {n M x : Int} (h : whM f n M) (hx : x = n - 1) : 0 = M / 10 ^ (x + 1).toNat := by
  rw [show x + 1 = n by omega]
  rcases h.1.1 with ⟨a, b⟩ | ⟨a, b, c, d⟩
  · rw [a]; exact (Int.zero_ediv _).symm
  · exact (Int.ediv_eq_zero_of_lt (by omega) d).symm
theorem whM_9 {f : Nat → Int32} {n M : Int} (h : whM f n M) (h9 : n ≤ 9) : 0 ≤ M ∧ M < 1000000000 := by
  refine ⟨h.1.2.1, ?_⟩
  rcases h.1.1 with ⟨a, b⟩ | ⟨a, b, c, d⟩
  · omega
  · have := p10_le (show n.toNat ≤ 9 by omega)
    have e : (10 : Int) ^ 9 = 1000000000 := by decide
    omega
theorem whM_z {M v x : Int} (hv : v = M / 10 ^ (x + 1).toNat) (hx : x = -1) : v = M := by
  rw [hv, hx]; show M / 1 = M; exact Int.ediv_one M
