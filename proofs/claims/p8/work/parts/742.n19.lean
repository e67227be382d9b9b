/-! counts of the reference's items; its point; the state at the items' head -/
theorem rx_3 {k a b : Int} {q : Int32} : cK 3 (rx k a b q) = if k = 3 then 1 else 0 := by
  unfold rx
  by_cases h1 : k = 1
  · subst h1; rfl
  rw [if_neg h1]
  by_cases h2 : k = 2
  · subst h2; rfl
  rw [if_neg h2]
  by_cases h3 : k = 3
  · subst h3; rfl
  rw [if_neg h3, if_neg h3]
  by_cases h4 : k = 4
  · subst h4; rfl
  rw [if_neg h4]
  split
  · rfl
  split
  · rfl
  split
  · rfl
  split
  · show (0 : Int) + cK 3 (pkc 8 q b.toNat) = 0
    rw [pkc_0 (by decide)]; rfl
  split
  · rfl
  split
  · show (0 : Int) + cK 3 (pkc _ q b.toNat) = 0
    rw [pkc_0 (by split <;> decide)]; rfl
  split
  · show (if rkR a = 3 then 1 else 0) + 0 = (0 : Int)
    rw [if_neg (by have := rkR_b (a := a); omega)]; rfl
  split
  · show (if rkA a = 3 then 1 else 0) + 0 = (0 : Int)
    rw [if_neg (by have := rkA_b (a := a); omega)]; rfl
  split
  · rfl
  split
  · rfl
  split
  · rfl
  split <;> rfl
theorem rx_5 {k a b : Int} {q : Int32} : cK 5 (rx k a b q) = if k = 6 then 1 else 0 := by
  unfold rx
  by_cases h1 : k = 1
  · subst h1; rfl
  rw [if_neg h1]
  by_cases h2 : k = 2
  · subst h2; rfl
  rw [if_neg h2]
  by_cases h3 : k = 3
  · subst h3; rfl
  rw [if_neg h3]
  by_cases h4 : k = 4
  · subst h4; rfl
  rw [if_neg h4]
  by_cases h5 : k = 5
  · subst h5; rfl
  rw [if_neg h5]
  by_cases h6 : k = 6
  · subst h6; rfl
  rw [if_neg h6, if_neg h6]
  split
  · rfl
  split
  · show (0 : Int) + cK 5 (pkc 8 q b.toNat) = 0
    rw [pkc_0 (by decide)]; rfl
  split
  · rfl
  split
  · show (0 : Int) + cK 5 (pkc _ q b.toNat) = 0
    rw [pkc_0 (by split <;> decide)]; rfl
  split
  · show (if rkR a = 5 then 1 else 0) + 0 = (0 : Int)
    rw [if_neg (by have := rkR_b (a := a); omega)]; rfl
  split
  · show (if rkA a = 5 then 1 else 0) + 0 = (0 : Int)
    rw [if_neg (by have := rkA_b (a := a); omega)]; rfl
  split
  · rfl
  split
  · rfl
  split
  · rfl
  split <;> rfl
theorem rx_22 {k a b : Int} {q : Int32} : cK 2 (rx k a b q) = if k = 2 then 1 else 0 := by
  by_cases h : k = 2
  · subst h; rfl
  · rw [if_neg h]; exact rx_2 h
theorem zr_c {K A B Q : Nat → Int32} {j kk : Int} (hr : ∀ (k a b : Int) (q : Int32), cK j (rx k a b q) = if k = kk then 1 else 0) {e : Int} : ∀ (n : Nat) (x : Int), 0 ≤ x → (e - x).toNat = n → zrem K kk x e = cK j (rs K A B Q x e)
  | 0, x, _, hn => by rw [rs_x (by omega), zrem_end (by omega)]; rfl
  | n + 1, x, h0, hn => by
    have ih := zr_c (K := K) (A := A) (B := B) (Q := Q) (e := e) hr n (x + 1) (by omega) (by omega)
    rw [rs_s h0 (by omega) rfl, cK_a, hr, ← ih]
    unfold zrem
    rw [show (e - x).toNat = (e - (x + 1)).toNat + 1 by omega, show (x + 1).toNat = x.toNat + 1 by omega]
    rfl
theorem rwD_b {g : Nat → Int32} {t m k : Int} (h : dD g m.toNat) : 0 ≤ rwD g t m k ∧ rwD g t m k ≤ 9 := by
  unfold rwD
  split
  · exact h _ (by omega)
  · omega
def rwW (t : Int) : Int := if t ≤ 0 then 0 else t
def nRT (D : Int → Int) (w E : Int) (L : List (Int × Int)) : List Int := nrun (nE D w (cK 3 L) (cK 2 L) (if 0 < cK 5 L then 1 else 0) E (cK 8 L)) (cK 2 L) 0 (cK 8 L) L
theorem plG_i {f g : Nat → Int32} {n m wh : Int} {wf K A B Q : Nat → Int32} {D : Int → Int} {w d W th E z x e t : Int} (h0 : 0 ≤ x) (hf : f = g) (hm : m = n) (hw : rW wf wh D w) (hp : pwo K B x e (cK 8 (rs K A B Q x e))) (hW : W = zrem K 2 x e) (hd : d = zrem K 3 x e) (ht : t = zrem K 6 x e) (hth : (t ≤ 0 ∧ th = 0) ∨ (¬ t ≤ 0 ∧ th = 1)) (hz : z = 0) : plG f n g m wf wh K A B Q D w d W th E (cK 8 (rs K A B Q x e)) W z x e (nRT D w E (rs K A B Q x e)) := by
  have c2 := zr_c (K := K) (A := A) (B := B) (Q := Q) (j := 2) (kk := 2) (fun _ _ _ _ => rx_22) (e - x).toNat x h0 rfl
  have c3 := zr_c (K := K) (A := A) (B := B) (Q := Q) (j := 3) (kk := 3) (fun _ _ _ _ => rx_3) (e - x).toNat x h0 rfl
  have c5 := zr_c (K := K) (A := A) (B := B) (Q := Q) (j := 5) (kk := 6) (fun _ _ _ _ => rx_5) (e - x).toNat x h0 rfl
  subst hf; subst hz
  refine ⟨gR_i hm ?_, ⟨h0, by rw [hW, c2]⟩, Or.inl hw, hp⟩
  unfold nRT
  have et : th = if 0 < cK 5 (rs K A B Q x e) then 1 else 0 := by
    rw [← c5, ← ht]
    rcases hth with ⟨a, b⟩ | ⟨a, b⟩
    · rw [if_neg (by omega), b]
    · rw [if_pos (by omega), b]
  rw [hW, hd, et, c2, c3]
theorem rW_i {wf : Nat → Int32} {wh t m : Int} {g : Nat → Int32} (hd : dD g m.toNat) (ht : t ≤ 480) (h : (t ≤ 0 ∧ wh = 0) ∨ (0 < t ∧ wh = t)) (hj : ∀ j : Nat, (j : Int) < wh → (wf j).toInt = rwD g t m j) : rW wf wh (rwD g t m) (rwW t) := by
  have e : wh = rwW t := by unfold rwW; split <;> omega
  rw [← e]
  refine ⟨rfl, by omega, by omega, hj, fun p => rwD_b hd⟩
/-- in the point: digits z .. 0 and the point are still to come -/
def ptY (D : Int → Int) (W z : Int) : List Int := (if W = 0 then lds D (z + 1).toNat else []) ++ [46]
def ptG (f : Nat → Int32) (n : Int) (g : Nat → Int32) (m : Int) (wf : Nat → Int32) (wh : Int) (K A B Q : Nat → Int32) (D : Int → Int) (w d W th E P a b x e z : Int) (T : List Int) : Prop :=
  gR f n g m (ptY D W z ++ nrun (nE D w d W th E P) a b (cK 8 (rs K A B Q (x + 1) e)) (rs K A B Q (x + 1) e)) T ∧ (0 ≤ x ∧ a = cK 2 (rs K A B Q (x + 1) e)) ∧ (rW wf wh D w ∧ -1 ≤ z ∧ z < w) ∧ pwo K B (x + 1) e P
section
variable {f g h : Nat → Int32} {n m m2 m3 : Int} {wf : Nat → Int32} {wh wh2 : Int} {K A B Q : Nat → Int32} {D : Int → Int} {w d W th E P a b y z z2 e : Int} {x : Int32} {T : List Int}
theorem ptG_i (H : plG f n g m wf wh K A B Q D w d W th E P a b x.toInt e T) (hx : ¬ e ≤ x.toInt) (hk : (K x.toNatClampNeg).toInt = 4) (hz : z = wh - 1) (hm : m2 = m) (hw : wh2 = wh) : ptG f n g m2 wf wh2 K A B Q D w d W th E P a b x.toInt e z T := by
  have hW := plG_w H hx (Or.inr hk)
  obtain ⟨h1, h2, h3, h4⟩ := H
  subst hm; subst hw
  have hr : rx (K x.toInt.toNat).toInt (A x.toInt.toNat).toInt (B x.toInt.toNat).toInt (Q x.toInt.toNat) = [(4, 46)] := by rw [show (K x.toInt.toNat).toInt = 4 from hk]; rfl
  rw [rs_s h2.1 (by omega) rfl, hr] at h1 h2
  have e2 : cK 2 ([(4, 46)] ++ rs K A B Q (x.toInt + 1) e) = cK 2 (rs K A B Q (x.toInt + 1) e) := by rw [cK_a]; exact Int.zero_add _
  have e8 : cK 8 ([(4, 46)] ++ rs K A B Q (x.toInt + 1) e) = cK 8 (rs K A B Q (x.toInt + 1) e) := by rw [cK_a]; exact Int.zero_add _
  rw [e8] at h1; rw [e2] at h2
  have ew := hW.1
  have e0 := hW.2.1
  refine ⟨gR_e h1 ?_ rfl, h2, ⟨hW, by omega, by omega⟩, pwo_m h4 (by omega)⟩
  show nrun _ a b _ ((4, 46) :: rs K A B Q (x.toInt + 1) e) = _
  rw [nrun_k (by decide) (by decide) (by decide)]
  show nPt D w W ++ _ = _
  unfold nPt ptY
  rw [show z + 1 = w by omega]
theorem ptG_b (H : ptG f n g m wf wh K A B Q D w d W th E P a b y e z T) : (-1 ≤ z ∧ z < 480) ∧ wh = w := by
  obtain ⟨_, _, ⟨h, h1, h2⟩, _⟩ := H
  have := h.2.2.1
  exact ⟨by omega, h.1⟩
theorem ptG_v {u : Int32} (H : ptG f n g m wf wh K A B Q D w d W th E P a b y e u.toInt T) (h0 : ¬ u.toInt < 0) : (48 + wf u.toNatClampNeg).toInt = 48 + D u.toInt := by
  obtain ⟨_, _, ⟨h, h1, h2⟩, _⟩ := H
  obtain ⟨_, _, _, hj, hD⟩ := h
  have := hj u.toNatClampNeg (by rw [zcl]; omega)
  have hb := hD u.toInt
  rw [zcl, show ((u.toInt.toNat : Nat) : Int) = u.toInt by omega] at this
  rw [zadd1 (by rw [zcl, this]; simp only [Int32.reduceToInt]; omega) (by rw [zcl, this]; simp only [Int32.reduceToInt]; omega), zcl, this]; rfl
theorem ptG_s {u : Int32} (H : ptG f n g m wf wh K A B Q D w d W th E P a b y e u.toInt T) (hW : W = 0) (hz : ¬ u.toInt < 0) (hA : pR g m h m2 [(48 + wf u.toNatClampNeg).toInt]) (hz2 : z2 = u.toInt - 1) (hm : m3 = m2) (hw : wh2 = wh) : ptG f n h m3 wf wh2 K A B Q D w d W th E P a b y e z2 T := by
  rw [ptG_v H hz] at hA
  obtain ⟨h1, h2, h3, h4⟩ := H
  subst hm; subst hw
  refine ⟨gR_s h1 hA ?_, h2, ⟨h3.1, by omega, by omega⟩, h4⟩
  unfold ptY
  rw [if_pos hW, if_pos hW, nPt_s (by omega) hz2 rfl, List.append_assoc]
theorem ptG_x (H : ptG f n g m wf wh K A B Q D w d W th E P a b x.toInt e z T) (hz : z < 0 ∨ ¬ W = 0) (hA : pR g m h m2 [46]) (hy : y = x.toInt + 1) (hm : m3 = m2) (hw : wh2 = wh) : plG f n h m3 wf wh2 K A B Q D w d W th E P a b y e T := by
  obtain ⟨h1, h2, h3, h4⟩ := H
  subst hm; subst hw; subst hy
  have e : ptY D W z = [46] := by
    unfold ptY
    rcases hz with q | q
    · split
      · exact nPt_x q
      · rfl
    · rw [if_neg q]; rfl
  rw [e] at h1
  exact ⟨gR_s h1 hA rfl, ⟨by omega, h2.2⟩, Or.inl h3.1, h4⟩
theorem plG_wp {q : Int} (H : plG f n g m wf wh K A B Q D w d W th E P a b x.toInt e T) (hx : ¬ e ≤ x.toInt) (hk : (K x.toNatClampNeg).toInt = 2) (h0 : 0 ≤ q) (h1 : q ≤ 5000) (hw : wh2 = wh) : 0 ≤ q ∧ q ≤ 5000 ∧ 0 ≤ wh2 ∧ wh2 ≤ 480 ∧ ∀ j : Nat, (j : Int) < wh2 → 0 ≤ (wf j).toInt ∧ (wf j).toInt ≤ 9 := by
  obtain ⟨w1, w2, w3, w4, w5⟩ := plG_w H hx (Or.inl hk)
  subst hw
  refine ⟨h0, h1, by omega, by omega, fun j hj => ?_⟩
  rw [w4 j (by omega)]; exact w5 _
theorem plG_wb (H : plG f n g m wf wh K A B Q D w d W th E P a b x.toInt e T) (hx : ¬ e ≤ x.toInt) (hk : (K x.toNatClampNeg).toInt = 4) : 0 ≤ wh ∧ wh ≤ 480 := by
  obtain ⟨w1, w2, w3, w4, w5⟩ := plG_w H hx (Or.inr hk)
  omega
theorem plG_a (H : plG f n g m wf wh K A B Q D w d W th E P a b x.toInt e T) (hx : ¬ e ≤ x.toInt) (hk : (K x.toNatClampNeg).toInt = 2) : 1 ≤ a := by
  obtain ⟨h1, h2, h3, h4⟩ := H
  have hr : rx (K x.toInt.toNat).toInt (A x.toInt.toNat).toInt (B x.toInt.toNat).toInt (Q x.toInt.toNat) = [(2, (A x.toInt.toNat).toInt)] := by rw [show (K x.toInt.toNat).toInt = 2 from hk]; rfl
  rw [rs_s h2.1 (by omega) rfl, hr] at h2
  have e2 : cK 2 ([(2, (A x.toInt.toNat).toInt)] ++ rs K A B Q (x.toInt + 1) e) = 1 + cK 2 (rs K A B Q (x.toInt + 1) e) := by rw [cK_a]; rfl
  have := cK_0 (k := 2) (rs K A B Q (x.toInt + 1) e)
  omega
theorem plG_B (H : plG f n g m wf wh K A B Q D w d W th E P a b x.toInt e T) (hx : ¬ e ≤ x.toInt) (hk : (K x.toNatClampNeg).toInt = 8) : 0 ≤ (B x.toNatClampNeg).toInt ∧ (B x.toNatClampNeg).toInt ≤ 5 := by
  have h0 := H.2.1.1
  have := H.2.2.2 x.toNatClampNeg (by rw [zcl]; omega) (by rw [zcl]; omega) hk
  omega
end
theorem iab_p {E : Int} (h : 0 ≤ E) : E = iab E := by unfold iab; rw [if_neg (by omega)]
theorem iab_n {E : Int} (h : ¬ 0 ≤ E) : -E = iab E := by unfold iab; rw [if_pos (by omega)]
theorem wO_d {f : Nat → Int32} {v n : Int} (h : dnc v n) (h9 : v ≤ 999) (h0 : 0 ≤ v) (hd : ∀ j : Nat, (j : Int) < n → (f j).toInt = dgt v j) : (0 ≤ n ∧ n ≤ 3) ∧ ∀ j : Nat, (j : Int) < n → 0 ≤ (f j).toInt ∧ (f j).toInt ≤ 9 := by
  have e := nd3_v h h0 h9
  refine ⟨?_, fun j hj => by rw [hd j hj]; exact dgt_b⟩
  rw [e]; unfold nd3; (repeat' split) <;> omega
theorem nDc_3 {D : Int → Int} {d c s : Int} (h1 : ¬ c = 48) (h : ¬ zf D s (d - s + 1).toNat = 0) : blk c = nDc D d c s := by unfold nDc; rw [if_neg (by omega)]
