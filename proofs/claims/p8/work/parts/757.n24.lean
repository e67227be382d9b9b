/-! words: a text's characters; items of PLAIN and TEXT -/
def tx (f : Nat → Int32) (i : Nat) : Nat → List Int
  | 0 => []
  | n + 1 => (f i).toInt :: tx f (i + 1) n
def txs (f : Nat → Int32) (x e : Int) : List Int := tx f x.toNat (e - x).toNat
theorem txs_s {f : Nat → Int32} {x : Int32} {y e : Int} (h0 : 0 ≤ x.toInt) (h : ¬ e ≤ x.toInt) (hy : y = x.toInt + 1) : txs f x.toInt e = [(f x.toNatClampNeg).toInt] ++ txs f y e := by
  subst hy
  unfold txs
  rw [show (e - x.toInt).toNat = (e - (x.toInt + 1)).toNat + 1 by omega, show (x.toInt + 1).toNat = x.toInt.toNat + 1 by omega]; rfl
theorem txs_x {f : Nat → Int32} {x e : Int} (h : e ≤ x) : txs f x e = [] := by unfold txs; rw [show (e - x).toNat = 0 by omega]; rfl
theorem txs_c {f g : Nat → Int32} (h : ∀ i : Nat, (f i).toInt = (g i).toInt) : ∀ (n i : Nat), tx f i n = tx g i n
  | 0, _ => rfl
  | n + 1, i => by show (f i).toInt :: tx f (i + 1) n = (g i).toInt :: tx g (i + 1) n; rw [h i, txs_c h n (i + 1)]
def qT (f : Nat → Int32) : Prop := ∀ i : Nat, 0 ≤ (f i).toInt ∧ (f i).toInt < 256
theorem qT_a {f : Nat → Int32} (h : qT f) (i : Nat) : 0 ≤ (f i).toInt ∧ (f i).toInt < 256 := h i
def wrun (TX : List Int) : List (Int × Int) → List Int
  | [] => []
  | p :: r => (if p.1 = 1 then [p.2] else if p.1 = 13 then TX else []) ++ wrun TX r
def wsO (I : Nat → Int32) (K M : Nat → Int32) (n : Int) : Prop := (0 ≤ (I 1).toInt ∧ (I 1).toInt ≤ (I 2).toInt ∧ (I 2).toInt ≤ n ∧ n ≤ 64) ∧ itO (cs K M (I 1).toInt (I 2).toInt)
theorem wsO_b {I K M : Nat → Int32} {n : Int} (h : wsO I K M n) : 0 ≤ (I 1).toInt ∧ (I 1).toInt ≤ (I 2).toInt ∧ (I 2).toInt ≤ n ∧ n ≤ 64 := h.1
def wG (c : Nat) (f : Nat → Int32) (n : Int) (c2 : Nat) (g : Nat → Int32) (m : Int) (K M : Nat → Int32) (TX : List Int) (x e : Int) (T : List Int) : Prop :=
  gC c f n c2 g m (wrun TX (cs K M x e)) T ∧ itO (cs K M x e)
section
variable {c c2 c3 : Nat} {f g h : Nat → Int32} {n m m2 : Int} {K M : Nat → Int32} {TX T : List Int} {x y e : Int}
theorem wG_i {I : Nat → Int32} {k : Int} (hw : wsO I K M k) : wG c f n c f n K M TX (I 1).toInt (I 2).toInt (wrun TX (cs K M (I 1).toInt (I 2).toInt)) := ⟨gC_i rfl rfl, hw.2⟩
theorem wG_x (H : wG c f n c2 g m K M TX x e T) (hx : e ≤ x) : pC c f n c2 g m T := by
  have h1 := H.1; rw [cs_x hx] at h1; exact gC_x h1 rfl
theorem wG_b (H : wG c f n c2 g m K M TX x e T) (h0 : 0 ≤ x) (hx : ¬ e ≤ x) : 0 ≤ (M x.toNat).toInt ∧ (M x.toNat).toInt < 256 := by
  have h2 := H.2; rw [cs_s h0 (by omega) rfl rfl rfl] at h2; exact h2.1
theorem wG_1 (H : wG c f n c2 g m K M TX x e T) (h0 : 0 ≤ x) (hx : ¬ e ≤ x) (hk : (K x.toNat).toInt = 1) (hA : pC c2 g m c3 h m2 [(M x.toNat).toInt]) (hy : y = x + 1) : wG c f n c3 h m2 K M TX y e T := by
  obtain ⟨h1, h2⟩ := H
  rw [cs_s h0 (by omega) hy rfl rfl] at h1 h2
  refine ⟨gC_s h1 hA ?_, h2.2⟩
  show (if (K x.toNat).toInt = 1 then _ else _) ++ _ = _
  rw [if_pos hk]
theorem wG_2 (H : wG c f n c2 g m K M TX x e T) (h0 : 0 ≤ x) (hx : ¬ e ≤ x) (hk : (K x.toNat).toInt = 13) (hA : pC c2 g m c3 h m2 TX) (hy : y = x + 1) : wG c f n c3 h m2 K M TX y e T := by
  obtain ⟨h1, h2⟩ := H
  rw [cs_s h0 (by omega) hy rfl rfl] at h1 h2
  refine ⟨gC_s h1 hA ?_, h2.2⟩
  show (if (K x.toNat).toInt = 1 then _ else if (K x.toNat).toInt = 13 then _ else _) ++ _ = _
  rw [if_neg (by omega), if_pos hk]
theorem wG_n (H : wG c f n c2 g m K M TX x e T) (h0 : 0 ≤ x) (hx : ¬ e ≤ x) (hk : ¬ (K x.toNat).toInt = 1) (hk2 : ¬ (K x.toNat).toInt = 13) (hy : y = x + 1) : wG c f n c2 g m K M TX y e T := by
  obtain ⟨h1, h2⟩ := H
  rw [cs_s h0 (by omega) hy rfl rfl] at h1 h2
  refine ⟨gC_e h1 ?_, h2.2⟩
  show (if (K x.toNat).toInt = 1 then _ else if (K x.toNat).toInt = 13 then _ else _) ++ _ = _
  rw [if_neg hk, if_neg hk2]; rfl
end
/-- the reference's -/
def wl (K A : Nat → Int32) (TX : List Int) (i : Nat) : Nat → List Int
  | 0 => []
  | n + 1 => (if (K i).toInt = 1 then [(A i).toInt] else []) ++ ((if (K i).toInt = 16 then TX else []) ++ wl K A TX (i + 1) n)
def wls (K A : Nat → Int32) (TX : List Int) (x e : Int) : List Int := wl K A TX x.toNat (e - x).toNat
def wt (K : Nat → Int32) (f : Nat → Int32) (n x z : Int) : List Int := if (K x.toNat).toInt = 16 then txs f z n else []
section
variable {f g h : Nat → Int32} {n m m2 m3 : Int} {K A F : Nat → Int32} {T : List Int} {x z : Int32} {y e t z2 : Int}
theorem wls_s {TX : List Int} (h0 : 0 ≤ x.toInt) (hx : ¬ e ≤ x.toInt) : wls K A TX x.toInt e = (if (K x.toNatClampNeg).toInt = 1 then [(A x.toNatClampNeg).toInt] else []) ++ ((if (K x.toNatClampNeg).toInt = 16 then TX else []) ++ wls K A TX (x.toInt + 1) e) := by
  unfold wls
  rw [show (e - x.toInt).toNat = (e - (x.toInt + 1)).toNat + 1 by omega, show (x.toInt + 1).toNat = x.toInt.toNat + 1 by omega]; rfl
theorem wls_x {TX : List Int} (hx : e ≤ y) : wls K A TX y e = [] := by unfold wls; rw [show (e - y).toNat = 0 by omega]; rfl
theorem wl_1 (H : gR f n g m (wls K A (txs F 0 t) x.toInt e) T) (h0 : 0 ≤ x.toInt) (hx : ¬ e ≤ x.toInt) (hk : (K x.toNatClampNeg).toInt = 1) (hA : pR g m h m2 [(A x.toNatClampNeg).toInt]) (hm : m3 = m2) (hz : z2 = 0) : gR f n h m3 (wt K F t x.toInt z2 ++ wls K A (txs F 0 t) (x.toInt + 1) e) T := by
  subst hm; subst hz
  rw [wls_s h0 hx, if_pos hk] at H
  exact gR_s H hA rfl
theorem wl_2 (H : gR f n g m (wls K A (txs F 0 t) x.toInt e) T) (h0 : 0 ≤ x.toInt) (hx : ¬ e ≤ x.toInt) (hk : ¬ (K x.toNatClampNeg).toInt = 1) (hm : m3 = m) (hz : z2 = 0) : gR f n g m3 (wt K F t x.toInt z2 ++ wls K A (txs F 0 t) (x.toInt + 1) e) T := by
  subst hm; subst hz
  rw [wls_s h0 hx, if_neg hk] at H
  exact H
theorem wl_3 (H : gR f n g m (wt K F t x.toInt z.toInt ++ wls K A (txs F 0 t) (x.toInt + 1) e) T) (h0 : 0 ≤ z.toInt) (hz : ¬ t ≤ z.toInt) (hk : (K x.toNatClampNeg).toInt = 16) (hA : pR g m h m2 [(F z.toNatClampNeg).toInt]) (hz2 : z2 = z.toInt + 1) (hm : m3 = m2) : gR f n h m3 (wt K F t x.toInt z2 ++ wls K A (txs F 0 t) (x.toInt + 1) e) T := by
  subst hm
  unfold wt at H ⊢
  rw [show (K x.toInt.toNat).toInt = 16 from hk, if_pos rfl, txs_s h0 hz hz2, List.append_assoc] at H
  rw [show (K x.toInt.toNat).toInt = 16 from hk, if_pos rfl]
  exact gR_s H hA rfl
theorem wl_4 (H : gR f n g m (wt K F t x.toInt z.toInt ++ wls K A (txs F 0 t) (x.toInt + 1) e) T) (hz : t ≤ z.toInt ∨ ¬ (K x.toNatClampNeg).toInt = 16) (hy : y = x.toInt + 1) (hm : m3 = m) : gR f n g m3 (wls K A (txs F 0 t) y e) T := by
  subst hm; subst hy
  refine gR_e H ?_ rfl
  unfold wt
  rcases hz with q | q
  · split
    · rw [txs_x q]; rfl
    · rfl
  · rw [if_neg (show ¬ (K x.toInt.toNat).toInt = 16 from q)]; rfl
end
