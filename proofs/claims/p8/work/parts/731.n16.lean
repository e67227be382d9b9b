/-! items as lists (kind, mark), and what a number's items put -/
/-- hidden from arithmetic -/
def hN (a b : Int) : Prop := ¬ a = b
theorem hN_i {a b : Int} (h : ¬ a = b) : hN a b := h
theorem z32_0 : (0 : Int32).toInt = 0 := rfl
def cl (K M : Nat → Int32) (i : Nat) : Nat → List (Int × Int)
  | 0 => []
  | n + 1 => ((K i).toInt, (M i).toInt) :: cl K M (i + 1) n
def cK (k : Int) : List (Int × Int) → Int
  | [] => 0
  | p :: r => (if p.1 = k then 1 else 0) + cK k r
theorem cK_0 {k : Int} : ∀ l : List (Int × Int), 0 ≤ cK k l
  | [] => Int.le_refl _
  | p :: r => by
    show 0 ≤ (if p.1 = k then 1 else 0) + cK k r
    have := cK_0 (k := k) r
    split <;> omega
theorem cK_le {k : Int} : ∀ l : List (Int × Int), cK k l ≤ l.length
  | [] => Int.le_refl _
  | p :: r => by
    show (if p.1 = k then 1 else 0) + cK k r ≤ ((r.length + 1 : Nat) : Int)
    have := cK_le (k := k) r
    split <;> omega
theorem cl_len {K M : Nat → Int32} : ∀ (n i : Nat), (cl K M i n).length = n
  | 0, _ => rfl
  | n + 1, i => by show (cl K M (i + 1) n).length + 1 = _; rw [cl_len n (i + 1)]
def itO : List (Int × Int) → Prop
  | [] => True
  | p :: r => (0 ≤ p.2 ∧ p.2 < 256) ∧ itO r
/-- from item x up to the end e -/
def cs (K M : Nat → Int32) (x e : Int) : List (Int × Int) := cl K M x.toNat (e - x).toNat
theorem cs_s {K M : Nat → Int32} {x y e a b : Int} (h0 : 0 ≤ x) (h : x < e) (hy : y = x + 1) (ha : a = (K x.toNat).toInt) (hb : b = (M x.toNat).toInt) : cs K M x e = (a, b) :: cs K M y e := by
  subst hy; subst ha; subst hb
  unfold cs
  rw [show (e - x).toNat = (e - (x + 1)).toNat + 1 by omega, show (x + 1).toNat = x.toNat + 1 by omega]; rfl
theorem cs_x {K M : Nat → Int32} {x e : Int} (h : e ≤ x) : cs K M x e = [] := by unfold cs; rw [show (e - x).toNat = 0 by omega]; rfl
def lds (D : Int → Int) : Nat → List Int
  | 0 => []
  | n + 1 => (48 + D n) :: lds D n
/-- only zeros from decimal j on, n of them -/
def zf (D : Int → Int) (j : Int) : Nat → Int
  | 0 => 1
  | n + 1 => if D (-j) = 0 then zf D (j + 1) n else 0
theorem zf_1 {D : Int → Int} : ∀ (n : Nat) (j : Int), (∀ q : Int, j ≤ q → q < j + n → D (-q) = 0) → zf D j n = 1
  | 0, _, _ => rfl
  | n + 1, j, h => by
    show (if D (-j) = 0 then zf D (j + 1) n else 0) = 1
    rw [if_pos (h j (by omega) (by omega))]
    exact zf_1 n (j + 1) (fun q a b => h q (by omega) (by omega))
theorem zf_0 {D : Int → Int} : ∀ (n : Nat) (j : Int), (∃ q : Int, j ≤ q ∧ q < j + n ∧ ¬ D (-q) = 0) → zf D j n = 0
  | 0, _, ⟨q, a, b, _⟩ => by omega
  | n + 1, j, ⟨q, a, b, c⟩ => by
    show (if D (-j) = 0 then zf D (j + 1) n else 0) = 0
    by_cases e : D (-j) = 0
    · rw [if_pos e]
      refine zf_0 n (j + 1) ⟨q, ?_, by omega, c⟩
      rcases Int.lt_or_le j q with k | k
      · omega
      · rw [show q = j by omega] at c; exact absurd e c
    · rw [if_neg e]
def nDc (D : Int → Int) (d c s : Int) : List Int := if c = 48 ∨ zf D s (d - s + 1).toNat = 0 then [48 + D (-s)] else blk c
def nPt (D : Int → Int) (w W : Int) : List Int := (if W = 0 then lds D w.toNat else []) ++ [46]
def nSg (E c : Int) : List Int := [69] ++ (if E < 0 then [45] else if c = 43 then [43] else [])
def nPl (D : Int → Int) (w W th c s : Int) : List Int := pls D w c th s (if s = W - 1 then 1 else 0)
def nEv (D : Int → Int) (w d W th E : Int) (Q : Int → Int) (q P k c s : Int) : List Int :=
  if k = 1 then [c] else if k = 2 then nPl D w W th c s else if k = 3 then nDc D d c s else if k = 4 then nPt D w W else if k = 7 then nSg E c else if k = 8 then nPl Q q P 0 c s else []
def nrun (e : Int → Int → Int → List Int) : Int → Int → Int → List (Int × Int) → List Int
  | _, _, _, [] => []
  | a, b, p, i :: r =>
    if i.1 = 2 then e 2 i.2 (a - 1) ++ nrun e (a - 1) b p r
    else if i.1 = 3 then e 3 i.2 (b + 1) ++ nrun e a (b + 1) p r
    else if i.1 = 8 then e 8 i.2 (p - 1) ++ nrun e a b (p - 1) r
    else e i.1 i.2 0 ++ nrun e a b p r
section
variable {e : Int → Int → Int → List Int} {a b p c k : Int} {r : List (Int × Int)}
theorem nrun_2 {a2 : Int} (ha : a2 = a - 1) : nrun e a b p ((2, c) :: r) = e 2 c a2 ++ nrun e a2 b p r := by subst ha; rfl
theorem nrun_3 {b2 : Int} (hb : b2 = b + 1) : nrun e a b p ((3, c) :: r) = e 3 c b2 ++ nrun e a b2 p r := by subst hb; rfl
theorem nrun_8 {p2 : Int} (hp : p2 = p - 1) : nrun e a b p ((8, c) :: r) = e 8 c p2 ++ nrun e a b p2 r := by subst hp; rfl
theorem nrun_k (h2 : ¬ k = 2) (h3 : ¬ k = 3) (h8 : ¬ k = 8) : nrun e a b p ((k, c) :: r) = e k c 0 ++ nrun e a b p r := by
  show (if k = 2 then _ else if k = 3 then _ else if k = 8 then _ else _) = _
  rw [if_neg h2, if_neg h3, if_neg h8]
end
/-- a number's items still to be put, and how many places are left -/
def nG (c : Nat) (f : Nat → Int32) (n : Int) (c2 : Nat) (g : Nat → Int32) (m : Int) (e : Int → Int → Int → List Int) (a b p : Int) (l : List (Int × Int)) (T : List Int) : Prop :=
  gC c f n c2 g m (nrun e a b p l) T ∧ itO l ∧ cK 2 l ≤ a ∧ cK 8 l ≤ p
section
variable {c c2 c3 : Nat} {f g h : Nat → Int32} {n m m2 : Int} {e : Int → Int → Int → List Int} {a b p k mk : Int} {l : List (Int × Int)} {T : List Int}
theorem nG_x (H : nG c f n c2 g m e a b p l T) (hl : l = []) : pC c f n c2 g m T := by subst hl; exact gC_x H.1 rfl
theorem nG_b (H : nG c f n c2 g m e a b p ((k, mk) :: l) T) : (0 ≤ mk ∧ mk < 256) ∧ (k = 2 → 1 ≤ a) ∧ (k = 8 → 1 ≤ p) := by
  obtain ⟨_, hi, h2, h8⟩ := H
  refine ⟨hi.1, fun hk => ?_, fun hk => ?_⟩
  · have h2 : (if k = 2 then 1 else 0) + cK 2 l ≤ a := h2
    have := cK_0 (k := 2) l
    rw [if_pos hk] at h2; omega
  · have h8 : (if k = 8 then 1 else 0) + cK 8 l ≤ p := h8
    have := cK_0 (k := 8) l
    rw [if_pos hk] at h8; omega
theorem nG_bm (H : nG c f n c2 g m e a b p ((k, mk) :: l) T) : 0 ≤ mk ∧ mk < 256 := (nG_b H).1
theorem nG_ba (H : nG c f n c2 g m e a b p ((k, mk) :: l) T) (hk : k = 2) : 1 ≤ a := (nG_b H).2.1 hk
theorem nG_bb (H : nG c f n c2 g m e a b p ((k, mk) :: l) T) (hk : k = 8) : 1 ≤ p := (nG_b H).2.2 hk
theorem nG_p (H : nG c f n c2 g m e a b p l T) : 0 ≤ a ∧ 0 ≤ p := by
  obtain ⟨_, _, h2, h8⟩ := H
  have := cK_0 (k := 2) l; have := cK_0 (k := 8) l; omega
theorem nG_2 {a2 : Int} (H : nG c f n c2 g m e a b p ((k, mk) :: l) T) (hk : k = 2) (ha : a2 = a - 1) (hA : pC c2 g m c3 h m2 (e 2 mk a2)) : nG c f n c3 h m2 e a2 b p l T := by
  subst hk
  obtain ⟨hg, hi, h2, h8⟩ := H
  refine ⟨gC_s hg hA (nrun_2 ha), hi.2, ?_, ?_⟩
  · have h2 : 1 + cK 2 l ≤ a := h2
    omega
  · have h8 : 0 + cK 8 l ≤ p := h8
    omega
theorem nG_3 {b2 : Int} (H : nG c f n c2 g m e a b p ((k, mk) :: l) T) (hk : k = 3) (hb : b2 = b + 1) (hA : pC c2 g m c3 h m2 (e 3 mk b2)) : nG c f n c3 h m2 e a b2 p l T := by
  subst hk
  obtain ⟨hg, hi, h2, h8⟩ := H
  refine ⟨gC_s hg hA (nrun_3 hb), hi.2, ?_, ?_⟩
  · have h2 : 0 + cK 2 l ≤ a := h2
    omega
  · have h8 : 0 + cK 8 l ≤ p := h8
    omega
theorem nG_8 {p2 : Int} (H : nG c f n c2 g m e a b p ((k, mk) :: l) T) (hk : k = 8) (hb : p2 = p - 1) (hA : pC c2 g m c3 h m2 (e 8 mk p2)) : nG c f n c3 h m2 e a b p2 l T := by
  subst hk
  obtain ⟨hg, hi, h2, h8⟩ := H
  refine ⟨gC_s hg hA (nrun_8 hb), hi.2, ?_, ?_⟩
  · have h2 : 0 + cK 2 l ≤ a := h2
    omega
  · have h8 : 1 + cK 8 l ≤ p := h8
    omega
theorem nG_k (H : nG c f n c2 g m e a b p ((k, mk) :: l) T) (k2 : ¬ k = 2) (k3 : ¬ k = 3) (k8 : ¬ k = 8) (hA : pC c2 g m c3 h m2 (e k mk 0)) : nG c f n c3 h m2 e a b p l T := by
  obtain ⟨hg, hi, h2, h8⟩ := H
  refine ⟨gC_s hg hA (nrun_k k2 k3 k8), hi.2, ?_, ?_⟩
  · have h2 : (if k = 2 then 1 else 0) + cK 2 l ≤ a := h2
    rw [if_neg k2] at h2; omega
  · have h8 : (if k = 8 then 1 else 0) + cK 8 l ≤ p := h8
    rw [if_neg k8] at h8; omega
theorem nG_n (H : nG c f n c2 g m e a b p ((k, mk) :: l) T) (k2 : ¬ k = 2) (k3 : ¬ k = 3) (k8 : ¬ k = 8) (hE : e k mk 0 = []) : nG c f n c2 g m e a b p l T :=
  nG_k H k2 k3 k8 (by rw [hE]; exact pC_0 rfl)
end
section
variable {D : Int → Int} {w d W th E : Int} {Q : Int → Int} {q P c s k : Int}
theorem nEv_1 (h : k = 1) : nEv D w d W th E Q q P k c s = [c] := by subst h; rfl
theorem nEv_2 : pls D w c th s (if s = W - 1 then 1 else 0) = nEv D w d W th E Q q P 2 c s := rfl
theorem nEv_8 {z : Int} (hz : z = 0) : pls Q q c z s (if s = P - 1 then 1 else 0) = nEv D w d W th E Q q P 8 c s := by subst hz; rfl
theorem nEv_3 {t : Int} (h : t = s) : nDc D d c t = nEv D w d W th E Q q P 3 c s := by subst h; rfl
theorem nEv_4 (h : k = 4) : nEv D w d W th E Q q P k c s = nPt D w W := by subst h; rfl
theorem nEv_7 (h : k = 7) : nEv D w d W th E Q q P k c s = nSg E c := by subst h; rfl
theorem nEv_n (h1 : ¬ k = 1) (h2 : ¬ k = 2) (h3 : ¬ k = 3) (h4 : ¬ k = 4) (h7 : ¬ k = 7) (h8 : ¬ k = 8) : nEv D w d W th E Q q P k c s = [] := by
  unfold nEv; rw [if_neg h1, if_neg h2, if_neg h3, if_neg h4, if_neg h7, if_neg h8]
end
section
variable {c c2 c3 : Nat} {f g h : Nat → Int32} {n m m2 : Int} {D : Int → Int} {w d W th E : Int} {Q : Int → Int} {q P a b p k mk : Int} {l : List (Int × Int)} {T : List Int}
theorem nH_1 (H : nG c f n c2 g m (nEv D w d W th E Q q P) a b p ((k, mk) :: l) T) (hk : k = 1) (hA : pC c2 g m c3 h m2 [mk]) : nG c f n c3 h m2 (nEv D w d W th E Q q P) a b p l T := nG_k H (by omega) (by omega) (by omega) (pC_e hA (nEv_1 hk).symm)
theorem nH_4 (H : nG c f n c2 g m (nEv D w d W th E Q q P) a b p ((k, mk) :: l) T) (hk : k = 4) (hA : pC c2 g m c3 h m2 (nPt D w W)) : nG c f n c3 h m2 (nEv D w d W th E Q q P) a b p l T := nG_k H (by omega) (by omega) (by omega) (pC_e hA (nEv_4 hk).symm)
theorem nH_7 (H : nG c f n c2 g m (nEv D w d W th E Q q P) a b p ((k, mk) :: l) T) (hk : k = 7) (hA : pC c2 g m c3 h m2 (nSg E mk)) : nG c f n c3 h m2 (nEv D w d W th E Q q P) a b p l T := nG_k H (by omega) (by omega) (by omega) (pC_e hA (nEv_7 hk).symm)
theorem nH_5 (H : nG c f n c2 g m (nEv D w d W th E Q q P) a b p ((k, mk) :: l) T) (hk : k = 5) : nG c f n c2 g m (nEv D w d W th E Q q P) a b p l T := nG_n H (by omega) (by omega) (by omega) (nEv_n (by omega) (by omega) (by omega) (by omega) (by omega) (by omega))
theorem nH_6 (H : nG c f n c2 g m (nEv D w d W th E Q q P) a b p ((k, mk) :: l) T) (hk : k = 6) : nG c f n c2 g m (nEv D w d W th E Q q P) a b p l T := nG_n H (by omega) (by omega) (by omega) (nEv_n (by omega) (by omega) (by omega) (by omega) (by omega) (by omega))
theorem nH_d (H : nG c f n c2 g m (nEv D w d W th E Q q P) a b p ((k, mk) :: l) T) (h1 : hN k 1) (h2 : hN k 2) (h3 : hN k 3) (h4 : hN k 4) (h7 : hN k 7) (h8 : hN k 8) : nG c f n c2 g m (nEv D w d W th E Q q P) a b p l T := nG_n H h2 h3 h8 (nEv_n h1 h2 h3 h4 h7 h8)
theorem nH_2 {a2 t : Int} (H : nG c f n c2 g m (nEv D w d W th E Q q P) a b p ((k, mk) :: l) T) (hk : k = 2) (hA : pC c2 g m c3 h m2 (pls D w mk th a2 (if a2 = W - 1 then 1 else 0))) (ha : a2 = a - 1) (ht : t = a2) : nG c f n c3 h m2 (nEv D w d W th E Q q P) t b p l T := by subst ht; exact nG_2 H hk ha (pC_e hA nEv_2)
theorem nH_3 {b2 t : Int} (H : nG c f n c2 g m (nEv D w d W th E Q q P) a b p ((k, mk) :: l) T) (hk : k = 3) (hA : pC c2 g m c3 h m2 (nDc D d mk b2)) (hb : b2 = b + 1) (ht : t = b2) : nG c f n c3 h m2 (nEv D w d W th E Q q P) a t p l T := by subst ht; exact nG_3 H hk hb (pC_e hA (nEv_3 rfl))
theorem nH_8 {p2 t z : Int} (H : nG c f n c2 g m (nEv D w d W th E Q q P) a b p ((k, mk) :: l) T) (hk : k = 8) (hA : pC c2 g m c3 h m2 (pls Q q mk z p2 (if p2 = P - 1 then 1 else 0))) (hz : z = 0) (hb : p2 = p - 1) (ht : t = p2) : nG c f n c3 h m2 (nEv D w d W th E Q q P) a b t l T := by subst ht; exact nG_8 H hk hb (pC_e hA (nEv_8 hz))
end
/-- zeros from a place on, of Digits -/
theorem zfD {I : Nat → Int32} {J : Nat → Int64} {x j : Int} (hj : j = -x) (h0 : 1 ≤ j) : (dz ((J 0).toInt * 10 ^ (I 1).toInt.toNat) (x + (I 3).toInt) → zf (dgD I J) j ((I 3).toInt - j + 1).toNat = 1) ∧ (¬ dz ((J 0).toInt * 10 ^ (I 1).toInt.toNat) (x + (I 3).toInt) → zf (dgD I J) j ((I 3).toInt - j + 1).toNat = 0) := by
  subst hj
  refine ⟨fun h => zf_1 _ _ (fun q a b => ?_), fun h => ?_⟩
  · exact h (-q + (I 3).toInt) (by omega) (by omega)
  · refine Classical.byContradiction (fun hc => h (fun t t0 t1 => ?_))
    refine Classical.byContradiction (fun ht => hc (zf_0 _ _ ⟨(I 3).toInt - t, by omega, by omega, ?_⟩))
    show ¬ dgt (dgN I J) (-((I 3).toInt - t) + (I 3).toInt) = 0
    rw [show -((I 3).toInt - t) + (I 3).toInt = t by omega]
    exact ht
theorem nDc_1 {D : Int → Int} {d c s r : Int} (hr : r = D (-s)) (h : c = 48 ∨ zf D s (d - s + 1).toNat = 0) : [48 + r] = nDc D d c s := by unfold nDc; rw [if_pos h, hr]
theorem nDc_2 {D : Int → Int} {d c s : Int} (h1 : ¬ c = 48) (h : zf D s (d - s + 1).toNat = 1) : blk c = nDc D d c s := by unfold nDc; rw [if_neg (by omega)]
theorem nPt_s {D : Int → Int} {x y : Int} {r : Int} (h0 : 0 ≤ x) (hy : y = x - 1) (hr : r = D x) : lds D (x + 1).toNat ++ [46] = [48 + r] ++ (lds D (y + 1).toNat ++ [46]) := by
  subst hy; subst hr
  rw [show (x + 1).toNat = x.toNat + 1 by omega, show (x - 1 + 1).toNat = x.toNat by omega]
  show (48 + D ((x.toNat : Nat) : Int)) :: (lds D x.toNat ++ [46]) = (48 + D x) :: (lds D x.toNat ++ [46])
  rw [show ((x.toNat : Nat) : Int) = x by omega]
theorem nPt_x {D : Int → Int} {x : Int} (h0 : x < 0) : lds D (x + 1).toNat ++ [46] = [46] := by rw [show (x + 1).toNat = 0 by omega]; rfl
theorem nPt_0 {D : Int → Int} {w W x : Int} (hx : (¬ W = 0 ∧ x = -1) ∨ (W = 0 ∧ x = w - 1)) : lds D (x + 1).toNat ++ [46] = nPt D w W := by
  unfold nPt
  rcases hx with ⟨a, b⟩ | ⟨a, b⟩
  · rw [if_neg a, nPt_x (by omega)]; rfl
  · rw [if_pos a, show x + 1 = w by omega]
theorem nSg_1 {E c : Int} (h : E < 0) : [69] ++ [45] = nSg E c := by unfold nSg; rw [if_pos h]
theorem nSg_2 {E c : Int} (h : ¬ E < 0) (hc : c = 43) : [69] ++ [43] = nSg E c := by unfold nSg; rw [if_neg h, if_pos hc]
theorem nSg_3 {E c : Int} (h : ¬ E < 0) (hc : ¬ c = 43) : [69] = nSg E c := by unfold nSg; rw [if_neg h, if_neg hc]; rfl
/-- the section and its items, as a number's section keeps them -/
def nsO (I : Nat → Int32) (K M : Nat → Int32) (n : Int) : Prop := (0 ≤ (I 1).toInt ∧ (I 1).toInt ≤ (I 2).toInt ∧ (I 2).toInt ≤ n ∧ n ≤ 64) ∧ itO (cs K M (I 1).toInt (I 2).toInt) ∧ cK 2 (cs K M (I 1).toInt (I 2).toInt) = (I 3).toInt ∧ cK 3 (cs K M (I 1).toInt (I 2).toInt) = (I 4).toInt ∧ cK 8 (cs K M (I 1).toInt (I 2).toInt) = (I 9).toInt
theorem cs_len {K M : Nat → Int32} {x e : Int} (h : x ≤ e) : ((cs K M x e).length : Int) = e - x := by unfold cs; rw [cl_len]; omega
theorem nsO_b {I K M : Nat → Int32} {n : Int} (h : nsO I K M n) : (0 ≤ (I 1).toInt ∧ (I 1).toInt ≤ (I 2).toInt ∧ (I 2).toInt ≤ n ∧ n ≤ 64) ∧ 0 ≤ (I 3).toInt ∧ (I 3).toInt ≤ 64 ∧ 0 ≤ (I 4).toInt ∧ (I 4).toInt ≤ 64 ∧ 0 ≤ (I 9).toInt ∧ (I 9).toInt ≤ 64 := by
  obtain ⟨b, _, h2, h3, h8⟩ := h
  have l := cs_len (K := K) (M := M) b.2.1
  have a2 := cK_0 (k := 2) (cs K M (I 1).toInt (I 2).toInt); have c2 := cK_le (k := 2) (cs K M (I 1).toInt (I 2).toInt)
  have a3 := cK_0 (k := 3) (cs K M (I 1).toInt (I 2).toInt); have c3 := cK_le (k := 3) (cs K M (I 1).toInt (I 2).toInt)
  have a8 := cK_0 (k := 8) (cs K M (I 1).toInt (I 2).toInt); have c8 := cK_le (k := 8) (cs K M (I 1).toInt (I 2).toInt)
  omega
theorem nG_i {c : Nat} {f : Nat → Int32} {n : Int} {e : Int → Int → Int → List Int} {I K M : Nat → Int32} {k z : Int} (h : nsO I K M k) (hz : z = 0) : nG c f n c f n e (I 3).toInt z (I 9).toInt (cs K M (I 1).toInt (I 2).toInt) (nrun e (I 3).toInt 0 (I 9).toInt (cs K M (I 1).toInt (I 2).toInt)) :=
  ⟨gC_i rfl (by rw [hz]), h.2.1, by rw [h.2.2.1]; exact Int.le_refl _, by rw [h.2.2.2.2]; exact Int.le_refl _⟩
