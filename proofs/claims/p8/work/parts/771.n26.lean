/-! GENERAL of the reference -/
def rdl (g : Nat → Int32) (i : Nat) : Nat → List Int
  | 0 => []
  | n + 1 => (48 + (g i).toInt) :: rdl g (i + 1) n
def rds (g : Nat → Int32) (x e : Int) : List Int := rdl g x.toNat (e - x).toNat
theorem rds_s {g : Nat → Int32} {x : Int32} {y e q : Int} (h0 : 0 ≤ x.toInt) (h : ¬ e ≤ x.toInt) (hq : q = 48 + (g x.toNatClampNeg).toInt) (hy : y = x.toInt + 1) : rds g x.toInt e = [q] ++ rds g y e := by
  subst hy; subst hq
  unfold rds
  rw [show (e - x.toInt).toNat = (e - (x.toInt + 1)).toNat + 1 by omega, show (x.toInt + 1).toNat = x.toInt.toNat + 1 by omega]; rfl
theorem rds_x {g : Nat → Int32} {x e : Int} (h : e ≤ x) : rds g x e = [] := by unfold rds; rw [show (e - x).toNat = 0 by omega]; rfl
def ld (D : Int → Int) (a : Int) : Nat → List Int
  | 0 => []
  | n + 1 => (48 + D a) :: ld D (a - 1) n
theorem ld_s {D : Int → Int} {x y b r : Int} (h : ¬ x < b) (hr : r = D x) (hy : y = x - 1) : ld D x (x - b + 1).toNat = [48 + r] ++ ld D y (y - b + 1).toNat := by
  subst hy; subst hr
  rw [show (x - b + 1).toNat = (x - 1 - b + 1).toNat + 1 by omega]; rfl
theorem ld_x {D : Int → Int} {x b : Int} (h : x < b) : ld D x (x - b + 1).toNat = [] := by rw [show (x - b + 1).toNat = 0 by omega]; rfl
def gyP (D : Int → Int) (m t : Int) : List Int := (if t < m then [46] else []) ++ ld D (-1) (-1 - (t - m) + 1).toNat
def gyE (t : Int) : List Int := [69] ++ ((if t < 1 then [45] else []) ++ fig (iab (t - 1)) 1)
def gnr (g : Nat → Int32) (m t b : Int) : List Int := if m = 0 then [48] else (if b = 0 then [] else [45]) ++ (if t < -5 ∨ 21 < t then [48 + (g 0).toInt] ++ (if m ≤ 1 then [] else [46]) ++ (rds g 1 m ++ gyE t) else (if t ≤ 0 then [48] else []) ++ (ld (rwD g t m) (t - 1) (t - 1 - 0 + 1).toNat ++ gyP (rwD g t m) m t))
theorem gR_m {f g : Nat → Int32} {n m k : Int} {X Y T : List Int} (hA : pR f n g m X) (e : X ++ Y = T) (hk : k = m) : gR f n g k Y T := by subst hk; exact ⟨X, hA, e⟩
theorem gnr_0 {g : Nat → Int32} {m t b : Int} (h : m = 0) : [48] = gnr g m t b := by unfold gnr; rw [if_pos h]
theorem gnr_P {g : Nat → Int32} {m t b x z : Int} {X : List Int} (hm : ¬ m = 0) (h1 : ¬ t < -5) (h2 : t ≤ 21) (hX : X = (if b = 0 then [] else [45]) ++ (if t ≤ 0 then [48] else [])) (hx : x = t - 1) (hz : z = 0) : X ++ (ld (rwD g t m) x (x - z + 1).toNat ++ gyP (rwD g t m) m t) = gnr g m t b := by
  subst hx; subst hz
  unfold gnr
  rw [if_neg hm, if_neg (show ¬ (t < -5 ∨ 21 < t) by omega), hX, List.append_assoc]
theorem gnr_E {g : Nat → Int32} {m t b z : Int} {X : List Int} (hm : ¬ m = 0) (h1 : t < -5 ∨ 21 < t) (hX : X = (if b = 0 then [] else [45]) ++ ([48 + (g 0).toInt] ++ (if m ≤ 1 then [] else [46]))) (hz : z = 1) : X ++ (rds g z m ++ gyE t) = gnr g m t b := by
  subst hz
  unfold gnr
  rw [if_neg hm, if_pos h1, hX, List.append_assoc]
def tkO (r g : Nat → Int32) (m c t p : Int) : Prop := m = c ∧ (c = 0 ∧ t = 0 ∨ ¬ c = 0 ∧ t = p) ∧ ∀ j : Nat, (j : Int) < c → (r j).toInt = (g j).toInt
theorem tkO_d {r g : Nat → Int32} {m c t p : Int} (h : tkO r g m c t p) (hv : vO g c p) : dD r m.toNat ∧ (0 ≤ m ∧ m ≤ 17 ∧ -400 ≤ t ∧ t ≤ 317) := by
  have a := (tk_d hv h.2.2 h.1).1
  have b := vO_b hv
  obtain ⟨e, f, _⟩ := h
  exact ⟨a, by omega⟩
theorem dq {g : Nat → Int32} {x : Int32} {m : Int} (hd : dD g m.toNat) (h0 : 0 ≤ x.toInt) (h1 : x.toInt < m) : (48 + g x.toNatClampNeg).toInt = 48 + (g x.toNatClampNeg).toInt := by
  have b := hd x.toNatClampNeg (by rw [zcl]; omega)
  rw [zadd1 (by simp only [Int32.reduceToInt]; omega) (by simp only [Int32.reduceToInt]; omega)]; rfl
theorem dq0 {g : Nat → Int32} {m : Int} (hd : dD g m.toNat) (h1 : 0 < m) : (48 + g (0 : Int32).toNatClampNeg).toInt = 48 + (g 0).toInt := dq (x := 0) hd (by decide) h1
theorem gyP_1 {D : Int → Int} {m t : Int} (h : m ≤ t) : gyP D m t = ld D (-1) (-1 - (t - m) + 1).toNat := by unfold gyP; rw [if_neg (by omega)]; rfl
theorem gyP_2 {D : Int → Int} {m t : Int} (h : ¬ m ≤ t) : gyP D m t = [46] ++ ld D (-1) (-1 - (t - m) + 1).toNat := by unfold gyP; rw [if_pos (by omega)]
theorem g218 {f g h : Nat → Int32} {n k k2 k3 : Int} {D : Int → Int} {m t x b z : Int} {X T : List Int} (H : gR f n g k (ld D x (x - b + 1).toNat ++ gyP D m t) T) (hx : x < b) (hA : pR g k h k2 X) (hX : gyP D m t = X ++ ld D z (z - (t - m) + 1).toNat) (hk : k3 = k2) : gR f n h k3 (ld D z (z - (t - m) + 1).toNat) T := by
  subst hk
  rw [ld_x hx] at H
  exact gR_s H hA hX
theorem g79 {f g h : Nat → Int32} {n k k2 k3 : Int} {r : Nat → Int32} {m t x : Int} {X T : List Int} (H : gR f n g k (rds r x m ++ gyE t) T) (hx : m ≤ x) (hA : pR g k h k2 X) (hX : X = gyE t) (hk : k3 = k2) : pR f n h k3 T := by
  subst hk; subst hX
  rw [rds_x hx] at H
  exact gR_x (gR_s H hA (List.append_nil _).symm) rfl
theorem gyE_1 {t v : Int} (h : 1 ≤ t) (hv : v = t - 1) : [69] ++ fig v 1 = gyE t := by unfold gyE; rw [if_neg (by omega), hv, ← iab_p (by omega)]; rfl
theorem gyE_2 {t v : Int} (h : ¬ 1 ≤ t) (hv : v = 1 - t) : [69] ++ [45] ++ fig v 1 = gyE t := by unfold gyE; rw [if_pos (by omega), hv, ← iab_n (by omega), show -(t - 1) = 1 - t by omega]; rfl
theorem rds_t {g : Nat → Int32} {x : Int32} {y e q : Int} {W : List Int} (h0 : 0 ≤ x.toInt) (h : ¬ e ≤ x.toInt) (hq : q = 48 + (g x.toNatClampNeg).toInt) (hy : y = x.toInt + 1) : rds g x.toInt e ++ W = [q] ++ (rds g y e ++ W) := by rw [rds_s h0 h hq hy]; rfl
theorem ld_t {D : Int → Int} {x y b r : Int} {W : List Int} (h : ¬ x < b) (hr : r = D x) (hy : y = x - 1) : ld D x (x - b + 1).toNat ++ W = [48 + r] ++ (ld D y (y - b + 1).toNat ++ W) := by rw [ld_s h hr hy]; rfl
theorem tkO_i {r g : Nat → Int32} {m c t p : Int} (h1 : m = c) (h2 : c = 0 ∧ t = 0 ∨ ¬ c = 0 ∧ t = p) (h3 : ∀ j : Nat, (j : Int) < c → (r j).toInt = (g j).toInt) : tkO r g m c t p := ⟨h1, h2, h3⟩
