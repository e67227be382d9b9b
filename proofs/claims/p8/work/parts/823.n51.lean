/-! dress of a date -/
def dG (c : Nat) (f : Nat → Int32) (n : Int) (c2 : Nat) (g : Nat → Int32) (m : Int) (E : Int → Int → List Int) (l : List (Int × Int)) (T : List Int) : Prop := gC c f n c2 g m (drun E l) T ∧ itO l
section
variable {c c2 c3 : Nat} {f g h : Nat → Int32} {n m m2 : Int} {E : Int → Int → List Int} {k mk : Int} {l : List (Int × Int)} {T X : List Int}
theorem dG_x (H : dG c f n c2 g m E l T) (hl : l = []) : pC c f n c2 g m T := by subst hl; exact gC_x H.1 rfl
theorem dG_m (H : dG c f n c2 g m E ((k, mk) :: l) T) : 0 ≤ mk ∧ mk < 256 := H.2.1
theorem dG_s (H : dG c f n c2 g m E ((k, mk) :: l) T) (hA : pC c2 g m c3 h m2 X) (e : X = E k mk) : dG c f n c3 h m2 E l T := ⟨gC_s H.1 hA (by rw [e]; rfl), H.2.2⟩
theorem dG_n (H : dG c f n c2 g m E ((k, mk) :: l) T) (e : [] = E k mk) : dG c f n c2 g m E l T := dG_s H (pC_0 rfl) e
end
section
variable {y m d N s t hd k c : Int}
theorem dvE_1 (hk : k = 1) : [c] = dvE y m d N s t hd k c := by unfold dvE; rw [if_pos hk]
theorem dvE_t (hk : ¬ k < 23) : dvT N s t hd k c = dvE y m d N s t hd k c := by unfold dvE; rw [if_neg (by omega), if_pos (by omega)]
theorem dvE_d (hk : k < 23) (hk2 : ¬ k < 20) : dvD y m d N k c = dvE y m d N s t hd k c := by unfold dvE; rw [if_neg (by omega), if_neg (by omega), if_pos (by omega)]
theorem dvE_n (hk : ¬ k = 1) (hk2 : k < 20) : [] = dvE y m d N s t hd k c := by unfold dvE; rw [if_neg hk, if_neg (by omega), if_neg (by omega)]
end
def ddN (v s P : Int) : Int := spW v s + dtC (spR v s) P
def ddL (v s P hd : Int) (L : List (Int × Int)) : List Int := if 2958466 ≤ ddN v s P then [35] else drun (dvE (cdY (ddN v s P)) (cdM (ddN v s P)) (cdD (ddN v s P)) (ddN v s P) (dtI (spR v s) P / 10 ^ P.toNat) (dtI (spR v s) P % 10 ^ P.toNat * 10 ^ (3 - P).toNat) hd) L
def ddP (v s P hd b : Int) (L : List (Int × Int)) (T : List Int) : Prop := ((¬ b = 0 ∨ 9999999 < spW v s) ∧ T = [35]) ∨ ((b = 0 ∧ spW v s ≤ 9999999) ∧ T = ddL v s P hd L)
theorem dg7 {I : Nat → Int32} {J : Nat → Int64} {M r : Int} (h : dgM I J M 0) (hr : dgW I = r) : (r ≤ 7 → M ≤ 9999999) ∧ (¬ r ≤ 7 → 9999999 < M) := by
  have d := dgM_0 h h.2.2
  have e7 : (10 : Int) ^ 7 = 10000000 := by decide
  rw [d.2.2] at hr
  subst hr
  rcases h.2.2 with ⟨a, b⟩ | ⟨a, b, c, e⟩
  · exact ⟨fun _ => by omega, fun q => by omega⟩
  · refine ⟨fun q => ?_, fun q => ?_⟩
    · have := p10_le (show (I 2).toInt.toNat ≤ 7 by omega); omega
    · have := p10_le (show 7 ≤ ((I 2).toInt - 1).toNat by omega); omega
theorem dtC_b {r P : Int} : 0 ≤ dtC r P ∧ dtC r P ≤ 1 := by unfold dtC; split <;> omega
theorem dtO_b {J : Nat → Int64} {N r P : Int} (h : dtO J N r P) (hN : 0 ≤ N) (hN2 : N ≤ 9999999) (h0 : 0 ≤ r) (h1 : r ≤ 1000000000000000) (hP0 : 0 ≤ P) (hP : P ≤ 3) : (0 ≤ (J 1).toInt ∧ (J 1).toInt ≤ 10000000) ∧ (0 ≤ (J 2).toInt ∧ (J 2).toInt ≤ 86400) ∧ 0 ≤ (J 3).toInt ∧ (J 3).toInt ≤ 1000 := by
  obtain ⟨a, b, c⟩ := h
  have q := dtC_b (r := r) (P := P)
  have w := dtI_b h0 h1 hP
  have p := p10 P.toNat
  have p2 := p10 (3 - P).toNat
  unfold dtP at w
  have e1 : dtI r P / 10 ^ P.toNat < 86400 := Int.ediv_lt_of_lt_mul p (by omega)
  have e0 := Int.ediv_nonneg w.1 (Int.le_of_lt p)
  have f0 := Int.emod_nonneg (dtI r P) (show (10 : Int) ^ P.toNat ≠ 0 by omega)
  have f1 := Int.emod_lt_of_pos (dtI r P) p
  have g0 := Int.mul_nonneg f0 (Int.le_of_lt p2)
  have g1 : dtI r P % 10 ^ P.toNat * 10 ^ (3 - P).toNat ≤ 10 ^ P.toNat * 10 ^ (3 - P).toNat := Int.mul_le_mul_of_nonneg_right (by omega) (Int.le_of_lt p2)
  rw [← Int.pow_add, show P.toNat + (3 - P).toNat = 3 by omega] at g1
  have e3 : (10 : Int) ^ 3 = 1000 := by decide
  refine ⟨by omega, by omega, by omega⟩
theorem ccD_b {R : Int} (h0 : 0 ≤ R) (h1 : R ≤ 365) : 1 ≤ ccD R ∧ ccD R ≤ 31 := by unfold ccD ccF; omega
theorem ccM_b {R : Int} (h0 : 0 ≤ R) (h1 : R ≤ 365) : 1 ≤ ccM R ∧ ccM R ≤ 12 := by unfold ccM ccF; split <;> omega
theorem cdO_bb {I : Nat → Int32} {n : Int} (h : cdO I n) (h0 : 0 ≤ n) : 0 ≤ (I 4).toInt ∧ 0 ≤ (I 5).toInt ∧ 0 ≤ (I 6).toInt := by
  obtain ⟨a, b, c⟩ := h
  unfold cdY at a; unfold cdM at b; unfold cdD at c
  by_cases k : n < 61
  · rw [if_pos k] at a b c
    split at b <;> split at c <;> omega
  · rw [if_neg k] at a b c
    have q := cc_b (s := n - 61 + 109572) (by omega)
    have m := ccM_b q.2.2.1 q.2.2.2
    have d := ccD_b q.2.2.1 q.2.2.2
    have y : 1600 ≤ ccY (n - 61 + 109572) := by unfold ccY; split <;> omega
    omega
section
variable {c c2 : Nat} {f g : Nat → Int32} {n k v s P hd b r : Int} {L : List (Int × Int)} {I : Nat → Int32} {J : Nat → Int64}
theorem dd_0 (hA : pC c f n c2 g k [35]) (h : ¬ b = 0 ∨ 9999999 < spW v s) : ∃ T, ddP v s P hd b L T ∧ pC c f n c2 g k T := ⟨[35], Or.inl ⟨h, rfl⟩, hA⟩
theorem dd_9 (hA : pC c f n c2 g k [35]) (hb : b = 0) (h7 : spW v s ≤ 9999999) (hJ : dtO J (spW v s) (spR v s) P) (h9 : ¬ (J 1).toInt < 2958466) : ∃ T, ddP v s P hd b L T ∧ pC c f n c2 g k T := by
  refine ⟨[35], Or.inr ⟨⟨hb, h7⟩, ?_⟩, hA⟩
  have e : (J 1).toInt = ddN v s P := hJ.1
  unfold ddL
  rw [if_pos (by omega)]
theorem dd_1 (hA : pC c f n c2 g k (drun (dvE (I 4).toInt (I 5).toInt (I 6).toInt (J 1).toInt (J 2).toInt (J 3).toInt hd) L)) (hb : b = 0) (h7 : spW v s ≤ 9999999) (hJ : dtO J (spW v s) (spR v s) P) (hI : cdO I (J 1).toInt) (h9 : (J 1).toInt < 2958466) : ∃ T, ddP v s P hd b L T ∧ pC c f n c2 g k T := by
  refine ⟨_, Or.inr ⟨⟨hb, h7⟩, rfl⟩, pC_e hA ?_⟩
  have e : (J 1).toInt = ddN v s P := hJ.1
  unfold ddL
  rw [if_neg (by omega), hI.1, hI.2.1, hI.2.2, hJ.2.1, hJ.2.2, e]
theorem dG_i {K M : Nat → Int32} {E : Int → Int → List Int} {w : Int} (h : wsO I K M w) : dG c f n c f n E (cs K M (I 1).toInt (I 2).toInt) (drun E (cs K M (I 1).toInt (I 2).toInt)) := ⟨gC_i rfl rfl, h.2⟩
end
