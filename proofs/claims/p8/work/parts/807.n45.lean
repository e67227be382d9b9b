/-! the reference's fraction whole -/
theorem frun_c {A B A2 B2 : Int → Int → List Int} {bl : Int} {U : List (Int × Int) → List Int} {W V : Int} (hA : ∀ c s : Int, 0 ≤ s → s < W → A c s = A2 c s) (hB : ∀ c s : Int, 0 ≤ s → s < V → B c s = B2 c s) : ∀ (l : List (Int × Int)) (a q : Int), a ≤ W → q ≤ V → cK 2 l ≤ a → cK 9 l ≤ q → frun A B bl U a q l = frun A2 B2 bl U a q l
  | [], _, _, _, _, _, _ => rfl
  | p :: l, a, q, ha, hq, h2, h9 => by
    have h2 : (if p.1 = 2 then 1 else 0) + cK 2 l ≤ a := h2
    have h9 : (if p.1 = 9 then 1 else 0) + cK 9 l ≤ q := h9
    have z2 := cK_0 (k := 2) l
    have z9 := cK_0 (k := 9) l
    have ih := fun a q w1 w2 w3 w4 => frun_c (bl := bl) (U := U) hA hB l a q w1 w2 w3 w4
    show frun A B bl U a q ((p.1, p.2) :: l) = frun A2 B2 bl U a q ((p.1, p.2) :: l)
    by_cases k1 : p.1 = 1
    · rw [if_neg (by omega)] at h2 h9
      rw [fr_1 k1, fr_1 k1, ih a q ha hq (by omega) (by omega)]
    by_cases k2 : p.1 = 2
    · rw [if_pos k2] at h2
      rw [if_neg (by omega)] at h9
      rw [fr_2 k2, fr_2 k2, ih (a - 1) q (by omega) hq (by omega) (by omega), hA _ _ (by omega) (by omega)]
    rw [if_neg k2] at h2
    by_cases kb : ¬ bl = 0 ∧ 9 ≤ p.1 ∧ p.1 ≤ 12
    · rw [fr_b kb.2 kb.1, fr_b kb.2 kb.1, ih a q ha hq (by omega) (by split at h9 <;> omega)]
    have kb2 : bl = 0 ∨ ¬ (9 ≤ p.1 ∧ p.1 ≤ 12) := by
      by_cases c : bl = 0
      · exact Or.inl c
      · exact Or.inr (fun d => kb ⟨c, d⟩)
    by_cases k9 : p.1 = 9
    · rw [if_pos k9] at h9
      have b0 : bl = 0 := kb2.resolve_right (fun c => c ⟨by omega, by omega⟩)
      rw [fr_9 k9 b0, fr_9 k9 b0, ih a (q - 1) ha (by omega) (by omega) (by omega), hB _ _ (by omega) (by omega)]
    rw [if_neg k9] at h9
    by_cases k10 : p.1 = 10
    · have b0 : bl = 0 := kb2.resolve_right (fun c => c ⟨by omega, by omega⟩)
      rw [fr_10 k10 b0, fr_10 k10 b0, ih a q ha hq (by omega) (by omega)]
    · rw [fr_n k1 k2 k9 k10 kb2, fr_n k1 k2 k9 k10 kb2, ih a q ha hq (by omega) (by omega)]
/-- the look of a fraction: M1 the whole part, M2 the numerator -/
def fcT (M1 M2 n1 n2 b bl u W V pl : Int) (L : List (Int × Int)) : List Int := fsg b M1 M2 ++ frun (nPl (dgt M1) n1 W 0) (nPl (dgt M2) n2 V 0) bl (uL pl u) W V L
def fcP (v s W V gv pl b : Int) (L : List (Int × Int)) (T : List Int) : Prop :=
  (W = 0 ∧ (∃ n, dnc (spW v s) n ∧ 9 < n) ∧ T = [35]) ∨
  ((W = 0 → spW v s < 1000000000) ∧ ∃ n1 n2 : Int, dnc (fWf W (spW v s) (frE (spR v s) gv pl).1 (frE (spR v s) gv pl).2.1) n1 ∧ dnc (fOf W (spW v s) (frE (spR v s) gv pl).1 (frE (spR v s) gv pl).2.1) n2 ∧ T = fcT (fWf W (spW v s) (frE (spR v s) gv pl).1 (frE (spR v s) gv pl).2.1) (fOf W (spW v s) (frE (spR v s) gv pl).1 (frE (spR v s) gv pl).2.1) n1 n2 b (fBl (fOf W (spW v s) (frE (spR v s) gv pl).1 (frE (spR v s) gv pl).2.1) W) (frE (spR v s) gv pl).2.1 W V pl L)
theorem nPl_w {f : Nat → Int32} {n M c s W : Int} (hj : ∀ j : Nat, (j : Int) < n → (f j).toInt = dgt M j) (h0 : 0 ≤ s) : nPl (whD f) n W 0 c s = nPl (dgt M) n W 0 c s :=
  pls_c h0 (fun q p0 p1 => by
    have := hj q.toNat (by omega)
    unfold whD
    rw [this]; congr 1; omega)
/-- both rows of digits spelled as numbers -/
theorem pfR_T {wf rf : Nat → Int32} {wh mr M1 M2 n1 bl u pl : Int} {L : List (Int × Int)} (h1 : cK 2 L = 0 ∨ (wh = n1 ∧ ∀ j : Nat, (j : Int) < wh → (wf j).toInt = dgt M1 j)) (h2 : ∀ j : Nat, (j : Int) < mr → (rf j).toInt = dgt M2 j) : pfR wf wh rf mr bl u (cK 2 L) (cK 9 L) pl (cK 2 L) (cK 9 L) L = frun (nPl (dgt M1) n1 (cK 2 L) 0) (nPl (dgt M2) mr (cK 9 L) 0) bl (uL pl u) (cK 2 L) (cK 9 L) L := by
  refine frun_c (W := cK 2 L) (V := cK 9 L) (fun c s s0 s1 => ?_) (fun c s s0 s1 => nPl_w h2 s0) L _ _ (Int.le_refl _) (Int.le_refl _) (Int.le_refl _) (Int.le_refl _)
  rcases h1 with h1 | ⟨e, h1⟩
  · omega
  · subst e; exact nPl_w h1 s0
theorem dnc_0 {M n : Int} (h : dnc M n) : (M = 0 ∧ n = 0) ∨ (0 < M ∧ 1 ≤ n) := by
  rcases h with ⟨a, b⟩ | ⟨a, b, _⟩
  · exact Or.inl ⟨a, b⟩
  · exact Or.inr ⟨a, b⟩
section
variable {f g wf rf : Nat → Int32} {n k wh mr v s W V gv pl b o u bl x y bb : Int} {L : List (Int × Int)} {X : List Int}
/-- with places for the whole part -/
theorem fc_1 (ho : o = (frE (spR v s) gv pl).1) (hu : u = (frE (spR v s) gv pl).2.1) (hW : ¬ W = 0) (hW2 : W = cK 2 L) (hW0 : 0 ≤ W) (h1 : whM wf wh (fWf W (spW v s) o u)) (h2 : dnc (fOf W (spW v s) o u) mr) (h2d : ∀ j : Nat, (j : Int) < mr → (rf j).toInt = dgt (fOf W (spW v s) o u) j) (hx : y = fOf W (spW v s) o u) (hbl : (y = 0 ∧ bl = 1) ∨ (¬ y = 0 ∧ bl = 0)) (hX : X = fsg b wh y) (hA : pR f n g k (X ++ pfR wf wh rf mr bl u (cK 2 L) (cK 9 L) pl (cK 2 L) (cK 9 L) L)) : ∃ T, fcP v s (cK 2 L) (cK 9 L) gv pl b L T ∧ pR f n g k T := by
  subst hW2
  refine ⟨_, Or.inr ⟨fun c => absurd c hW, wh, mr, ?_, ?_, rfl⟩, pR_e hA ?_ rfl⟩
  · rw [← ho, ← hu]; exact h1.1.1
  · rw [← ho, ← hu]; exact h2
  · rw [← ho, ← hu, pfR_T (n1 := wh) (Or.inr ⟨rfl, h1.2⟩) h2d, hX, ← hx]
    unfold fcT
    have eb : fBl y (cK 2 L) = bl := by
      unfold fBl
      rcases hbl with ⟨p, q⟩ | ⟨p, q⟩
      · rw [if_pos ⟨p, by omega⟩, q]
      · rw [if_neg (fun c => p c.1), q]
    have ew : fsg b wh y = fsg b (fWf (cK 2 L) (spW v s) o u) y := by
      unfold fsg
      rcases dnc_0 h1.1.1 with ⟨p, q⟩ | ⟨p, q⟩
      · rw [p, q]
      · by_cases c : b = 0
        · rw [if_neg (fun d => d.1 c), if_neg (fun d => d.1 c)]
        · rw [if_pos ⟨c, fun d => by omega⟩, if_pos ⟨c, fun d => by omega⟩]
    rw [eb, ew]
/-- with none -/
theorem fc_0 (ho : o = (frE (spR v s) gv pl).1) (hu : u = (frE (spR v s) gv pl).2.1) (ho0 : 0 ≤ o) (hu0 : 1 ≤ u) (hW : W = 0) (hW2 : W = cK 2 L) (h9 : 0 ≤ spW v s ∧ spW v s < 1000000000) (h2 : dnc (o + u * spW v s) mr) (h2d : ∀ j : Nat, (j : Int) < mr → (rf j).toInt = dgt (o + u * spW v s) j) (hbl : bl = 0) (hX : X = fsg b 0 mr) {n1 : Int} (h1 : dnc (spW v s) n1) (hA : pR f n g k (X ++ pfR wf wh rf mr bl u (cK 2 L) (cK 9 L) pl (cK 2 L) (cK 9 L) L)) : ∃ T, fcP v s (cK 2 L) (cK 9 L) gv pl b L T ∧ pR f n g k T := by
  have e0 : cK 2 L = 0 := by omega
  have eW : fWf (cK 2 L) (spW v s) o u = spW v s := by unfold fWf; rw [if_pos e0]
  have eO : fOf (cK 2 L) (spW v s) o u = o + u * spW v s := by unfold fOf; rw [if_pos e0]
  refine ⟨_, Or.inr ⟨fun _ => h9.2, n1, mr, ?_, ?_, rfl⟩, pR_e hA ?_ rfl⟩
  · rw [← ho, ← hu, eW]; exact h1
  · rw [← ho, ← hu, eO]; exact h2
  · rw [← ho, ← hu, eW, eO, pfR_T (M1 := spW v s) (n1 := n1) (Or.inl e0) h2d, hX]
    unfold fcT
    have eb : fBl (o + u * spW v s) (cK 2 L) = bl := by
      unfold fBl; rw [if_neg (by omega), hbl]
    have pos := Int.mul_nonneg (show 0 ≤ u by omega) h9.1
    have ew : fsg b 0 mr = fsg b (spW v s) (o + u * spW v s) := by
      unfold fsg
      by_cases c : b = 0
      · rw [if_neg (fun d => d.1 c), if_neg (fun d => d.1 c)]
      · rcases dnc_0 h2 with ⟨p, q⟩ | ⟨p, q⟩
        · have z : spW v s = 0 := by
            rcases Int.lt_or_le 0 (spW v s) with l | l
            · have := Int.mul_pos (show 0 < u by omega) l
              omega
            · omega
          rw [p, q, z]
        · rw [if_pos ⟨c, fun d => by omega⟩, if_pos ⟨c, fun d => by omega⟩]
    rw [eb, ew]
theorem fc_9 {r : Int} (hW : W = 0) (hW2 : W = cK 2 L) (h1 : whM wf r (spW v s)) (h9 : ¬ r ≤ 9) (hA : pR f n g k [35]) : ∃ T, fcP v s (cK 2 L) (cK 9 L) gv pl b L T ∧ pR f n g k T := ⟨[35], Or.inl ⟨by omega, ⟨r, h1.1.1, by omega⟩, rfl⟩, hA⟩
end
theorem fWf_n {W V o u : Int} (hW : ¬ W = 0) (h : ¬ o = u) : fWf W V o u = V ∧ fOf W V o u = o := by unfold fWf fOf; rw [if_neg hW, if_neg hW, if_neg h, if_neg h]; exact ⟨rfl, rfl⟩
theorem fWf_y {W V o u : Int} (hW : ¬ W = 0) (h : o = u) : fWf W V o u = V + 1 ∧ fOf W V o u = 0 := by unfold fWf fOf; rw [if_neg hW, if_neg hW, if_pos h, if_pos h]; exact ⟨rfl, rfl⟩
/-! states in the reference's fraction -/
theorem vO_17 {g : Nat → Int32} {c p : Int} (h : vO g c p) : 0 ≤ dV g c.toNat ∧ dV g c.toNat < 100000000000000000 := by
  have b := dV_bd c.toNat h.2.1
  have := p10_le (show c.toNat ≤ 17 by have := h.1; omega)
  have e : (10 : Int) ^ 17 = 100000000000000000 := by decide
  exact ⟨b.1, by omega⟩
theorem stF_b {K A B Q : Nat → Int32} {x e pl gv : Int} (h : stF K A B Q x e pl gv) : (0 ≤ gv ∧ gv ≤ 999) ∧ 0 ≤ pl ∧ pl ≤ 3 := by
  obtain ⟨j, a, b, c⟩ := h.2
  have := (h.1 j a b).2 c
  omega
def fga (gv : Int) : Int := if 0 < gv then gv else 1
theorem frG_a {gv pl a t : Int} (h : frG gv pl a t) : a = fga gv := by
  unfold fga
  rcases h with h | h
  · rw [if_pos h.1]; exact h.2.2.1
  · rw [if_neg (by omega)]; exact h.2.1
theorem spR_z {s : Int} : spR 0 s = 0 := by
  unfold spR
  split
  · rw [Int.zero_emod]
    unfold rdM
    split
    · rw [Int.zero_mul]
    split
    · rfl
    · unfold rnd; rw [Int.zero_ediv, Int.zero_ediv]; rfl
  · rfl
theorem tk_sp {g h : Nat → Int32} {m t c p : Int} (hT : tkO g h m c t p) (hv : vO h c p) : spR (dV g m.toNat) (t - m) = spR (dV h c.toNat) (p - c) := by
  have ev : dV g m.toNat = dV h c.toNat := by rw [hT.1]; exact dV_c _ (fun j hj => hT.2.2 j (by have := hv.1; omega))
  rw [ev]
  rcases hT.2.1 with ⟨a, b⟩ | ⟨a, b⟩
  · rw [a]; show spR 0 _ = spR 0 _; rw [spR_z, spR_z]
  · rw [hT.1, b]
def fcI (g : Nat → Int32) (m t k r : Int) : Prop := r = spW (fcF (dV g m.toNat) (t - m)) (t - m + k - 1) ∧ (1 ≤ k ∧ 0 ≤ r ∧ r < 10 ^ (k - 1).toNat)
theorem fcI_b {g : Nat → Int32} {m t k r : Int} (h : fcI g m t k r) (hk : k ≤ 16) : 0 ≤ r ∧ r < 1000000000000000 := by
  have := p10_le (show (k - 1).toNat ≤ 15 by omega)
  have e : (10 : Int) ^ 15 = 1000000000000000 := by decide
  have := h.2
  omega
theorem fcI_i {g h : Nat → Int32} {m t c p k r : Int} (hT : tkO g h m c t p) (hv : vO h c p) (hk : k = 1) (hr : r = 0) : fcI g m t k r := by
  have td := tk_d hv hT.2.2 hT.1
  have b := dV_bd m.toNat td.1
  have e1 := hT.1
  have e2 := hv.1
  have := p10_le (show m.toNat ≤ 17 by omega)
  have e : (10 : Int) ^ 17 = 100000000000000000 := by decide
  have z := (fcF_b (p := t - m) b.1 (by omega)).2.2
  subst hk; subst hr
  refine ⟨?_, by decide, by decide, by decide⟩
  rw [show t - m + 1 - 1 = t - m by omega, z]
theorem fcI_s {g h : Nat → Int32} {m t c p k k2 r r2 x : Int} (hT : tkO g h m c t p) (hv : vO h c p) (H : fcI g m t k r) (hx : x = rwD g t m (-k)) (hr2 : r2 = 10 * r + x) (hk2 : k2 = k + 1) : fcI g m t k2 r2 := by
  have td := tk_d hv hT.2.2 hT.1
  have e1 := hT.1
  have e2 := hv.1
  have xb := rwD_b (t := t) (k := -k) td.1
  obtain ⟨a, b⟩ := H
  refine ⟨fcF_s td.1 (by omega) a b.1 hx hr2 hk2, ?_⟩
  rw [show (k2 - 1).toNat = (k - 1).toNat + 1 by omega, Int.pow_succ]
  omega
theorem fcI_r {g h : Nat → Int32} {m t c p k r r2 x : Int} (hT : tkO g h m c t p) (hv : vO h c p) (H : fcI g m t k r) (hk : k = 16) (hx : x = rwD g t m (-16)) (hc : (5 ≤ x ∧ r2 = r + 1) ∨ (¬ 5 ≤ x ∧ r2 = r)) : r2 = spR (dV h c.toNat) (p - c) := by
  have td := tk_d hv hT.2.2 hT.1
  have b := dV_bd m.toNat td.1
  have e1 := hT.1
  have e2 := hv.1
  have := p10_le (show m.toNat ≤ 17 by omega)
  have e : (10 : Int) ^ 17 = 100000000000000000 := by decide
  subst hk
  rw [← tk_sp hT hv]
  exact fcF_r td.1 (by omega) (by omega) H.1 hx hc
def pwE (x k : Int) : Prop := k = 10 ^ x.toNat ∧ 0 ≤ x
theorem pwE_b {x k : Int} (h : pwE x k) (h3 : x ≤ 3) : 1 ≤ k ∧ k ≤ 1000 := by
  have := p10_3 h.2 h3 h.1; omega
theorem pwE_s {x k y k2 : Int} (h : pwE x k) (hk : k2 = 10 * k) (hy : y = x + 1) : pwE y k2 := ⟨p10_s h.1 h.2 hk hy, by have := h.2; omega⟩
theorem pwE_g {K A B Q : Nat → Int32} {x e pl gv : Int} {y : Int32} {a t k z : Int} (h : stX K A B Q x e pl gv y) (hA : ¬ (A y.toNatClampNeg).toInt = 1) (hk : pwE z k) (hz : z = (B y.toNatClampNeg).toInt) (ha : a = 1) (ht : t = k - 1) : frG gv pl a t := frG_0 h hA (by rw [← hz]; exact hk.1) ha ht
/-- the whole part counted: digits x down to 0 are still to come -/
def fcV (M x v : Int) : Prop := v = M / 10 ^ (x + 1).toNat
theorem fcV_b {M x v : Int} (h : fcV M x v) (h0 : 0 ≤ M) (h1 : M < 1000000000) : 0 ≤ v ∧ v < 1000000000 := by
  unfold fcV at h
  rw [h]
  exact ⟨Int.ediv_nonneg h0 (Int.le_of_lt (p10 _)), Int.lt_of_le_of_lt (Int.ediv_le_self _ h0) h1⟩
/-- the fraction found -/
def fcC (wf : Nat → Int32) (wh W M o y d u : Int) : Prop := whM wf wh (fWf W M o d) ∧ y = fOf W M o d ∧ d = u ∧ ¬ W = 0 ∧ (0 ≤ y ∧ y ≤ 999)
theorem fcC_b {wf : Nat → Int32} {wh W M o y d u : Int} (h : fcC wf wh W M o y d u) : (0 ≤ wh ∧ wh ≤ 480) ∧ d = u ∧ 0 ≤ y ∧ y ≤ 999 := ⟨h.1.1.2.2, h.2.2.1, h.2.2.2.2⟩
theorem fcC_n {wf : Nat → Int32} {wh W M o y d u : Int} (h : whM wf wh M) (hd : d = u) (hW : ¬ W = 0) (hy : y = o) (hn : ¬ y = d) (h0 : 0 ≤ o) (h9 : o ≤ 999) : fcC wf wh W M o y d u := by
  have e := fWf_n (V := M) hW (show ¬ o = d by omega)
  exact ⟨by rw [e.1]; exact h, by rw [e.2]; exact hy, hd, hW, by omega⟩
theorem fcC_y {wf : Nat → Int32} {wh W M o y d u : Int} (h : whM wf wh (M + 1)) (hd : d = u) (hW : ¬ W = 0) (hy : y = 0) (hn : o = d) : fcC wf wh W M o y d u := by
  have e := fWf_y (V := M) hW hn
  exact ⟨by rw [e.1]; exact h, by rw [e.2]; exact hy, hd, hW, by omega⟩
theorem crI_y {f : Nat → Int32} {M : Int} {w k z : Int32} {n2 : Int} (h : crI f w.toInt M k.toInt) (hn : k.toInt = w.toInt) (hz : z.toInt = 0) (hn2 : n2 = w.toInt + 1) (hb : w.toInt < 480) : whM (upd (upd f w.toNatClampNeg z) k.toNatClampNeg (upd f w.toNatClampNeg z k.toNatClampNeg + 1)) n2 (M + 1) := by
  have e : k.toNatClampNeg = w.toNatClampNeg := by rw [zcl, zcl, hn]
  refine crI_x h hn.symm (fun j hj => ?_) ?_ hn2 (by omega)
  · rw [pk_un (show j ≠ w.toNatClampNeg by rw [zcl]; omega)]
  · rw [e, pk_us, zadd1 (by rw [hz]; decide) (by rw [hz]; decide), hz]; rfl
theorem crI_b {f : Nat → Int32} {n M k : Int} (h : crI f n M k) : 0 ≤ k ∧ k ≤ n ∧ n ≤ 480 := h.1
theorem crI_9 {f : Nat → Int32} {n M : Int} {k : Int32} (h : crI f n M k.toInt) (hn : ¬ n ≤ k.toInt) : 0 ≤ (f k.toNatClampNeg).toInt ∧ (f k.toNatClampNeg).toInt ≤ 9 := by
  obtain ⟨a, _, _, c⟩ := h
  rw [c k.toNatClampNeg (by rw [zcl]; omega)]
  split
  · decide
  · exact dgt_b
theorem dnc_le {M n : Int} {k : Nat} (h : dnc M n) (hM : M < 10 ^ k) : n ≤ k := by
  rcases h with ⟨_, b⟩ | ⟨a, b, c, d⟩
  · omega
  · rcases Int.lt_or_le (k : Int) n with q | q
    · have := p10_le (show k ≤ (n - 1).toNat by omega); omega
    · exact q
theorem wI_e {v x k : Int} {f : Nat → Int32} (h : wI v f k x) (hv : 0 ≤ v) (h1 : v < 10000000000000) (hx : x ≤ 0) : (dnc v k ∧ 0 ≤ k ∧ k ≤ 13) ∧ (∀ j : Nat, (j : Int) < k → (f j).toInt = dgt v j) ∧ ∀ j : Nat, (j : Int) < k → 0 ≤ (f j).toInt ∧ (f j).toInt ≤ 9 := by
  have q := wI_x h hv hx
  have := dnc_le (k := 13) q.1 (by have e : (10 : Int) ^ 13 = 10000000000000 := by decide
                                   omega)
  refine ⟨⟨q.1, h.1, by omega⟩, q.2, fun j hj => by rw [q.2 j hj]; exact dgt_b⟩
/-- the state when there is no place for the whole part -/
def fcD (rf : Nat → Int32) (k x M o u W : Int) : Prop := wI (o + u * M) rf k x ∧ W = 0 ∧ (∃ n, dnc M n)
theorem fcD_b {rf : Nat → Int32} {k x M o u W : Int} (h : fcD rf k x M o u W) (hM : 0 ≤ M) (hM2 : M < 1000000000) (ho : 0 ≤ o) (ho2 : o ≤ 999) (hu : 0 ≤ u) (hu2 : u ≤ 999) : 0 ≤ x ∧ W = 0 ∧ 0 ≤ k ∧ 0 ≤ o + u * M ∧ o + u * M < 10000000000000 := by
  have a := Int.mul_nonneg hu hM
  have b : u * M ≤ 999 * 1000000000 := Int.le_trans (Int.mul_le_mul_of_nonneg_right hu2 hM) (Int.mul_le_mul_of_nonneg_left (by omega) (by decide))
  exact ⟨wI_b h.1 (by omega), h.2.1, h.1.1, by omega, by omega⟩
theorem fcD_i {f rf : Nat → Int32} {n k x v M o u W z : Int} (hw : whM f n M) (hW : W = 0) (hv : fcV M z v) (hz : z = -1) (hx : x = v * u + o) (hk : k = 0) : fcD rf k x M o u W := by
  have e := whM_z hv hz
  refine ⟨wI_i ?_ hk, hW, ⟨n, hw.1.1⟩⟩
  rw [hx, e, Int.mul_comm, Int.add_comm]
theorem fcD_s {rf : Nat → Int32} {x M o u W : Int} {k r : Int32} {y2 k2 : Int} (h : fcD rf k.toInt x M o u W) (hv : 0 ≤ o + u * M) (hx : ¬ x ≤ 0) (hr : r.toInt = x % 10) (hy : y2 = x / 10) (hk : k2 = k.toInt + 1) : fcD (upd rf k.toNatClampNeg r) k2 y2 M o u W := ⟨wI_s2 h.1 hv hx hr hy hk, h.2⟩
theorem zl_rem10 {x : Int64} (h : 0 ≤ x.toInt) : ((x - x / 10 * 10).toInt32).toInt = x.toInt % 10 := by
  have l := zl_lost (a := x) (b := 10) (by omega) (by decide) (by decide)
  simp only [Int64.reduceToInt] at l
  rw [zl_i32 (by omega) (by omega), l.1]
  omega
