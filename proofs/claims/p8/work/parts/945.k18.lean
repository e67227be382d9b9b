/-! one item in the reference -/
theorem kyf {f : Nat → Int32} {e : Int} {x : Int32} (h : x.toInt < e) : ych f e x.toInt = (f x.toNatClampNeg).toInt := ych_f h
theorem kCl_q {f : Nat → Int32} {e p q r : Int} (hc : ych f e p = 34) (hq : yQ f e p q) (hr : r = q - p) : kCl f e p r := Or.inl ⟨hc, q, hq, hr⟩
theorem kCl_p {f : Nat → Int32} {e p r : Int} (hc : ych f e p = 92 ∨ ych f e p = 95 ∨ ych f e p = 42) (he : p + 1 < e) (hr : r = 2) : kCl f e p r := Or.inr (Or.inl ⟨hc, Or.inl ⟨he, hr⟩⟩)
theorem kCl_c {f : Nat → Int32} {e p c r : Int} (h : c = ycol f e p) (h0 : 0 < c) (hr : r = c) : kCl f e p r := by
  subst h; subst hr; exact Or.inr (Or.inr (Or.inl ⟨ycol_91 h0, kCo_ycol⟩))
theorem kCl_s {f : Nat → Int32} {e p r : Int} (hs : kSg (ych f e p)) (hr : r = 1) : kCl f e p r := by
  refine Or.inr (Or.inr (Or.inr ⟨?_, Or.inl ⟨hs, hr⟩⟩)); unfold kSg at hs; omega
theorem kCl_n {f : Nat → Int32} {e p c r : Int} (h34 : ¬ ych f e p = 34) (hp : ¬ ((ych f e p = 92 ∨ ych f e p = 95 ∨ ych f e p = 42) ∧ p + 1 < e)) (hc : c = ycol f e p) (h0 : c = 0) (hs : ¬ kSg (ych f e p)) (hr : r = 0) : kCl f e p r := by
  subst hr
  by_cases hpr : ych f e p = 92 ∨ ych f e p = 95 ∨ ych f e p = 42
  · exact Or.inr (Or.inl ⟨hpr, Or.inr ⟨fun q => hp ⟨hpr, q⟩, rfl⟩⟩)
  by_cases h91 : ych f e p = 91
  · exact Or.inr (Or.inr (Or.inl ⟨h91, by have := kCo_ycol (f := f) (e := e) (p := p); rw [← hc, h0] at this; exact this⟩))
  · exact kCl_0 h34 (by omega) (by omega) (by omega) h91 hs
theorem kDn_e2 {f : Nat → Int32} {e p x r : Int} (h : ∀ j : Int, 0 ≤ j → j < x → 48 ≤ ych f e (p + j) ∧ ych f e (p + j) ≤ 57) (h0 : 0 ≤ x) (h3 : x = 3) (hr : r = x) : kDn f e p r := by subst hr; exact ⟨h0, by omega, h, Or.inl h3⟩
theorem kDn_x2 {f : Nat → Int32} {e p x r : Int} (h : ∀ j : Int, 0 ≤ j → j < x → 48 ≤ ych f e (p + j) ∧ ych f e (p + j) ≤ 57) (h0 : 0 ≤ x) (h3 : x ≤ 3) (hr : r = x) (hx : ¬ (48 ≤ ych f e (p + x) ∧ ych f e (p + x) ≤ 57)) : kDn f e p r := by subst hr; exact ⟨h0, h3, h, Or.inr hx⟩
theorem kPw_na {f : Nat → Int32} {e p la s6 s7 s8 r k : Int} (hb : kI23 k la) (h : ¬ (k = 2 ∨ k = 3) ∨ ¬ (s6 = 0 ∧ s7 ≤ 0 ∧ s8 ≤ 0) ∨ ¬ (ych f e (p + 1) = 43 ∨ ych f e (p + 1) = 45)) (hr : r = 0) : kPw f e p la s6 s7 s8 r := by
  refine Or.inr ⟨fun ⟨a, b, c, _⟩ => ?_, hr⟩
  have := hb.2 a; omega
theorem kPw_nb {f : Nat → Int32} {e p la s6 s7 s8 r c : Int} (hc : c = ych f e (p + 2)) (h : ¬ kPl c) (hr : r = 0) : kPw f e p la s6 s7 s8 r := Or.inr ⟨fun ⟨_, _, _, d⟩ => h (by rw [hc]; exact d), hr⟩
theorem kPw_yb {f : Nat → Int32} {e p la s6 s7 s8 r n k c : Int} (hb : kI23 k la) (hc : c = ych f e (p + 2)) (hl : kPl c) (hn : kPn f e (p + 2) n) (h : (k = 2 ∨ k = 3) ∧ (s6 = 0 ∧ s7 ≤ 0 ∧ s8 ≤ 0) ∧ (ych f e (p + 1) = 43 ∨ ych f e (p + 1) = 45)) (hr : r = 2 + n) : kPw f e p la s6 s7 s8 r := by
  have := kPn_pos hn (by rw [← hc]; exact hl)
  exact kPw_y2 hb hn h (by omega) hr
theorem kPw_r {f : Nat → Int32} {e p la s6 s7 s8 r : Int} (h : kPw f e p la s6 s7 s8 r) : 0 ≤ r := by
  rcases h with ⟨_, _, _, _, n, hn, hr⟩ | ⟨_, hr⟩
  · have := hn.1; omega
  · omega
theorem kFr_na {f : Nat → Int32} {e p la s5 s6 s7 s8 r k : Int} (hb : kI2 k la) (h : ¬ (k = 2 ∧ (s6 = 0 ∧ s7 ≤ 0 ∧ s8 ≤ 0) ∧ s5 = 0)) (hr : r = 0) : kFr f e p la s5 s6 s7 s8 r := by
  refine Or.inr ⟨fun ⟨a, b, c, _⟩ => h ⟨hb.2 a, b, c⟩, hr⟩
theorem kFr_nb {f : Nat → Int32} {e p la s5 s6 s7 s8 r c : Int} (hc : c = ych f e (p + 1)) (h : ¬ kPl c) (h2 : ¬ (49 ≤ c ∧ c ≤ 57)) (hr : r = 0) : kFr f e p la s5 s6 s7 s8 r := by
  subst hc
  exact Or.inr ⟨fun ⟨_, _, _, d⟩ => d.elim h h2, hr⟩
def kFc (f : Nat → Int32) (e p la s5 s6 s7 s8 g : Int) : Prop := (la = 2 ∧ (s6 = 0 ∧ s7 ≤ 0 ∧ s8 ≤ 0) ∧ s5 = 0) ∧ ((g = 0 ∧ kPl (ych f e (p + 1))) ∨ (¬ g = 0 ∧ 49 ≤ ych f e (p + 1) ∧ ych f e (p + 1) ≤ 57))
theorem kFc_0 {f : Nat → Int32} {e p la s5 s6 s7 s8 g k c : Int} (hb : kI2 k la) (hc : c = ych f e (p + 1)) (h : k = 2 ∧ (s6 = 0 ∧ s7 ≤ 0 ∧ s8 ≤ 0) ∧ s5 = 0) (hl : kPl c) (hg : g = 0) : kFc f e p la s5 s6 s7 s8 g := by
  subst hc; exact ⟨⟨hb.1 h.1, h.2⟩, Or.inl ⟨hg, hl⟩⟩
theorem kFc_1 {f : Nat → Int32} {e p la s5 s6 s7 s8 g k c : Int} (hb : kI2 k la) (hc : c = ych f e (p + 1)) (h : k = 2 ∧ (s6 = 0 ∧ s7 ≤ 0 ∧ s8 ≤ 0) ∧ s5 = 0) (hl : 49 ≤ c ∧ c ≤ 57) (hg : ¬ g = 0) : kFc f e p la s5 s6 s7 s8 g := by
  subst hc; exact ⟨⟨hb.1 h.1, h.2⟩, Or.inr ⟨hg, hl⟩⟩
theorem kFc_y {f : Nat → Int32} {e p la s5 s6 s7 s8 g n r : Int} (h : kFc f e p la s5 s6 s7 s8 g) (hn : (g = 0 ∧ kPn f e (p + 1) n) ∨ (¬ g = 0 ∧ kDn f e (p + 1) n)) (hr : r = 1 + n) : kFr f e p la s5 s6 s7 s8 r := by
  obtain ⟨ha, h⟩ := h
  refine Or.inl ⟨ha, ?_⟩
  rcases h with ⟨a, b⟩ | ⟨a, b⟩ <;> rcases hn with ⟨c, d⟩ | ⟨c, d⟩
  · exact Or.inl ⟨b, n, d, hr⟩
  · exact absurd a c
  · exact absurd c a
  · exact Or.inr ⟨b, n, d, hr⟩
theorem kGa_0 {f : Nat → Int32} {e p n g : Int} (h : (g = 0 ∧ kPn f e p n) ∨ (¬ g = 0 ∧ kDn f e p n)) : 0 ≤ n ∧ n ≤ 3 := by
  rcases h with ⟨_, h⟩ | ⟨_, h⟩
  · exact ⟨h.1, h.2.1⟩
  · exact ⟨h.1, h.2.1⟩
theorem kFr_r {f : Nat → Int32} {e p la s5 s6 s7 s8 r : Int} (h : kFr f e p la s5 s6 s7 s8 r) : 0 ≤ r := by
  rcases h with ⟨_, ⟨_, n, hn, hr⟩ | ⟨_, n, hn, hr⟩⟩ | ⟨_, hr⟩
  · have := hn.1; omega
  · have := hn.1; omega
  · omega
/-! a number's item, flags 0 or 1 -/
theorem rC_ad {g h : Nat → Int32} {x k c : Int32} {m : Int} (h0 : 0 ≤ x.toInt) (h1 : x.toInt ≤ 100) (hm : m = x.toInt + 1) : rC (upd g (160 + x).toNatClampNeg k) (upd h (160 + x).toNatClampNeg c) m = rcls k.toInt c.toInt := rC_add h0 h1 hm rfl
theorem rC_z {g h : Nat → Int32} {x k c : Int32} {m : Int} (h0 : 0 ≤ x.toInt) (h1 : x.toInt ≤ 100) (hm : m = x.toInt + 1) (hk : k.toInt = 0 ∨ k.toInt = 1 ∨ k.toInt = 4 ∨ k.toInt = 6 ∨ k.toInt = 7 ∨ k.toInt = 13 ∨ k.toInt = 14 ∨ k.toInt = 15 ∨ k.toInt = 16) : rC (upd g (160 + x).toNatClampNeg k) (upd h (160 + x).toNatClampNeg c) m = 0 := by
  rw [rC_ad h0 h1 hm]; have := rcls_i k.toInt c.toInt; omega
theorem rC_2 {g h : Nat → Int32} {x k c : Int32} {m v : Int} (h0 : 0 ≤ x.toInt) (h1 : x.toInt ≤ 100) (hm : m = x.toInt + 1) (hk : (k.toInt = 2 ∧ v = 2) ∨ (k.toInt = 3 ∧ v = 3) ∨ (k.toInt = 5 ∧ v = 6)) : rC (upd g (160 + x).toNatClampNeg k) (upd h (160 + x).toNatClampNeg c) m = v := by
  rw [rC_ad h0 h1 hm]; have := rcls_i k.toInt c.toInt; omega
theorem rC_s {g h : Nat → Int32} {x k c : Int32} {m : Int} (h0 : 0 ≤ x.toInt) (h1 : x.toInt ≤ 100) (hm : m = x.toInt + 1) (hk : k.toInt = 11 ∨ k.toInt = 12) : rC (upd g (160 + x).toNatClampNeg k) (upd h (160 + x).toNatClampNeg c) m = (if c.toInt = 115 then 25 else 0) := by
  rw [rC_ad h0 h1 hm]; have := rcls_i k.toInt c.toInt; split <;> omega
theorem rNu_pl {f : Nat → Int32} {e p la pt pa co pe r kd c pt' pa' co' pe' x v : Int} (hx : x = ysm (ych f e p)) (hc : kPl x) (hv : c = v) (h : ((pt = 1 ∧ r = 1 ∧ v = 3) ∨ (pt = 0 ∧ pa = 0 ∧ r = 1 ∧ v = 2)) ∧ kd = 2 ∧ pt' = pt ∧ pa' = pa ∧ co' = co ∧ pe' = pe) : kNu f e p la pt pa co pe r kd c pt' pa' co' pe' := by
  subst hx; subst hv; exact Or.inl ⟨hc, by omega, fun _ => by omega⟩
theorem rNu_w1 {f : Nat → Int32} {e p la pt pa co pe x : Int} (hx : x = ysm (ych f e p)) (hc : kPl x) (h : pt = 0 ∧ pa = 1) : kNu f e p la pt pa co pe 0 0 0 0 0 0 0 := by
  subst hx; exact Or.inl ⟨hc, by omega, fun _ => by omega⟩
theorem rNu_pt {f : Nat → Int32} {e p la pt pa co pe r kd c pt' pa' co' pe' x : Int} (hx : x = ysm (ych f e p)) (hc : x = 46) (hv : c = 0) (h : pt = 0 ∧ r = 1 ∧ pt' = 1 ∧ kd = 2 ∧ pa' = pa ∧ co' = co ∧ pe' = pe) : kNu f e p la pt pa co pe r kd c pt' pa' co' pe' := by
  subst hx; exact Or.inr (Or.inl ⟨hc, by omega, fun _ => by omega⟩)
theorem rNu_w2 {f : Nat → Int32} {e p la pt pa co pe x : Int} (hx : x = ysm (ych f e p)) (hc : x = 46) (h : pt = 1) : kNu f e p la pt pa co pe 0 0 0 0 0 0 0 := by
  subst hx; exact Or.inr (Or.inl ⟨hc, by omega, fun _ => by omega⟩)
theorem rNu_co {f : Nat → Int32} {e p la pt pa co pe r kd c pt' pa' co' pe' x : Int} (hx : x = ysm (ych f e p)) (hc : x = 44) (h : ((la = 2 ∧ kPl (ych f e (p + 1))) ∧ c = 0 ∧ pa' = pa) ∨ ((la = 2 ∧ ¬ kPl (ych f e (p + 1)) ∨ la = 6) ∧ c = 6 ∧ pa' = 1)) (h2 : r = 1 ∧ kd = 2 ∧ co' = 1 ∧ pt' = pt ∧ pe' = pe) : kNu f e p la pt pa co pe r kd c pt' pa' co' pe' := by
  subst hx
  refine Or.inr (Or.inr (Or.inl ⟨hc, ?_, fun _ => by omega⟩))
  rcases h with ⟨⟨a, b⟩, h⟩ | ⟨a, h⟩
  · exact Or.inl ⟨a, b, by omega⟩
  · exact Or.inr (Or.inl ⟨a, by omega⟩)
theorem rNu_w3 {f : Nat → Int32} {e p la pt pa co pe x : Int} (hx : x = ysm (ych f e p)) (hc : x = 44) (h : ¬ la = 2 ∧ ¬ la = 6) : kNu f e p la pt pa co pe 0 0 0 0 0 0 0 := by
  subst hx; exact Or.inr (Or.inr (Or.inl ⟨hc, Or.inr (Or.inr ⟨h.1, h.2, rfl⟩), fun _ => by omega⟩))
theorem rNu_pc {f : Nat → Int32} {e p la pt pa co pe r kd c pt' pa' co' pe' x : Int} (hx : x = ysm (ych f e p)) (hc : x = 37) (hv : c = 0) (h : r = 1 ∧ kd = 2 ∧ pt' = pt ∧ pa' = pa ∧ co' = co ∧ pe' = 1) : kNu f e p la pt pa co pe r kd c pt' pa' co' pe' := by
  subst hx; exact Or.inr (Or.inr (Or.inr (Or.inl ⟨hc, by omega⟩)))
theorem rNu_pw {f : Nat → Int32} {e p la pt pa co pe r kd c pt' pa' co' pe' x : Int} (hx : x = ysm (ych f e p)) (hc : x = 101) (h : kPw f e p la co 0 pe r) (hp : 0 ≤ pe) (h0 : r ≤ 0 ∨ kd = 3) : kNu f e p la pt pa co pe r kd c pt' pa' co' pe' := by
  subst hx
  refine Or.inr (Or.inr (Or.inr (Or.inr (Or.inl ⟨hc, ?_⟩))))
  rcases h with ⟨a, ⟨b1, b2, b3⟩, d, i, n, hn, hr⟩ | ⟨a, hr⟩
  · exact Or.inl ⟨a, b1, by omega, d, i, ⟨n, hn, hr⟩, by have := hn.1; omega⟩
  · exact Or.inr ⟨fun ⟨q1, q2, q3, q4, q5⟩ => a ⟨q1, ⟨q2, by omega, by omega⟩, q4, q5⟩, hr⟩
theorem rNu_fr {f : Nat → Int32} {e p la pt pa co pe r kd c pt' pa' co' pe' x : Int} (hx : x = ysm (ych f e p)) (hc : x = 47) (h : kFr f e p la pt co 0 pe r) (hp : 0 ≤ pe) (h0 : r ≤ 0 ∨ kd = 4) : kNu f e p la pt pa co pe r kd c pt' pa' co' pe' := by
  subst hx
  refine Or.inr (Or.inr (Or.inr (Or.inr (Or.inr (Or.inl ⟨hc, ?_⟩)))))
  rcases h with ⟨⟨a, ⟨b1, b2, b3⟩, d⟩, i⟩ | ⟨a, hr⟩
  · refine Or.inl ⟨a, b1, by omega, d, ?_, i⟩
    rcases i with ⟨_, n, hn, hr⟩ | ⟨_, n, hn, hr⟩
    · have := hn.1; omega
    · have := hn.1; omega
  · exact Or.inr ⟨fun ⟨q1, q2, q3, q4, q5⟩ => a ⟨q1, ⟨q2, by omega, by omega⟩, q4, q5⟩, hr⟩
theorem rNu_w7 {f : Nat → Int32} {e p la pt pa co pe x : Int} (hx : x = ysm (ych f e p)) (hl : ¬ kPl x) (hc : ¬ x = 46 ∧ ¬ x = 44 ∧ ¬ x = 37 ∧ ¬ x = 101 ∧ ¬ x = 47) : kNu f e p la pt pa co pe 0 0 0 0 0 0 0 := by
  subst hx; exact Or.inr (Or.inr (Or.inr (Or.inr (Or.inr (Or.inr ⟨⟨hl, hc⟩, rfl⟩)))))
theorem rNu_no {f : Nat → Int32} {e p la pt pa co pe r kd c pt' pa' co' pe' x : Int} (hx : x = ysm (ych f e p)) (hl : ¬ kPl x) (hc : ¬ x = 46 ∧ ¬ x = 44 ∧ ¬ x = 37 ∧ ¬ x = 101 ∧ ¬ x = 47) (h : r = 0) : kNu f e p la pt pa co pe r kd c pt' pa' co' pe' := by
  subst hx; exact Or.inr (Or.inr (Or.inr (Or.inr (Or.inr (Or.inr ⟨⟨hl, hc⟩, h⟩)))))
theorem rDa_pl {f : Nat → Int32} {e p la r c n x : Int} (hx : x = ysm (ych f e p)) (hw : ¬ kRw x) (hBr : kBr f e p n) (hn : n ≤ 0) (ha : ¬ ySt f e p 418443653229) (hb : ¬ ySt f e p 6369136) (h46 : ¬ x = 46 ∨ ¬ (la = 25 ∧ ych f e (p + 1) = 48)) (h : (r = 1 ∧ c = 0 ∧ kLit (ych f e p)) ∨ (r = 0 ∧ ¬ kLit (ych f e p))) : kDa f e p la r c := by
  subst hx
  rcases h with ⟨h1, h2, h⟩ | ⟨h1, h⟩
  · have hs := ysm_46 (c := ych f e p) (by unfold kLit at h; omega)
    by_cases q : ych f e p = 46
    · exact Or.inr (Or.inr (Or.inr (Or.inl ⟨q, Or.inr ⟨h46.resolve_left (by omega), h1⟩, fun _ => h2⟩)))
    · exact Or.inr (Or.inr (Or.inr (Or.inr (Or.inl ⟨by unfold kLit at h; omega, h1, h2⟩))))
  · by_cases q : ych f e p = 91
    · exact Or.inr (Or.inl ⟨q, n, hBr, Or.inr ⟨by omega, h1⟩, fun _ => by omega⟩)
    by_cases q2 : ysm (ych f e p) = 97
    · exact Or.inr (Or.inr (Or.inl ⟨q2, Or.inr (Or.inr ⟨fun k => ha (kw_am.2 k), fun k => hb (kw_ap.2 k), h1⟩), fun _ => by omega⟩))
    · exact Or.inr (Or.inr (Or.inr (Or.inr (Or.inr ⟨⟨hw, q, q2, h⟩, h1⟩))))
theorem rDa_br {f : Nat → Int32} {e p la r c n : Int} (hn : kBr f e p n) (h0 : 0 < n) {y : Int} (hy : y = ysm (ych f e (p + 1))) (hv : c = (if y = 115 then 25 else 0)) (h : n ≤ 2 ∧ r = n + 2) : kDa f e p la r c := by
  subst hy; exact kDa_br (kBr_co hn h0).1 hn (Or.inl ⟨by omega, h.1, h.2, hv⟩)
theorem rDa_bw {f : Nat → Int32} {e p la n : Int} (hn : kBr f e p n) (h0 : 2 < n) : kDa f e p la 0 0 := kDa_br (kBr_co hn (by omega)).1 hn (Or.inr ⟨by omega, rfl⟩)
theorem rDa_xx {f : Nat → Int32} {e p la r c n : Int} (hn : kBr f e p n) (h0 : 0 < n) (h : (n ≤ 2 ∧ r = n + 2 ∧ c = (if ysm (ych f e (p + 1)) = 115 then 25 else 0)) ∨ (2 < n ∧ r = 0)) : kDa f e p la r c := kDa_br (kBr_co hn h0).1 hn (by rcases h with ⟨a, b, d⟩ | ⟨a, b⟩; exact Or.inl ⟨by omega, a, b, d⟩; exact Or.inr ⟨by omega, b⟩)
theorem k_am0 {f : Nat → Int32} {e p : Int} (h : kW f e p k_am) : ysm (ych f e p) = 97 := by simp only [k_am, kW] at h; exact h.1
theorem k_ap0 {f : Nat → Int32} {e p : Int} (h : kW f e p k_ap) : ysm (ych f e p) = 97 := by simp only [k_ap, kW] at h; exact h.1
theorem rDa_am {f : Nat → Int32} {e p la r c : Int} (h : ySt f e p 418443653229) (hr : r = 5) (hc : c = 0) : kDa f e p la r c := kDa_hd (k_am0 (kw_am.1 h)) (Or.inl ⟨hr, kw_am.1 h⟩) (Or.inr hc)
theorem rDa_ap {f : Nat → Int32} {e p la r c : Int} (h0 : ¬ ySt f e p 418443653229) (h : ySt f e p 6369136) (hr : r = 3) (hc : c = 0) : kDa f e p la r c := kDa_hd (k_ap0 (kw_ap.1 h)) (Or.inr (Or.inl ⟨hr, fun k => h0 (kw_am.2 k), kw_ap.1 h⟩)) (Or.inr hc)
theorem rDa_pt {f : Nat → Int32} {e p la r c n x : Int} (hx : x = ysm (ych f e p)) (h46 : x = 46) (hla : la = 25) (h48 : ych f e (p + 1) = 48) (hn : kRun f e (p + 1) n) (h : (n ≤ 3 ∧ r = 1 + n ∧ c = 0) ∨ (3 < n ∧ r = 0)) : kDa f e p la r c := by
  refine kDa_pt (by have := ysm_e hx (by omega); omega) (Or.inl ⟨⟨hla, h48⟩, n, hn, by omega⟩) (by omega)
theorem rDa_rw {f : Nat → Int32} {e p la n x : Int} (hx : x = ysm (ych f e p)) (hw : kRw x) (hn : kRun f e p n) (h : ¬ (x = 121 ∧ (n = 2 ∨ n = 4) ∨ x = 109 ∧ n ≤ 5 ∨ x = 100 ∧ n ≤ 4 ∨ (x = 104 ∨ x = 115) ∧ n ≤ 2)) : kDa f e p la 0 0 := kDa_row hx hw ⟨n, hn, Or.inr ⟨h, rfl⟩⟩
theorem rDa_ro {f : Nat → Int32} {e p la r c n x : Int} (hx : x = ysm (ych f e p)) (hw : kRw x) (hn : kRun f e p n) (hv : c = (if x = 115 then 25 else 0)) (h : (x = 121 ∧ (n = 2 ∨ n = 4) ∨ x = 109 ∧ n ≤ 5 ∨ x = 100 ∧ n ≤ 4 ∨ (x = 104 ∨ x = 115) ∧ n ≤ 2) ∧ r = n) : kDa f e p la r c := kDa_row hx hw ⟨n, hn, Or.inl ⟨h.1, h.2, hv⟩⟩
theorem rDa_row {f : Nat → Int32} {e p la r c n x : Int} (hx : x = ysm (ych f e p)) (hw : kRw x) (hn : kRun f e p n) (h : ((x = 121 ∧ (n = 2 ∨ n = 4) ∨ x = 109 ∧ n ≤ 5 ∨ x = 100 ∧ n ≤ 4 ∨ (x = 104 ∨ x = 115) ∧ n ≤ 2) ∧ r = n ∧ c = (if x = 115 then 25 else 0)) ∨ (¬ (x = 121 ∧ (n = 2 ∨ n = 4) ∨ x = 109 ∧ n ≤ 5 ∨ x = 100 ∧ n ≤ 4 ∨ (x = 104 ∨ x = 115) ∧ n ≤ 2) ∧ r = 0)) : kDa f e p la r c := kDa_row hx hw ⟨n, hn, h⟩
theorem kRun_48 {f : Nat → Int32} {e p n : Int} (h0 : 0 ≤ n) (h48 : ych f e p = 48) (h : ∀ j : Int, 0 ≤ j → j < n → ych f e (p + j) = 48) (hx : ¬ ych f e (p + n) = 48) : kRun f e p n := by
  have y48 : ysm 48 = 48 := by decide
  refine kRun_i0 h0 (fun j a b => by rw [h j a b, h48]) (fun q => hx ?_)
  rw [h48, y48] at q
  unfold ysm at q; split at q <;> omega
theorem k48_st {f : Nat → Int32} {e p x r : Int} (h : ∀ j : Int, 0 ≤ j → j < x → ych f e (p + j) = 48) (hr : r = x + 1) (hx : ych f e (p + x) = 48) : ∀ j : Int, 0 ≤ j → j < r → ych f e (p + j) = 48 := fun j h0 h1 => by
  rcases Int.lt_or_le j x with c | c
  · exact h j h0 c
  · rw [show j = x by omega]; exact hx
theorem k48_0 {f : Nat → Int32} {e p x : Int} (hx : x ≤ 0) : ∀ j : Int, 0 ≤ j → j < x → ych f e (p + j) = 48 := fun j h0 h1 => by omega
theorem kRun_z {f : Nat → Int32} {e p : Int} : ∀ j : Int, 0 ≤ j → j < (0 : Int32).toInt → ysm (ych f e (p + j)) = ysm (ych f e p) := fun j h0 h1 => by simp only [Int32.reduceToInt] at h1; omega
theorem kPn_b {f : Nat → Int32} {e p n : Int} (h : kPn f e p n) : 0 ≤ n ∧ n ≤ 3 := ⟨h.1, h.2.1⟩
def rRo (f : Nat → Int32) (e p x n : Int) : Prop := (n = 0 ∧ ¬ kRw x) ∨ (1 ≤ n ∧ kRw x ∧ kRun f e p n)
def kCnd (x n : Int) : Prop := x = 121 ∧ (n = 2 ∨ n = 4) ∨ x = 109 ∧ n ≤ 5 ∨ x = 100 ∧ n ≤ 4 ∨ (x = 104 ∨ x = 115) ∧ n ≤ 2
def rGd (x n g : Int) : Prop := (¬ g = 0 ∧ kCnd x n) ∨ (g = 0 ∧ ¬ kCnd x n)
theorem rGd_y {x n g : Int} (hg : ¬ g = 0) (h : x = 121 ∧ (n = 2 ∨ n = 4) ∨ x = 109 ∧ n ≤ 5 ∨ x = 100 ∧ n ≤ 4 ∨ (x = 104 ∨ x = 115) ∧ n ≤ 2) : rGd x n g := Or.inl ⟨hg, h⟩
theorem rGd_n {x n g : Int} (hg : g = 0) (h : ¬ (x = 121 ∧ (n = 2 ∨ n = 4) ∨ x = 109 ∧ n ≤ 5 ∨ x = 100 ∧ n ≤ 4 ∨ (x = 104 ∨ x = 115) ∧ n ≤ 2)) : rGd x n g := Or.inr ⟨hg, h⟩
theorem rDa_gy {f : Nat → Int32} {e p la r c n x : Int} (hx : x = ysm (ych f e p)) (hw : kRw x) (hn : kRun f e p n) (hc : kCnd x n) (hv : c = (if x = 115 then 25 else 0)) (hr : r = n) : kDa f e p la r c := kDa_row hx hw ⟨n, hn, Or.inl ⟨hc, hr, hv⟩⟩
theorem rDa_gn {f : Nat → Int32} {e p la n x : Int} (hx : x = ysm (ych f e p)) (hw : kRw x) (hn : kRun f e p n) (hc : ¬ kCnd x n) : kDa f e p la 0 0 := kDa_row hx hw ⟨n, hn, Or.inr ⟨hc, rfl⟩⟩
def rPl (f : Nat → Int32) (e p la : Int) : Prop := ∃ n : Int, kBr f e p n ∧ n ≤ 0 ∧ ¬ kRw (ysm (ych f e p)) ∧ ¬ ySt f e p 418443653229 ∧ ¬ ySt f e p 6369136 ∧ (¬ ysm (ych f e p) = 46 ∨ ¬ (la = 25 ∧ ych f e (p + 1) = 48))
theorem rPl_i {f : Nat → Int32} {e p la n x : Int} (hx : x = ysm (ych f e p)) (hw : ¬ kRw x) (hBr : kBr f e p n) (hn : n ≤ 0) (ha : ¬ ySt f e p 418443653229) (hb : ¬ ySt f e p 6369136) (h46 : ¬ x = 46 ∨ ¬ la = 25 ∨ ¬ ych f e (p + 1) = 48) : rPl f e p la := by
  subst hx; exact ⟨n, hBr, hn, hw, ha, hb, by omega⟩
theorem rPl_y {f : Nat → Int32} {e p la r c : Int} (h : rPl f e p la) (hL : kLit (ych f e p)) (hr : r = 1) (hc : c = 0) : kDa f e p la r c := by
  obtain ⟨n, hBr, hn, hw, ha, hb, h46⟩ := h; exact rDa_pl rfl hw hBr hn ha hb h46 (Or.inl ⟨hr, hc, hL⟩)
theorem rPl_n {f : Nat → Int32} {e p la : Int} (h : rPl f e p la) (hL : ¬ kLit (ych f e p)) : kDa f e p la 0 0 := by
  obtain ⟨n, hBr, hn, hw, ha, hb, h46⟩ := h; exact rDa_pl rfl hw hBr hn ha hb h46 (Or.inr ⟨rfl, hL⟩)
theorem kRw_i {x : Int} (h : kRw x) : x = 121 ∨ x = 109 ∨ x = 100 ∨ x = 104 ∨ x = 115 := h

/-! a section's run in the reference -/
def rY (f g h : Nat → Int32) (e i fr to p n a w bh sk pt pa co pe : Int) : Prop :=
  (yS f e to p ∧ 0 ≤ p ∧ p ≤ e ∧ n ≤ p ∧ a ≤ n ∧ 0 ≤ a) ∧ ((pt = 0 ∨ pt = 1) ∧ (pa = 0 ∨ pa = 1) ∧ (co = 0 ∨ co = 1) ∧ (pe = 0 ∨ pe = 1) ∧ (bh = 0 ∨ bh = 1)) ∧
  ((w = 2 ∧ bh = 0 ∧ sk = 2) ∨ (w = 2 ∧ bh = 1 ∧ (sk = 3 ∨ sk = 4)) ∨ ((w = 1 ∨ w = 5 ∨ w = 6) ∧ sk = w)) ∧
  ((¬ (i = 3 ∧ (w = 2 ∨ w = 5)) ∧ ∀ res : Int, kR f e to p sk (kLr g h a n) pt pa co pe res → kSc f e i fr to res) ∨ ((i = 3 ∧ (w = 2 ∨ w = 5)) ∧ (∃ kp : Int, kK f e to p w kp) ∧ kSc f e i fr to (-1)))
theorem rY_end {f g h : Nat → Int32} {e i fr to p n a w bh sk pt pa co pe : Int} (hY : rY f g h e i fr to p n a w bh sk pt pa co pe) (hp : to ≤ p) : n ≤ to ∧ 0 ≤ sk ∧ kSc f e i fr to sk := by
  obtain ⟨⟨hS, h0, h1, h2, _⟩, _, hk, hx⟩ := hY
  have hle := yS_le hS h1
  refine ⟨by omega, by omega, ?_⟩
  rcases hx with ⟨_, hx⟩ | ⟨hb, ⟨kp, hK⟩, _⟩
  · exact hx _ (kR_end hp rfl)
  · have := kK_le hK (by omega); omega
theorem rY_b {f g h : Nat → Int32} {e i fr to p n a w bh sk pt pa co pe : Int} (hY : rY f g h e i fr to p n a w bh sk pt pa co pe) : (0 ≤ p ∧ p ≤ e ∧ n ≤ p ∧ a ≤ n ∧ 0 ≤ a) ∧ ((pt = 0 ∨ pt = 1) ∧ (pa = 0 ∨ pa = 1) ∧ (co = 0 ∨ co = 1) ∧ (pe = 0 ∨ pe = 1) ∧ (bh = 0 ∨ bh = 1)) ∧ ((w = 2 ∧ bh = 0 ∧ sk = 2) ∨ (w = 2 ∧ bh = 1 ∧ (sk = 3 ∨ sk = 4)) ∨ ((w = 1 ∨ w = 5 ∨ w = 6) ∧ sk = w)) := ⟨hY.1.2, hY.2.1, hY.2.2.1⟩
/-- one item more, or none -/
theorem rY_it {f g h g' h' : Nat → Int32} {e i fr to p n a w bh sk pt pa co pe r kd m pt' pa' co' pe' bh' q : Int} (hY : rY f g h e i fr to p n a w bh sk pt pa co pe) (hp : p < to) (hn : ¬ (i = 3 ∧ (w = 2 ∨ w = 5)))
    (hi : kIt f e p sk (kLr g h a n) pt pa co pe r kd (kLr g' h' a m) pt' pa' co' pe') (hr : 0 < r) (hm : n < m ∧ m ≤ n + r) (hq : q = p + r) (hfl : (pt' = 0 ∨ pt' = 1) ∧ (pa' = 0 ∨ pa' = 1) ∧ (co' = 0 ∨ co' = 1) ∧ (pe' = 0 ∨ pe' = 1) ∧ (bh' = 0 ∨ bh' = 1))
    (hk : (w = 2 ∧ bh' = 0 ∧ kd = 2) ∨ (w = 2 ∧ bh' = 1 ∧ (kd = 3 ∨ kd = 4)) ∨ ((w = 1 ∨ w = 5 ∨ w = 6) ∧ kd = w)) : rY f g' h' e i fr to q m a w bh' kd pt' pa' co' pe' := by
  obtain ⟨⟨hS, h0, h1, h2, h3, h4⟩, _, _, hx⟩ := hY
  obtain ⟨y1, y2⟩ := kIt_S h0 hS hp hi hr
  subst hq
  refine ⟨⟨y1, by omega, y2, by omega, by omega, h4⟩, hfl, hk, Or.inl ⟨hn, fun res hR => ?_⟩⟩
  rcases hx with ⟨_, hx⟩ | ⟨hb, _⟩
  · exact hx _ (kR_go hp hi hr hR)
  · exact absurd hb hn
theorem rY_no {f g h : Nat → Int32} {e i fr to p n a w bh sk pt pa co pe r kd la' pt' pa' co' pe' : Int} (hY : rY f g h e i fr to p n a w bh sk pt pa co pe) (hp : p < to)
    (hi : kIt f e p sk (kLr g h a n) pt pa co pe r kd la' pt' pa' co' pe') (hr : r ≤ 0) : kSc f e i fr to (-1) := by
  rcases hY.2.2.2 with ⟨_, hx⟩ | ⟨_, _, hx⟩
  · exact hx _ (kR_no hp hi hr rfl)
  · exact hx
theorem rY_cm {f g h g' h' : Nat → Int32} {e i fr to p n a w bh sk pt pa co pe c m q : Int} (hY : rY f g h e i fr to p n a w bh sk pt pa co pe) (hp : p < to) (hc : kCl f e p c) (h0 : 0 < c) (hm : n < m ∧ m ≤ n + c) (hC : rC g' h' m = 0) (hq : q = p + c) : rY f g' h' e i fr to q m a w bh sk pt pa co pe := by
  have hl : kLr g' h' a m = 0 := kLr_C (by have := hY.1; omega) hC
  by_cases hn : (i = 3 ∧ (w = 2 ∨ w = 5))
  · obtain ⟨⟨hS, b0, h1, h2, h3, h4⟩, hf, hk, hx⟩ := hY
    have hi : kIt f e p 1 (kLr g h a n) pt pa co pe c 1 0 pt pa co pe := kIt_cm hc h0 rfl rfl
    obtain ⟨y1, y2⟩ := kIt_S b0 hS hp hi h0
    subst hq
    refine ⟨⟨y1, by omega, y2, by omega, by omega, h4⟩, hf, hk, Or.inr ?_⟩
    rcases hx with ⟨hx, _⟩ | ⟨hb, ⟨kp, hK⟩, hs⟩
    · exact absurd hn hx
    · rcases k4_ref hK hn.2 hi with q | ⟨_, q⟩
      · omega
      · exact ⟨hb, ⟨kp, q⟩, hs⟩
  · exact rY_it hY hp hn (kIt_cm (kd := sk) (la' := kLr g' h' a m) hc h0 rfl hl) h0 hm hq hY.2.1 hY.2.2.1
/-- a plain item -/
theorem rY_pl {f g h g' h' : Nat → Int32} {e i fr to p n a w bh sk pt pa co pe m q : Int} (hY : rY f g h e i fr to p n a w bh sk pt pa co pe) (hp : p < to) (hc : kCl f e p 0) (hw : w = 1 ∨ w = 6 ∨ (i = 3 ∧ (w = 2 ∨ w = 5))) (hl : kLit (ych f e p)) (h64 : ¬ w = 6 ∨ ¬ ych f e p = 64) (hm : m = n + 1) (hC : rC g' h' m = 0) (hq : q = p + 1) : rY f g' h' e i fr to q m a w bh sk pt pa co pe := by
  have hl0 : kLr g' h' a m = 0 := kLr_C (by have := hY.1; omega) hC
  by_cases hn : (i = 3 ∧ (w = 2 ∨ w = 5))
  · obtain ⟨⟨hS, b0, h1, h2, h3, h4⟩, hf, hk, hx⟩ := hY
    have hi : kIt f e p 1 (kLr g h a n) pt pa co pe 1 1 0 pt pa co pe := kIt_pl hc (by omega) rfl (Or.inl ⟨rfl, hl⟩) rfl
    obtain ⟨y1, y2⟩ := kIt_S b0 hS hp hi (by omega)
    subst hq
    refine ⟨⟨y1, by omega, y2, by omega, by omega, h4⟩, hf, hk, Or.inr ?_⟩
    rcases hx with ⟨hx, _⟩ | ⟨hb, ⟨kp, hK⟩, hs⟩
    · exact absurd hn hx
    · rcases k4_ref hK hn.2 hi with q | ⟨_, q⟩
      · omega
      · exact ⟨hb, ⟨kp, q⟩, hs⟩
  · have hk := hY.2.2.1
    rcases hw with hw | hw | hw
    · exact rY_it hY hp hn (kIt_pl (kd' := sk) (la' := kLr g' h' a m) hc (by omega) (by omega) (Or.inl ⟨rfl, hl⟩) (by omega)) (by omega) (by omega) hq hY.2.1 hk
    · exact rY_it hY hp hn (kIt_tx (kd' := sk) (la' := kLr g' h' a m) hc (by omega) (by omega) (Or.inr ⟨by omega, Or.inl ⟨rfl, hl⟩⟩) (by omega)) (by omega) (by omega) hq hY.2.1 hk
    · exact absurd hw hn
theorem rY_pn {f g h : Nat → Int32} {e i fr to p n a w bh sk pt pa co pe : Int} (hY : rY f g h e i fr to p n a w bh sk pt pa co pe) (hp : p < to) (hc : kCl f e p 0) (hw : w = 1 ∨ w = 6 ∨ (i = 3 ∧ (w = 2 ∨ w = 5))) (hl : ¬ kLit (ych f e p)) (h64 : ¬ w = 6 ∨ ¬ ych f e p = 64) : kSc f e i fr to (-1) := by
  have hk := hY.2.2.1
  by_cases hn : (i = 3 ∧ (w = 2 ∨ w = 5))
  · rcases hY.2.2.2 with ⟨hx, _⟩ | ⟨_, _, hs⟩
    · exact absurd hn hx
    · exact hs
  · rcases hw with hw | hw | hw
    · exact rY_no (kd := sk) (la' := 0) (pt' := 0) (pa' := 0) (co' := 0) (pe' := 0) hY hp (kIt_pl hc (by omega) (by omega) (Or.inr ⟨rfl, hl⟩) (by omega)) (by omega)
    · exact rY_no (kd := sk) (la' := 0) (pt' := 0) (pa' := 0) (co' := 0) (pe' := 0) hY hp (kIt_tx hc (by omega) (by omega) (Or.inr ⟨by omega, Or.inr ⟨rfl, hl⟩⟩) (by omega)) (by omega)
    · exact absurd hw hn
theorem rY_at {f g h g' h' : Nat → Int32} {e i fr to p n a w bh sk pt pa co pe m q : Int} (hY : rY f g h e i fr to p n a w bh sk pt pa co pe) (hp : p < to) (hc : kCl f e p 0) (hw : w = 6) (hl : ych f e p = 64) (hm : m = n + 1) (hC : rC g' h' m = 0) (hq : q = p + 1) : rY f g' h' e i fr to q m a w bh sk pt pa co pe := by
  have hk := hY.2.2.1
  exact rY_it hY hp (by omega) (kIt_tx (kd' := sk) (la' := kLr g' h' a m) hc (by omega) (by omega) (Or.inl ⟨hl, rfl⟩) (by omega)) (by omega) (by omega) hq hY.2.1 hk
theorem rY_34 {f g h : Nat → Int32} {e i fr to p n a w bh sk pt pa co pe : Int} (hY : rY f g h e i fr to p n a w bh sk pt pa co pe) (hp : p < to) (hc : kCl f e p 0) (hw : w = 2) (hb : ¬ bh = 0) : kSc f e i fr to (-1) := by
  have hk := hY.2.2.1
  exact rY_no (r := 0) (kd := 0) (la' := 0) (pt' := 0) (pa' := 0) (co' := 0) (pe' := 0) hY hp (kIt_34 hc (by omega) (by omega) rfl) (by omega)
theorem rY_nn {f g h : Nat → Int32} {e i fr to p n a w bh sk pt pa co pe kd c pt' pa' co' pe' : Int} (hY : rY f g h e i fr to p n a w bh sk pt pa co pe) (hp : p < to) (hc : kCl f e p 0) (hw : w = 2) (hb : bh = 0) (hN : kNu f e p (kLr g h a n) pt pa co pe 0 kd c pt' pa' co' pe') : kSc f e i fr to (-1) := by
  have hk := hY.2.2.1
  exact rY_no hY hp ⟨0, hc, Or.inr ⟨by omega, Or.inl ⟨by omega, hN⟩⟩⟩ (by omega)
theorem rY_nu {f g h g' h' : Nat → Int32} {e i fr to p n a w bh sk pt pa co pe r kd m pt' pa' co' pe' bh' q : Int} (hY : rY f g h e i fr to p n a w bh sk pt pa co pe) (hp : p < to) (hc : kCl f e p 0) (hw : w = 2) (hi3 : ¬ i = 3) (hb : bh = 0) (hN : kNu f e p (kLr g h a n) pt pa co pe r kd (rC g' h' m) pt' pa' co' pe') (hr : 0 < r) (hm : m = n + 1) (hq : q = p + r) (hfl : (pt' = 0 ∨ pt' = 1) ∧ (pa' = 0 ∨ pa' = 1) ∧ (co' = 0 ∨ co' = 1) ∧ (pe' = 0 ∨ pe' = 1)) (hk2 : (bh' = 0 ∧ kd = 2) ∨ (bh' = 1 ∧ (kd = 3 ∨ kd = 4))) : rY f g' h' e i fr to q m a w bh' kd pt' pa' co' pe' := by
  have hk := hY.2.2.1
  have hl : kLr g' h' a m = rC g' h' m := kLr_C (by have := hY.1; omega) rfl
  exact rY_it hY hp (by omega) ⟨0, hc, Or.inr ⟨by omega, Or.inl ⟨by omega, by rw [hl]; exact hN⟩⟩⟩ hr (by omega) hq ⟨hfl.1, hfl.2.1, hfl.2.2.1, hfl.2.2.2, by omega⟩ (by omega)
theorem rY_dn {f g h : Nat → Int32} {e i fr to p n a w bh sk pt pa co pe c : Int} (hY : rY f g h e i fr to p n a w bh sk pt pa co pe) (hp : p < to) (hc : kCl f e p 0) (hw : w = 5) (hD : kDa f e p (kLr g h a n) 0 c) : kSc f e i fr to (-1) := by
  have hk := hY.2.2.1
  exact rY_no (kd := 5) (pt' := 0) (pa' := 0) (co' := 0) (pe' := 0) hY hp ⟨0, hc, Or.inr ⟨by omega, Or.inr (Or.inl ⟨by omega, hD, rfl⟩)⟩⟩ (by omega)
theorem rY_da {f g h g' h' : Nat → Int32} {e i fr to p n a w bh sk pt pa co pe r m q : Int} (hY : rY f g h e i fr to p n a w bh sk pt pa co pe) (hp : p < to) (hc : kCl f e p 0) (hw : w = 5) (hi3 : ¬ i = 3) (hD : kDa f e p (kLr g h a n) r (rC g' h' m)) (hr : 0 < r) (hm : m = n + 1) (hq : q = p + r) : rY f g' h' e i fr to q m a w bh sk pt pa co pe := by
  have hk := hY.2.2.1
  have hl : kLr g' h' a m = rC g' h' m := kLr_C (by have := hY.1; omega) rfl
  have hd : sk = 5 := by omega
  subst hd
  exact rY_it hY hp (by omega) ⟨0, hc, Or.inr ⟨by omega, Or.inr (Or.inl ⟨rfl, by rw [hl]; exact hD, rfl⟩)⟩⟩ hr (by omega) hq hY.2.1 hk
theorem rY_0 {f g h : Nat → Int32} {e i fr to n w : Int} (hG : ¬ (to - fr = 7 ∧ kW f e fr k_gen)) (hK : ∃ kp : Int, kK f e to fr w kp) (hS : yS f e to fr) (h0 : 0 ≤ fr) (h1 : fr ≤ e) (hn : 0 ≤ n ∧ n ≤ fr) : rY f g h e i fr to fr n n w 0 w 0 0 0 0 := by
  obtain ⟨kp, hK⟩ := hK
  have hr := kK_rng hK
  refine ⟨⟨hS, h0, h1, hn.2, Int.le_refl _, hn.1⟩, ⟨Or.inl rfl, Or.inl rfl, Or.inl rfl, Or.inl rfl, Or.inl rfl⟩, by omega, ?_⟩
  by_cases hb : (i = 3 ∧ (w = 2 ∨ w = 5))
  · exact Or.inr ⟨hb, ⟨kp, hK⟩, Or.inr ⟨hG, w, kp, hK, Or.inl ⟨hb.1, hb.2, rfl⟩⟩⟩
  · refine Or.inl ⟨hb, fun res hR => Or.inr ⟨hG, w, kp, hK, Or.inr ⟨hb, ?_⟩⟩⟩
    rw [kLr_0 (Int.le_refl _)] at hR; exact hR
theorem rY_z {f g h : Nat → Int32} {e i fr to p n a w bh sk pt pa co pe p2 n2 sk2 : Int} (hY : rY f g h e i fr to p n a w bh sk pt pa co pe) (hp : p2 = p) (hn : n2 = n) (hs : sk2 = sk) : rY f g h e i fr to p2 n2 a w bh sk2 pt pa co pe := by
  subst hp; subst hn; subst hs; exact hY

/-! a code in the reference -/
theorem k5x {x : Int32} (h0 : 0 ≤ x.toInt) (h1 : x.toInt ≤ 4) : (5 + x : Int32).toNatClampNeg = 5 + x.toInt.toNat := by
  rw [zcl, zadd1 (by simp only [Int32.reduceToInt]; omega) (by simp only [Int32.reduceToInt]; omega)]; simp only [Int32.reduceToInt]; omega
theorem k4x {x : Int32} (h0 : 1 ≤ x.toInt) (h1 : x.toInt ≤ 4) : (4 + x : Int32).toNatClampNeg = 4 + x.toInt.toNat := by
  rw [zcl, zadd1 (by simp only [Int32.reduceToInt]; omega) (by simp only [Int32.reduceToInt]; omega)]; simp only [Int32.reduceToInt]; omega
theorem kS4_n {g : Nat → Int32} {j : Nat} (hj : j < 4) : kS4 j (g 5).toInt (g 6).toInt (g 7).toInt (g 8).toInt = (g (5 + j)).toInt := by
  have : j = 0 ∨ j = 1 ∨ j = 2 ∨ j = 3 := by omega
  rcases this with h | h | h | h <;> subst h <;> rfl
theorem kS4_f {g : Nat → Int32} {x : Int32} (h0 : 0 ≤ x.toInt) (h1 : x.toInt ≤ 3) : kS4 x.toInt.toNat (g 5).toInt (g 6).toInt (g 7).toInt (g 8).toInt = (g (5 + x).toNatClampNeg).toInt := by
  rw [k5x h0 (by omega)]; exact kS4_n (by omega)
theorem kFr4_f {f g : Nat → Int32} {x : Int32} (h0 : 0 ≤ x.toInt) (h1 : x.toInt ≤ 3) (hfr : ∀ j : Nat, ¬ j = (5 + x).toNatClampNeg → g j = f j) : kFr4 x.toInt.toNat (g 5).toInt (g 6).toInt (g 7).toInt (g 8).toInt (f 5).toInt (f 6).toInt (f 7).toInt (f 8).toInt := by
  rw [k5x h0 (by omega)] at hfr
  refine ⟨?_, ?_, ?_, ?_⟩
  · by_cases c : x.toInt.toNat = 0
    · exact Or.inl c
    · exact Or.inr (by rw [hfr 5 (by omega)])
  · by_cases c : x.toInt.toNat = 1
    · exact Or.inl c
    · exact Or.inr (by rw [hfr 6 (by omega)])
  · by_cases c : x.toInt.toNat = 2
    · exact Or.inl c
    · exact Or.inr (by rw [hfr 7 (by omega)])
  · by_cases c : x.toInt.toNat = 3
    · exact Or.inl c
    · exact Or.inr (by rw [hfr 8 (by omega)])
/-- one section more in the reference -/
def kRd (f g : Nat → Int32) (e i p : Int) : Prop := kLo f e i p (g 5).toInt (g 6).toInt (g 7).toInt (g 8).toInt
theorem kRd_0 {f g : Nat → Int32} {e : Int} : kRd f g e (0 : Int32).toInt (0 : Int32).toInt := kLo_0
def kBad (f : Nat → Int32) (e : Int) : Prop := ∃ (m : Nat) (n : Int) (K : Nat → Int), kCd f e m 0 0 0 n K
def kGood (f g : Nat → Int32) (e n : Int) : Prop := ∃ m : Nat, kCd f e m 0 0 1 n (fun j => kS4 j (g 5).toInt (g 6).toInt (g 7).toInt (g 8).toInt)
def kFm (f g : Nat → Int32) (x : Int32) : Prop := ∀ j : Nat, ¬ j = (5 + x).toNatClampNeg → g j = f j
theorem kRd_bad {f g : Nat → Int32} {e i p to : Int} (h : kRd f g e i p) (hy : yS f e to p) (hs : kSc f e i p to (-1)) (hi : 0 ≤ i) : kBad f e := kLo_bad h hy hs hi
theorem kRd_end {f g g' : Nat → Int32} {x : Int32} {e p to n : Int} (h : kRd f g e x.toInt p) (hy : yS f e to p) (hs : kSc f e x.toInt p to (g' (5 + x).toNatClampNeg).toInt) (h0 : 0 ≤ (g' (5 + x).toNatClampNeg).toInt) (hf : kFm g g' x) (hx0 : 0 ≤ x.toInt) (h3 : x.toInt ≤ 3) (hn : n = x.toInt + 1) (he : e ≤ to) : kGood f g' e n := by
  rw [← kS4_f hx0 h3] at hs h0
  exact kLo_end h hy hs h0 (kFr4_f hx0 h3 hf) (by omega) h3 hn he
theorem kRd_semi {f g g' : Nat → Int32} {x : Int32} {e p to : Int} (h : kRd f g e x.toInt p) (hy : yS f e to p) (hs : kSc f e x.toInt p to (g' (5 + x).toNatClampNeg).toInt) (h0 : 0 ≤ (g' (5 + x).toNatClampNeg).toInt) (hf : kFm g g' x) (hx0 : 0 ≤ x.toInt) (h3 : x.toInt ≤ 3) (he : to < e) (h6 : (g' (5 + x).toNatClampNeg).toInt = 6 ∨ x.toInt = 3) : kBad f e := by
  rw [← kS4_f hx0 h3] at hs h0 h6
  exact kLo_semi h hy hs h0 (kFr4_f hx0 h3 hf) (by omega) h3 he h6
theorem kRd_go {f g g' : Nat → Int32} {x : Int32} {e p to i2 p2 : Int} (h : kRd f g e x.toInt p) (hy : yS f e to p) (hs : kSc f e x.toInt p to (g' (5 + x).toNatClampNeg).toInt) (h0 : 0 ≤ (g' (5 + x).toNatClampNeg).toInt) (hf : kFm g g' x) (hx0 : 0 ≤ x.toInt) (h3 : x.toInt ≤ 3) (he : to < e) (h6 : ¬ ((g' (5 + x).toNatClampNeg).toInt = 6 ∨ x.toInt = 3)) (hi2 : i2 = x.toInt + 1) (hp2 : p2 = to + 1) : kRd f g' e i2 p2 := by
  rw [← kS4_f hx0 h3] at hs h0 h6
  exact kLo_go h hy hs h0 (kFr4_f hx0 h3 hf) (by omega) h3 he h6 hi2 hp2
def kF5 (f g : Nat → Int32) : Prop := ∀ j : Nat, j < 5 → g j = f j
theorem kF5_m {f g g' : Nat → Int32} {x : Int32} (h : kF5 f g) (hf : kFm g g' x) (h0 : 0 ≤ x.toInt) (h1 : x.toInt ≤ 3) : kF5 f g' := fun j hj => by
  rw [hf j (by rw [k5x h0 (by omega)]; omega)]; exact h j hj
theorem kF5_0 {f : Nat → Int32} : kF5 f f := fun _ _ => rfl
theorem k45 {x y : Int32} {g : Nat → Int32} (h0 : 0 ≤ x.toInt) (h1 : x.toInt ≤ 3) (hy : y.toInt = x.toInt + 1) : g (4 + y).toNatClampNeg = g (5 + x).toNatClampNeg := by
  rw [k4x (by omega) (by omega), k5x h0 (by omega)]; congr 1; omega
/-- the kinds taken over -/
def kCp (g : Nat → Int32) (x : Int) : Prop := ∀ j : Nat, (j : Int) < x → g j = g (5 + j)
theorem kCp_0 {g : Nat → Int32} : kCp g (0 : Int32).toInt := fun j hj => by simp only [Int32.reduceToInt] at hj; omega
theorem kCp_st {g : Nat → Int32} {x : Int32} {y : Int} (h : kCp g x.toInt) (h0 : 0 ≤ x.toInt) (h1 : x.toInt ≤ 3) (hy : y = x.toInt + 1) : kCp (upd g x.toNatClampNeg (g (5 + x).toNatClampNeg)) y := fun j hj => by
  have e : x.toNatClampNeg = x.toInt.toNat := by rw [zcl]
  rw [e, k5x h0 (by omega), pk_un (show 5 + j ≠ x.toInt.toNat by omega)]
  by_cases c : j = x.toInt.toNat
  · subst c; rw [pk_us]
  · rw [pk_un c]; exact h j (by omega)
theorem kGd_st {f g : Nat → Int32} {e n : Int} {x v : Int32} (h : kGood f g e n) (h0 : 0 ≤ x.toInt) (h1 : x.toInt ≤ 3) : kGood f (upd g x.toNatClampNeg v) e n := by
  have e1 : x.toNatClampNeg = x.toInt.toNat := by rw [zcl]
  unfold kGood
  rw [e1, pk_un (show 5 ≠ x.toInt.toNat by omega), pk_un (show 6 ≠ x.toInt.toNat by omega), pk_un (show 7 ≠ x.toInt.toNat by omega), pk_un (show 8 ≠ x.toInt.toNat by omega)]
  exact h
/-- a code accepted: its sections and their kinds -/
def kAcc (f : Nat → Int32) (e : Int) (n : Int) (k : Nat → Int) : Prop := ∃ (m : Nat) (K : Nat → Int), kCd f e m 0 0 1 n K ∧ ∀ j : Nat, (j : Int) < n → K j = k j
theorem kAcc_i {f g : Nat → Int32} {e n x : Int} (h : kGood f g e n) (hc : kCp g x) (hx : x = n) (h4 : n ≤ 4) : kAcc f e n (fun j => (g j).toInt) := by
  subst hx
  obtain ⟨m, hm⟩ := h
  refine ⟨m, _, hm, fun j hj => ?_⟩
  dsimp only
  rw [kS4_n (by omega), hc j hj]
theorem kAcc_det {f : Nat → Int32} {e n n' : Int} {k k' : Nat → Int} (h : kAcc f e n k) (h' : kAcc f e n' k') : n = n' ∧ (1 ≤ n ∧ n ≤ 4) ∧ (∀ j : Nat, (j : Int) < n → k j = k' j) ∧ (∀ j : Nat, (j : Int) + 1 < n → ¬ k j = 6) := by
  obtain ⟨m, K, hm, hk⟩ := h; obtain ⟨m', K', hm', hk'⟩ := h'
  obtain ⟨_, g2⟩ := kCd_det _ _ _ _ _ _ _ _ _ _ hm hm'
  obtain ⟨_, g4⟩ := kCd_ok _ _ _ _ _ _ hm (by omega)
  have g2 := g2 rfl; have g4 := g4 rfl
  have hn := g2.1
  refine ⟨hn, by omega, fun j hj => ?_, fun j hj => ?_⟩
  · rw [← hk j hj, ← hk' j (by omega)]; exact g2.2 j (by omega) hj
  · rw [← hk j (by omega)]; exact g4.2 j (by omega) hj
theorem kAcc_bad {f : Nat → Int32} {e n : Int} {k : Nat → Int} (h : kAcc f e n k) (hb : kBad f e) : False := by
  obtain ⟨m, K, hm, _⟩ := h; obtain ⟨m', n', K', hm'⟩ := hb
  have := (kCd_det _ _ _ _ _ _ _ _ _ _ hm hm').1; omega
