/-! one item in the reference -/
theorem kyf {f : Nat → Int32} {e : Int} {x : Int32} (h : x.toInt < e) : ych f e x.toInt = (f x.toNatClampNeg).toInt := ych_f h
theorem kCl_q {f : Nat → Int32} {e p q r : Int} (hc : ych f e p = 34) (hq : yQ f e p q) (hr : r = q - p) : kCl f e p r := Or.inl ⟨hc, q, hq, hr⟩
theorem kCl_p {f : Nat → Int32} {e p r : Int} (hc : ych f e p = 92 ∨ ych f e p = 95 ∨ ych f e p = 42) (he : p + 1 < e) (hr : r = 2) : kCl f e p r := Or.inr (Or.inl ⟨hc, Or.inl ⟨he, hr⟩⟩)
theorem kCl_c {f : Nat → Int32} {e p c r : Int} (h : c = ycol f e p) (h0 : 0 < c) (hr : r = c) : kCl f e p r := by
  subst h; subst hr; exact Or.inr (Or.inr (Or.inl ⟨ycol_91 h0, kCo_ycol⟩))
theorem kCl_s {f : Nat → Int32} {e p r : Int} (hs : kSg (ych f e p)) (hr : r = 1) : kCl f e p r := by
  refine Or.inr (Or.inr (Or.inr ⟨?_, Or.inl ⟨hs, hr⟩⟩)); unfold kSg at hs; omega
theorem kCl_n {f : Nat → Int32} {e p c r : Int} (h34 : ¬ ych f e p = 34) (hp : ¬ ((ych f e p = 92 ∨ ych f e p = 95 ∨ ych f e p = 42) ∧ p + 1 < e)) (hc : c = ycol f e p) (h0 : c = 0) (hs : ¬ kSg (ych f e p)) (hr : r = 0) : kCl f e p r := by
  subst hr
  by_cases hpr : ych f e p = 92 ∨ ych f e p = 95 ∨ ych f e p = 42
  · exact Or.inr (Or.inl ⟨hpr, Or.inr ⟨fun q => hp ⟨hpr, q⟩, rfl⟩⟩)
  by_cases h91 : ych f e p = 91
  · exact Or.inr (Or.inr (Or.inl ⟨h91, by have := kCo_ycol (f := f) (e := e) (p := p); rw [← hc, h0] at this; exact this⟩))
  · exact kCl_0 h34 (by omega) (by omega) (by omega) h91 hs
theorem kDn_e2 {f : Nat → Int32} {e p x r : Int} (h : ∀ j : Int, 0 ≤ j → j < x → 48 ≤ ych f e (p + j) ∧ ych f e (p + j) ≤ 57) (h0 : 0 ≤ x) (h3 : x = 3) (hr : r = x) : kDn f e p r := by subst hr; exact ⟨h0, by omega, h, Or.inl h3⟩
theorem kDn_x2 {f : Nat → Int32} {e p x r : Int} (h : ∀ j : Int, 0 ≤ j → j < x → 48 ≤ ych f e (p + j) ∧ ych f e (p + j) ≤ 57) (h0 : 0 ≤ x) (h3 : x ≤ 3) (hr : r = x) (hx : ¬ (48 ≤ ych f e (p + x) ∧ ych f e (p + x) ≤ 57)) : kDn f e p r := by subst hr; exact ⟨h0, h3, h, Or.inr hx⟩
theorem kPw_na {f : Nat → Int32} {e p la s6 s7 s8 r k : Int} (hb : kI23 k la) (h : ¬ (k = 2 ∨ k = 3) ∨ ¬ (s6 = 0 ∧ s7 ≤ 0 ∧ s8 ≤ 0) ∨ ¬ (ych f e (p + 1) = 43 ∨ ych f e (p + 1) = 45)) (hr : r = 0) : kPw f e p la s6 s7 s8 r := by
  refine Or.inr ⟨fun ⟨a, b, c, _⟩ => ?_, hr⟩
  have := hb.2 a; omega
theorem kPw_nb {f : Nat → Int32} {e p la s6 s7 s8 r c : Int} (hc : c = ych f e (p + 2)) (h : ¬ kPl c) (hr : r = 0) : kPw f e p la s6 s7 s8 r := Or.inr ⟨fun ⟨_, _, _, d⟩ => h (by rw [hc]; exact d), hr⟩
theorem kPw_yb {f : Nat → Int32} {e p la s6 s7 s8 r n k c : Int} (hb : kI23 k la) (hc : c = ych f e (p + 2)) (hl : kPl c) (hn : kPn f e (p + 2) n) (h : (k = 2 ∨ k = 3) ∧ (s6 = 0 ∧ s7 ≤ 0 ∧ s8 ≤ 0) ∧ (ych f e (p + 1) = 43 ∨ ych f e (p + 1) = 45)) (hr : r = 2 + n) : kPw f e p la s6 s7 s8 r := by
  have := kPn_pos hn (by rw [← hc]; exact hl)
  exact kPw_y2 hb hn h (by omega) hr
theorem kPw_r {f : Nat → Int32} {e p la s6 s7 s8 r : Int} (h : kPw f e p la s6 s7 s8 r) : 0 ≤ r := by
  rcases h with ⟨_, _, _, _, n, hn, hr⟩ | ⟨_, hr⟩
  · have := hn.1; omega
  · omega
theorem kFr_na {f : Nat → Int32} {e p la s5 s6 s7 s8 r k : Int} (hb : kI2 k la) (h : ¬ (k = 2 ∧ (s6 = 0 ∧ s7 ≤ 0 ∧ s8 ≤ 0) ∧ s5 = 0)) (hr : r = 0) : kFr f e p la s5 s6 s7 s8 r := by
  refine Or.inr ⟨fun ⟨a, b, c, _⟩ => h ⟨hb.2 a, b, c⟩, hr⟩
theorem kFr_nb {f : Nat → Int32} {e p la s5 s6 s7 s8 r c : Int} (hc : c = ych f e (p + 1)) (h : ¬ kPl c) (h2 : ¬ (49 ≤ c ∧ c ≤ 57)) (hr : r = 0) : kFr f e p la s5 s6 s7 s8 r := by
  subst hc
  exact Or.inr ⟨fun ⟨_, _, _, d⟩ => d.elim h h2, hr⟩
def kFc (f : Nat → Int32) (e p la s5 s6 s7 s8 g : Int) : Prop := (la = 2 ∧ (s6 = 0 ∧ s7 ≤ 0 ∧ s8 ≤ 0) ∧ s5 = 0) ∧ ((g = 0 ∧ kPl (ych f e (p + 1))) ∨ (¬ g = 0 ∧ 49 ≤ ych f e (p + 1) ∧ ych f e (p + 1) ≤ 57))
theorem kFc_0 {f : Nat → Int32} {e p la s5 s6 s7 s8 g k c : Int} (hb : kI2 k la) (hc : c = ych f e (p + 1)) (h : k = 2 ∧ (s6 = 0 ∧ s7 ≤ 0 ∧ s8 ≤ 0) ∧ s5 = 0) (hl : kPl c) (hg : g = 0) : kFc f e p la s5 s6 s7 s8 g := by
  subst hc; exact ⟨⟨hb.1 h.1, h.2⟩, Or.inl ⟨hg, hl⟩⟩
theorem kFc_1 {f : Nat → Int32} {e p la s5 s6 s7 s8 g k c : Int} (hb : kI2 k la) (hc : c = ych f e (p + 1)) (h : k = 2 ∧ (s6 = 0 ∧ s7 ≤ 0 ∧ s8 ≤ 0) ∧ s5 = 0) (hl : 49 ≤ c ∧ c ≤ 57) (hg : ¬ g = 0) : kFc f e p la s5 s6 s7 s8 g := by
  subst hc; exact ⟨⟨hb.1 h.1, h.2⟩, Or.inr ⟨hg, hl⟩⟩
theorem kFc_y {f : Nat → Int32} {e p la s5 s6 s7 s8 g n r : Int} (h : kFc f e p la s5 s6 s7 s8 g) (hn : (g = 0 ∧ kPn f e (p + 1) n) ∨ (¬ g = 0 ∧ kDn f e (p + 1) n)) (hr : r = 1 + n) : kFr f e p la s5 s6 s7 s8 r := by
  obtain ⟨ha, h⟩ := h
  refine Or.inl ⟨ha, ?_⟩
  rcases h with ⟨a, b⟩ | ⟨a, b⟩ <;> rcases hn with ⟨c, d⟩ | ⟨c, d⟩
  · exact Or.inl ⟨b, n, d, hr⟩
  · exact absurd a c
  · exact absurd c a
  · exact Or.inr ⟨b, n, d, hr⟩
theorem kGa_0 {f : Nat → Int32} {e p n g : Int} (h : (g = 0 ∧ kPn f e p n) ∨ (¬ g = 0 ∧ kDn f e p n)) : 0 ≤ n ∧ n ≤ 3 := by
  rcases h with ⟨_, h⟩ | ⟨_, h⟩
  · exact ⟨h.1, h.2.1⟩
  · exact ⟨h.1, h.2.1⟩
theorem kFr_r {f : Nat → Int32} {e p la s5 s6 s7 s8 r : Int} (h : kFr f e p la s5 s6 s7 s8 r) : 0 ≤ r := by
  rcases h with ⟨_, ⟨_, n, hn, hr⟩ | ⟨_, n, hn, hr⟩⟩ | ⟨_, hr⟩
  · have := hn.1; omega
  · have := hn.1; omega
  · omega
/-! a number's item, flags 0 or 1 -/
theorem rC_ad {g h : Nat → Int32} {x k c : Int32} {m : Int} (h0 : 0 ≤ x.toInt) (h1 : x.toInt ≤ 100) (hm : m = x.toInt + 1) : rC (upd g (160 + x).toNatClampNeg k) (upd h (160 + x).toNatClampNeg c) m = rcls k.toInt c.toInt := rC_add h0 h1 hm rfl
theorem rC_z {g h : Nat → Int32} {x k c : Int32} {m : Int} (h0 : 0 ≤ x.toInt) (h1 : x.toInt ≤ 100) (hm : m = x.toInt + 1) (hk : k.toInt = 0 ∨ k.toInt = 1 ∨ k.toInt = 4 ∨ k.toInt = 6 ∨ k.toInt = 7 ∨ k.toInt = 13 ∨ k.toInt = 14 ∨ k.toInt = 15 ∨ k.toInt = 16) : rC (upd g (160 + x).toNatClampNeg k) (upd h (160 + x).toNatClampNeg c) m = 0 := by
  rw [rC_ad h0 h1 hm]; have := rcls_i k.toInt c.toInt; omega
theorem rC_2 {g h : Nat → Int32} {x k c : Int32} {m v : Int} (h0 : 0 ≤ x.toInt) (h1 : x.toInt ≤ 100) (hm : m = x.toInt + 1) (hk : (k.toInt = 2 ∧ v = 2) ∨ (k.toInt = 3 ∧ v = 3) ∨ (k.toInt = 5 ∧ v = 6)) : rC (upd g (160 + x).toNatClampNeg k) (upd h (160 + x).toNatClampNeg c) m = v := by
  rw [rC_ad h0 h1 hm]; have := rcls_i k.toInt c.toInt; omega
theorem rC_s {g h : Nat → Int32} {x k c : Int32} {m : Int} (h0 : 0 ≤ x.toInt) (h1 : x.toInt ≤ 100) (hm : m = x.toInt + 1) (hk : k.toInt = 11 ∨ k.toInt = 12) : rC (upd g (160 + x).toNatClampNeg k) (upd h (160 + x).toNatClampNeg c) m = (if c.toInt = 115 then 25 else 0) := by
  rw [rC_ad h0 h1 hm]; have := rcls_i k.toInt c.toInt; split <;> omega
theorem rNu_pl {f : Nat → Int32} {e p la pt pa co pe r kd c pt' pa' co' pe' x v : Int} (hx : x = ysm (ych f e p)) (hc : kPl x) (hv : c = v) (h : ((pt = 1 ∧ r = 1 ∧ v = 3) ∨ (pt = 0 ∧ pa = 0 ∧ r = 1 ∧ v = 2)) ∧ kd = 2 ∧ pt' = pt ∧ pa' = pa ∧ co' = co ∧ pe' = pe) : kNu f e p la pt pa co pe r kd c pt' pa' co' pe' := by
  subst hx; subst hv; exact Or.inl ⟨hc, by omega, fun _ => by omega⟩
theorem rNu_w1 {f : Nat → Int32} {e p la pt pa co pe x : Int} (hx : x = ysm (ych f e p)) (hc : kPl x) (h : pt = 0 ∧ pa = 1) : kNu f e p la pt pa co pe 0 0 0 0 0 0 0 := by
  subst hx; exact Or.inl ⟨hc, by omega, fun _ => by omega⟩
theorem rNu_pt {f : Nat → Int32} {e p la pt pa co pe r kd c pt' pa' co' pe' x : Int} (hx : x = ysm (ych f e p)) (hc : x = 46) (hv : c = 0) (h : pt = 0 ∧ r = 1 ∧ pt' = 1 ∧ kd = 2 ∧ pa' = pa ∧ co' = co ∧ pe' = pe) : kNu f e p la pt pa co pe r kd c pt' pa' co' pe' := by
  subst hx; exact Or.inr (Or.inl ⟨hc, by omega, fun _ => by omega⟩)
theorem rNu_w2 {f : Nat → Int32} {e p la pt pa co pe x : Int} (hx : x = ysm (ych f e p)) (hc : x = 46) (h : pt = 1) : kNu f e p la pt pa co pe 0 0 0 0 0 0 0 := by
  subst hx; exact Or.inr (Or.inl ⟨hc, by omega, fun _ => by omega⟩)
theorem rNu_co {f : Nat → Int32} {e p la pt pa co pe r kd c pt' pa' co' pe' x : Int} (hx : x = ysm (ych f e p)) (hc : x = 44) (h : ((la = 2 ∧ kPl (ych f e (p + 1))) ∧ c = 0 ∧ pa' = pa) ∨ ((la = 2 ∧ ¬ kPl (ych f e (p + 1)) ∨ la = 6) ∧ c = 6 ∧ pa' = 1)) (h2 : r = 1 ∧ kd = 2 ∧ co' = 1 ∧ pt' = pt ∧ pe' = pe) : kNu f e p la pt pa co pe r kd c pt' pa' co' pe' := by
  subst hx
  refine Or.inr (Or.inr (Or.inl ⟨hc, ?_, fun _ => by omega⟩))
  rcases h with ⟨⟨a, b⟩, h⟩ | ⟨a, h⟩
  · exact Or.inl ⟨a, b, by omega⟩
  · exact Or.inr (Or.inl ⟨a, by omega⟩)
theorem rNu_w3 {f : Nat → Int32} {e p la pt pa co pe x : Int} (hx : x = ysm (ych f e p)) (hc : x = 44) (h : ¬ la = 2 ∧ ¬ la = 6) : kNu f e p la pt pa co pe 0 0 0 0 0 0 0 := by
  subst hx; exact Or.inr (Or.inr (Or.inl ⟨hc, Or.inr (Or.inr ⟨h.1, h.2, rfl⟩), fun _ => by omega⟩))
theorem rNu_pc {f : Nat → Int32} {e p la pt pa co pe r kd c pt' pa' co' pe' x : Int} (hx : x = ysm (ych f e p)) (hc : x = 37) (hv : c = 0) (h : r = 1 ∧ kd = 2 ∧ pt' = pt ∧ pa' = pa ∧ co' = co ∧ pe' = 1) : kNu f e p la pt pa co pe r kd c pt' pa' co' pe' := by
  subst hx; exact Or.inr (Or.inr (Or.inr (Or.inl ⟨hc, by omega⟩)))
theorem rNu_pw {f : Nat → Int32} {e p la pt pa co pe r kd c pt' pa' co' pe' x : Int} (hx : x = ysm (ych f e p)) (hc : x = 101) (h : kPw f e p la co 0 pe r) (hp : 0 ≤ pe) (h0 : r ≤ 0 ∨ kd = 3) : kNu f e p la pt pa co pe r kd c pt' pa' co' pe' := by
  subst hx
  refine Or.inr (Or.inr (Or.inr (Or.inr (Or.inl ⟨hc, ?_⟩))))
  rcases h with ⟨a, ⟨b1, b2, b3⟩, d, i, n, hn, hr⟩ | ⟨a, hr⟩
  · exact Or.inl ⟨a, b1, by omega, d, i, ⟨n, hn, hr⟩, by have := hn.1; omega⟩
  · exact Or.inr ⟨fun ⟨q1, q2, q3, q4, q5⟩ => a ⟨q1, ⟨q2, by omega, by omega⟩, q4, q5⟩, hr⟩
theorem rNu_fr {f : Nat → Int32} {e p la pt pa co pe r kd c pt' pa' co' pe' x : Int} (hx : x = ysm (ych f e p)) (hc : x = 47) (h : kFr f e p la pt co 0 pe r) (hp : 0 ≤ pe) (h0 : r ≤ 0 ∨ kd = 4) : kNu f e p la pt pa co pe r kd c pt' pa' co' pe' := by
  subst hx
  refine Or.inr (Or.inr (Or.inr (Or.inr (Or.inr (Or.inl ⟨hc, ?_⟩)))))
  rcases h with ⟨⟨a, ⟨b1, b2, b3⟩, d⟩, i⟩ | ⟨a, hr⟩
  · refine Or.inl ⟨a, b1, by omega, d, ?_, i⟩
    rcases i with ⟨_, n, hn, hr⟩ | ⟨_, n, hn, hr⟩
    · have := hn.1; omega
    · have := hn.1; omega
  · exact Or.inr ⟨fun ⟨q1, q2, q3, q4, q5⟩ => a ⟨q1, ⟨q2, by omega, by omega⟩, q4, q5⟩, hr⟩
theorem rNu_w7 {f : Nat → Int32} {e p la pt pa co pe x : Int} (hx : x = ysm (ych f e p)) (hl : ¬ kPl x) (hc : ¬ x = 46 ∧ ¬ x = 44 ∧ ¬ x = 37 ∧ ¬ x = 101 ∧ ¬ x = 47) : kNu f e p la pt pa co pe 0 0 0 0 0 0 0 := by
  subst hx; exact Or.inr (Or.inr (Or.inr (Or.inr (Or.inr (Or.inr ⟨⟨hl, hc⟩, rfl⟩)))))
theorem rNu_no {f : Nat → Int32} {e p la pt pa co pe r kd c pt' pa' co' pe' x : Int} (hx : x = ysm (ych f e p)) (hl : ¬ kPl x) (hc : ¬ x = 46 ∧ ¬ x = 44 ∧ ¬ x = 37 ∧ ¬ x = 101 ∧ ¬ x = 47) (h : r = 0) : kNu f e p la pt pa co pe r kd c pt' pa' co' pe' := by
  subst hx; exact Or.inr (Or.inr (Or.inr (Or.inr (Or.inr (Or.inr ⟨⟨hl, hc⟩, h⟩)))))
theorem rDa_pl {f : Nat → Int32} {e p la r c n x : Int} (hx : x = ysm (ych f e p)) (hw : ¬ kRw x) (hBr : kBr f e p n) (hn : n ≤ 0) (ha : ¬ ySt f e p 418443653229) (hb : ¬ ySt f e p 6369136) (h46 : ¬ x = 46 ∨ ¬ (la = 25 ∧ ych f e (p + 1) = 48)) (h : (r = 1 ∧ c = 0 ∧ kLit (ych f e p)) ∨ (r = 0 ∧ ¬ kLit (ych f e p))) : kDa f e p la r c := by
  subst hx
  rcases h with ⟨h1, h2, h⟩ | ⟨h1, h⟩
  · have hs := ysm_46 (c := ych f e p) (by unfold kLit at h; omega)
    by_cases q : ych f e p = 46
    · exact Or.inr (Or.inr (Or.inr (Or.inl ⟨q, Or.inr ⟨h46.resolve_left (by omega), h1⟩, fun _ => h2⟩)))
    · exact Or.inr (Or.inr (Or.inr (Or.inr (Or.inl ⟨by unfold kLit at h; omega, h1, h2⟩))))
  · by_cases q : ych f e p = 91
    · exact Or.inr (Or.inl ⟨q, n, hBr, Or.inr ⟨by omega, h1⟩, fun _ => by omega⟩)
    by_cases q2 : ysm (ych f e p) = 97
    · exact Or.inr (Or.inr (Or.inl ⟨q2, Or.inr (Or.inr ⟨fun k => ha (kw_am.2 k), fun k => hb (kw_ap.2 k), h1⟩), fun _ => by omega⟩))
    · exact Or.inr (Or.inr (Or.inr (Or.inr (Or.inr ⟨⟨hw, q, q2, h⟩, h1⟩))))
theorem rDa_br {f : Nat → Int32} {e p la r c n : Int} (hn : kBr f e p n) (h0 : 0 < n) {y : Int} (hy : y = ysm (ych f e (p + 1))) (hv : c = (if y = 115 then 25 else 0)) (h : n ≤ 2 ∧ r = n + 2) : kDa f e p la r c := by
  subst hy; exact kDa_br (kBr_co hn h0).1 hn (Or.inl ⟨by omega, h.1, h.2, hv⟩)
theorem rDa_bw {f : Nat → Int32} {e p la n : Int} (hn : kBr f e p n) (h0 : 2 < n) : kDa f e p la 0 0 := kDa_br (kBr_co hn (by omega)).1 hn (Or.inr ⟨by omega, rfl⟩)
theorem rDa_xx {f : Nat → Int32} {e p la r c n : Int} (hn : kBr f e p n) (h0 : 0 < n) (h : (n ≤ 2 ∧ r = n + 2 ∧ c = (if ysm (ych f e (p + 1)) = 115 then 25 else 0)) ∨ (2 < n ∧ r = 0)) : kDa f e p la r c := kDa_br (kBr_co hn h0).1 hn (by rcases h with ⟨a, b, d⟩ | ⟨a, b⟩; exact Or.inl ⟨by omega, a, b, d⟩; exact Or.inr ⟨by omega, b⟩)
theorem k_am0 {f : Nat → Int32} {e p : Int} (h : kW f e p k_am) : ysm (ych f e p) = 97 := by simp only [k_am, kW] at h; exact h.1
theorem k_ap0 {f : Nat → Int32} {e p : Int} (h : kW f e p k_ap) : ysm (ych f e p) = 97 := by simp only [k_ap, kW] at h; exact h.1
theorem rDa_am {f : Nat → Int32} {e p la r c : Int} (h : ySt f e p 418443653229) (hr : r = 5) (hc : c = 0) : kDa f e p la r c := kDa_hd (k_am0 (kw_am.1 h)) (Or.inl ⟨hr, kw_am.1 h⟩) (Or.inr hc)
theorem rDa_ap {f : Nat → Int32} {e p la r c : Int} (h0 : ¬ ySt f e p 418443653229) (h : ySt f e p 6369136) (hr : r = 3) (hc : c = 0) : kDa f e p la r c := kDa_hd (k_ap0 (kw_ap.1 h)) (Or.inr (Or.inl ⟨hr, fun k => h0 (kw_am.2 k), kw_ap.1 h⟩)) (Or.inr hc)
theorem rDa_pt {f : Nat → Int32} {e p la r c n x : Int} (hx : x = ysm (ych f e p)) (h46 : x = 46) (hla : la = 25) (h48 : ych f e (p + 1) = 48) (hn : kRun f e (p + 1) n) (h : (n ≤ 3 ∧ r = 1 + n ∧ c = 0) ∨ (3 < n ∧ r = 0)) : kDa f e p la r c := by
  refine kDa_pt (by have := ysm_e hx (by omega); omega) (Or.inl ⟨⟨hla, h48⟩, n, hn, by omega⟩) (by omega)
theorem rDa_rw {f : Nat → Int32} {e p la n x : Int} (hx : x = ysm (ych f e p)) (hw : kRw x) (hn : kRun f e p n) (h : ¬ (x = 121 ∧ (n = 2 ∨ n = 4) ∨ x = 109 ∧ n ≤ 5 ∨ x = 100 ∧ n ≤ 4 ∨ (x = 104 ∨ x = 115) ∧ n ≤ 2)) : kDa f e p la 0 0 := kDa_row hx hw ⟨n, hn, Or.inr ⟨h, rfl⟩⟩
theorem rDa_ro {f : Nat → Int32} {e p la r c n x : Int} (hx : x = ysm (ych f e p)) (hw : kRw x) (hn : kRun f e p n) (hv : c = (if x = 115 then 25 else 0)) (h : (x = 121 ∧ (n = 2 ∨ n = 4) ∨ x = 109 ∧ n ≤ 5 ∨ x = 100 ∧ n ≤ 4 ∨ (x = 104 ∨ x = 115) ∧ n ≤ 2) ∧ r = n) : kDa f e p la r c := kDa_row hx hw ⟨n, hn, Or.inl ⟨h.1, h.2, hv⟩⟩
theorem rDa_row {f : Nat → Int32} {e p la r c n x : Int} (hx : x = ysm (ych f e p)) (hw : kRw x) (hn : kRun f e p n) (h : ((x = 121 ∧ (n = 2 ∨ n = 4) ∨ x = 109 ∧ n ≤ 5 ∨ x = 100 ∧ n ≤ 4 ∨ (x = 104 ∨ x = 115) ∧ n ≤ 2) ∧ r = n ∧ c = (if x = 115 then 25 else 0)) ∨ (¬ (x = 121 ∧ (n = 2 ∨ n = 4) ∨ x = 109 ∧ n ≤ 5 ∨ x = 100 ∧ n ≤ 4 ∨ (x = 104 ∨ x = 115) ∧ n ≤ 2) ∧ r = 0)) : kDa f e p la r c := kDa_row hx hw ⟨n, hn, h⟩
theorem kRun_48 {f : Nat → Int32} {e p n : Int} (h0 : 0 ≤ n) (h48 : ych f e p = 48) (h : ∀ j : Int, 0 ≤ j → j < n → ych f e (p + j) = 48) (hx : ¬ ych f e (p + n) = 48) : kRun f e p n := by
  have y48 : ysm 48 = 48 := by decide
  refine kRun_i0 h0 (fun j a b => by rw [h j a b, h48]) (fun q => hx ?_)
  rw [h48, y48] at q
  unfold ysm at q; split at q <;> omega
theorem k48_st {f : Nat → Int32} {e p x r : Int} (h : ∀ j : Int, 0 ≤ j → j < x → ych f e (p + j) = 48) (hr : r = x + 1) (hx : ych f e (p + x) = 48) : ∀ j : Int, 0 ≤ j → j < r → ych f e (p + j) = 48 := fun j h0 h1 => by
  rcases Int.lt_or_le j x with c | c
  · exact h j h0 c
  · rw [show j = x by omega]; exact hx
theorem k48_0 {f : Nat → Int32} {e p x : Int} (hx : x ≤ 0) : ∀ j : Int, 0 ≤ j → j < x → ych f e (p + j) = 48 := fun j h0 h1 => by omega
theorem kRun_z {f : Nat → Int32} {e p : Int} : ∀ j : Int, 0 ≤ j → j < (0 : Int32).toInt → ysm (ych f e (p + j)) = ysm (ych f e p) := fun j h0 h1 => by simp only [Int32.reduceToInt] at h1; omega
theorem kPn_b {f : Nat → Int32} {e p n : Int} (h : kPn f e p n) : 0 ≤ n ∧ n ≤ 3 := ⟨h.1, h.2.1⟩
def rRo (f : Nat → Int32) (e p x n : Int) : Prop := (n = 0 ∧ ¬ kRw x) ∨ (1 ≤ n ∧ kRw x ∧ kRun f e p n)
def kCnd (x n : Int) : Prop := x = 121 ∧ (n = 2 ∨ n = 4) ∨ x = 109 ∧ n ≤ 5 ∨ x = 100 ∧ n ≤ 4 ∨ (x = 104 ∨ x = 115) ∧ n ≤ 2
def rGd (x n g : Int) : Prop := (¬ g = 0 ∧ kCnd x n) ∨ (g = 0 ∧ ¬ kCnd x n)
theorem rGd_y {x n g : Int} (hg : ¬ g = 0) (h : x = 121 ∧ (n = 2 ∨ n = 4) ∨ x = 109 ∧ n ≤ 5 ∨ x = 100 ∧ n ≤ 4 ∨ (x = 104 ∨ x = 115) ∧ n ≤ 2) : rGd x n g := Or.inl ⟨hg, h⟩
theorem rGd_n {x n g : Int} (hg : g = 0) (h : ¬ (x = 121 ∧ (n = 2 ∨ n = 4) ∨ x = 109 ∧ n ≤ 5 ∨ x = 100 ∧ n ≤ 4 ∨ (x = 104 ∨ x = 115) ∧ n ≤ 2)) : rGd x n g := Or.inr ⟨hg, h⟩
theorem rDa_gy {f : Nat → Int32} {e p la r c n x : Int} (hx : x = ysm (ych f e p)) (hw : kRw x) (hn : kRun f e p n) (hc : kCnd x n) (hv : c = (if x = 115 then 25 else 0)) (hr : r = n) : kDa f e p la r c := kDa_row hx hw ⟨n, hn, Or.inl ⟨hc, hr, hv⟩⟩
theorem rDa_gn {f : Nat → Int32} {e p la n x : Int} (hx : x = ysm (ych f e p)) (hw : kRw x) (hn : kRun f e p n) (hc : ¬ kCnd x n) : kDa f e p la 0 0 := kDa_row hx hw ⟨n, hn, Or.inr ⟨hc, rfl⟩⟩
def rPl (f : Nat → Int32) (e p la : Int) : Prop := ∃ n : Int, kBr f e p n ∧ n ≤ 0 ∧ ¬ kRw (ysm (ych f e p)) ∧ ¬ ySt f e p 418443653229 ∧ ¬ ySt f e p 6369136 ∧ (¬ ysm (ych f e p) = 46 ∨ ¬ (la = 25 ∧ ych f e (p + 1) = 48))
theorem rPl_i {f : Nat → Int32} {e p la n x : Int} (hx : x = ysm (ych f e p)) (hw : ¬ kRw x) (hBr : kBr f e p n) (hn : n ≤ 0) (ha : ¬ ySt f e p 418443653229) (hb : ¬ ySt f e p 6369136) (h46 : ¬ x = 46 ∨ ¬ la = 25 ∨ ¬ ych f e (p + 1) = 48) : rPl f e p la := by
  subst hx; exact ⟨n, hBr, hn, hw, ha, hb, by omega⟩
theorem rPl_y {f : Nat → Int32} {e p la r c : Int} (h : rPl f e p la) (hL : kLit (ych f e p)) (hr : r = 1) (hc : c = 0) : kDa f e p la r c := by
  obtain ⟨n, hBr, hn, hw, ha, hb, h46⟩ := h; exact rDa_pl rfl hw hBr hn ha hb h46 (Or.inl ⟨hr, hc, hL⟩)
theorem rPl_n {f : Nat → Int32} {e p la : Int} (h : rPl f e p la) (hL : ¬ kLit (ych f e p)) : kDa f e p la 0 0 := by
  obtain ⟨n, hBr, hn, hw, ha, hb, h46⟩ := h; exact rDa_pl rfl hw hBr hn ha hb h46 (Or.inr ⟨rfl, hL⟩)
theorem kRw_i {x : Int} (h : kRw x) : x = 121 ∨ x = 109 ∨ x = 100 ∨ x = 104 ∨ x = 115 := h

/-! a section's run in the reference -/
def rY (f g h : Nat → Int32) (e i fr to p n a w bh sk pt pa co pe : Int) : Prop :=
  (yS f e to p ∧ 0 ≤ p ∧ p ≤ e ∧ n ≤ p ∧ a ≤ n ∧ 0 ≤ a) ∧ ((pt = 0 ∨ pt = 1) ∧ (pa = 0 ∨ pa = 1) ∧ (co = 0 ∨ co = 1) ∧ (pe = 0 ∨ pe = 1) ∧ (bh = 0 ∨ bh = 1)) ∧
  ((w = 2 ∧ bh = 0 ∧ sk = 2) ∨ (w = 2 ∧ bh = 1 ∧ (sk = 3 ∨ sk = 4)) ∨ ((w = 1 ∨ w = 5 ∨ w = 6) ∧ sk = w)) ∧
  ((¬ (i = 3 ∧ (w = 2 ∨ w = 5)) ∧ ∀ res : Int, kR f e to p sk (kLr g h a n) pt pa co pe res → kSc f e i fr to res) ∨ ((i = 3 ∧ (w = 2 ∨ w = 5)) ∧ (∃ kp : Int, kK f e to p w kp) ∧ kSc f e i fr to (-1)))
theorem rY_end {f g h : Nat → Int32} {e i fr to p n a w bh sk pt pa co pe : Int} (hY : rY f g h e i fr to p n a w bh sk pt pa co pe) (hp : to ≤ p) : n ≤ to ∧ 0 ≤ sk ∧ kSc f e i fr to sk := by
  obtain ⟨⟨hS, h0, h1, h2, _⟩, _, hk, hx⟩ := hY
  have hle := yS_le hS h1
  refine ⟨by omega, by omega, ?_⟩
  rcases hx with ⟨_, hx⟩ | ⟨hb, ⟨kp, hK⟩, _⟩
  · exact hx _ (kR_end hp rfl)
  · have := kK_le hK (by omega); omega
theorem rY_b {f g h : Nat → Int32} {e i fr to p n a w bh sk pt pa co pe : Int} (hY : rY f g h e i fr to p n a w bh sk pt pa co pe) : (0 ≤ p ∧ p ≤ e ∧ n ≤ p ∧ a ≤ n ∧ 0 ≤ a) ∧ ((pt = 0 ∨ pt = 1) ∧ (pa = 0 ∨ pa = 1) ∧ (co = 0 ∨ co = 1) ∧ (pe = 0 ∨ pe = 1) ∧ (bh = 0 ∨ bh = 1)) ∧ ((w = 2 ∧ bh = 0 ∧ sk = 2) ∨ (w = 2 ∧ bh = 1 ∧ (sk = 3 ∨ sk = 4)) ∨ ((w = 1 ∨ w = 5 ∨ w = 6) ∧ sk = w)) := ⟨hY.1.2, hY.2.1, hY.2.2.1⟩
/-- one item more, or none -/
theorem rY_it {f g h g' h' : Nat → Int32} {e i fr to p n a w bh sk pt pa co pe r kd m pt' pa' co' pe' bh' q : Int} (hY : rY f g h e i fr to p n a w bh sk pt pa co pe) (hp : p < to) (hn : ¬ (i = 3 ∧ (w = 2 ∨ w = 5)))
    (hi : kIt f e p sk (kLr g h a n) pt pa co pe r kd (kLr g' h' a m) pt' pa' co' pe') (hr : 0 < r) (hm : n < m ∧ m ≤ n + r) (hq : q = p + r) (hfl : (pt' = 0 ∨ pt' = 1) ∧ (pa' = 0 ∨ pa' = 1) ∧ (co' = 0 ∨ co' = 1) ∧ (pe' = 0 ∨ pe' = 1) ∧ (bh' = 0 ∨ bh' = 1))
    (hk : (w = 2 ∧ bh' = 0 ∧ kd = 2) ∨ (w = 2 ∧ bh' = 1 ∧ (kd = 3 ∨ kd = 4)) ∨ ((w = 1 ∨ w = 5 ∨ w = 6) ∧ kd = w)) : rY f g' h' e i fr to q m a w bh' kd pt' pa' co' pe' := by
  obtain ⟨⟨hS, h0, h1, h2, h3, h4⟩, _, _, hx⟩ := hY
  obtain ⟨y1, y2⟩ := kIt_S h0 hS hp hi hr
  subst hq
  refine ⟨⟨y1, by omega, y2, by omega, by omega, h4⟩, hfl, hk, Or.inl ⟨hn, fun res hR => ?_⟩⟩
  rcases hx with ⟨_, hx⟩ | ⟨hb, _⟩
  · exact hx _ (kR_go hp hi hr hR)
  · exact absurd hb hn
theorem rY_no {f g h : Nat → Int32} {e i fr to p n a w bh sk pt pa co pe r kd la' pt' pa' co' pe' : Int} (hY : rY f g h e i fr to p n a w bh sk pt pa co pe) (hp : p < to)
    (hi : kIt f e p sk (kLr g h a n) pt pa co pe r kd la' pt' pa' co' pe') (hr : r ≤ 0) : kSc f e i fr to (-1) := by
  rcases hY.2.2.2 with ⟨_, hx⟩ | ⟨_, _, hx⟩
  · exact hx _ (kR_no hp hi hr rfl)
  · exact hx
theorem rY_cm {f g h g' h' : Nat → Int32} {e i fr to p n a w bh sk pt pa co pe c m q : Int} (hY : rY f g h e i fr to p n a w bh sk pt pa co pe) (hp : p < to) (hc : kCl f e p c) (h0 : 0 < c) (hm : n < m ∧ m ≤ n + c) (hC : rC g' h' m = 0) (hq : q = p + c) : rY f g' h' e i fr to q m a w bh sk pt pa co pe := by
  have hl : kLr g' h' a m = 0 := kLr_C (by have := hY.1; omega) hC
  by_cases hn : (i = 3 ∧ (w = 2 ∨ w = 5))
  · obtain ⟨⟨hS, b0, h1, h2, h3, h4⟩, hf, hk, hx⟩ := hY
    have hi : kIt f e p 1 (kLr g h a n) pt pa co pe c 1 0 pt pa co pe := kIt_cm hc h0 rfl rfl
    obtain ⟨y1, y2⟩ := kIt_S b0 hS hp hi h0
    subst hq
    refine ⟨⟨y1, by omega, y2, by omega, by omega, h4⟩, hf, hk, Or.inr ?_⟩
    rcases hx with ⟨hx, _⟩ | ⟨hb, ⟨kp, hK⟩, hs⟩
    · exact absurd hn hx
    · rcases k4_ref hK hn.2 hi with q | ⟨_, q⟩
      · omega
      · exact ⟨hb, ⟨kp, q⟩, hs⟩
  · exact rY_it hY hp hn (kIt_cm (kd := sk) (la' := kLr g' h' a m) hc h0 rfl hl) h0 hm hq hY.2.1 hY.2.2.1
/-- a plain item -/
theorem rY_pl {f g h g' h' : Nat → Int32} {e i fr to p n a w bh sk pt pa co pe m q : Int} (hY : rY f g h e i fr to p n a w bh sk pt pa co pe) (hp : p < to) (hc : kCl f e p 0) (hw : w = 1 ∨ w = 6 ∨ (i = 3 ∧ (w = 2 ∨ w = 5))) (hl : kLit (ych f e p)) (h64 : ¬ w = 6 ∨ ¬ ych f e p = 64) (hm : m = n + 1) (hC : rC g' h' m = 0) (hq : q = p + 1) : rY f g' h' e i fr to q m a w bh sk pt pa co pe := by
  have hl0 : kLr g' h' a m = 0 := kLr_C (by have := hY.1; omega) hC
  by_cases hn : (i = 3 ∧ (w = 2 ∨ w = 5))
  · obtain ⟨⟨hS, b0, h1, h2, h3, h4⟩, hf, hk, hx⟩ := hY
    have hi : kIt f e p 1 (kLr g h a n) pt pa co pe 1 1 0 pt pa co pe := kIt_pl hc (by omega) rfl (Or.inl ⟨rfl, hl⟩) rfl
    obtain ⟨y1, y2⟩ := kIt_S b0 hS hp hi (by omega)
    subst hq
    refine ⟨⟨y1, by omega, y2, by omega, by omega, h4⟩, hf, hk, Or.inr ?_⟩
    rcases hx with ⟨hx, _⟩ | ⟨hb, ⟨kp, hK⟩, hs⟩
    · exact absurd hn hx
    · rcases k4_ref hK hn.2 hi with q | ⟨_, q⟩
      · omega
      · exact ⟨hb, ⟨kp, q⟩, hs⟩
  · have hk := hY.2.2.1
    rcases hw with hw | hw | hw
    · exact rY_it hY hp hn (kIt_pl (kd' := sk) (la' := kLr g' h' a m) hc (by omega) (by omega) (Or.inl ⟨rfl, hl⟩) (by omega)) (by omega) (by omega) hq hY.2.1 hk
    · exact rY_it hY hp hn (kIt_tx (kd' := sk) (la' := kLr g' h' a m) hc (by omega) (by omega) (Or.inr ⟨by omega, Or.inl ⟨rfl, hl⟩⟩) (by omega)) (by omega) (by omega) hq hY.2.1 hk
    · exact absurd hw hn
theorem rY_pn {f g h : Nat → Int32} {e i fr to p n a w bh sk pt pa co pe : Int} (hY : rY f g h e i fr to p n a w bh sk pt pa co pe) (hp : p < to) (hc : kCl f e p 0) (hw : w = 1 ∨ w = 6 ∨ (i = 3 ∧ (w = 2 ∨ w = 5))) (hl : ¬ kLit (ych f e p)) (h64 : ¬ w = 6 ∨ ¬ ych f e p = 64) : kSc f e i fr to (-1) := by
  have hk := hY.2.2.1
  by_cases hn : (i = 3 ∧ (w = 2 ∨ w = 5))
  · rcases hY.2.2.2 with ⟨hx, _⟩ | ⟨_, _, hs⟩
    · exact absurd hn hx
    · exact hs
  · rcases hw with hw | hw | hw
    · exact rY_no (kd := sk) (la' := 0) (pt' := 0) (pa' := 0) (co' := 0) (pe' := 0) hY hp (kIt_pl hc (by omega) (by omega) (Or.inr ⟨rfl, hl⟩) (by omega)) (by omega)
    · exact rY_no (kd := sk) (la' := 0) (pt' := 0) (pa' := 0) (co' := 0) (pe' := 0) hY hp (kIt_tx hc (by omega) (by omega) (Or.inr ⟨by omega, Or.inr ⟨rfl, hl⟩⟩) (by omega)) (by omega)
    · exact absurd hw hn
theorem rY_at {f g h g' h' : Nat → Int32} {e i fr to p n a w bh sk pt pa co pe m q : Int} (hY : rY f g h e i fr to p n a w bh sk pt pa co pe) (hp : p < to) (hc : kCl f e p 0) (hw : w = 6) (hl : ych f e p = 64) (hm : m = n + 1) (hC : rC g' h' m = 0) (hq : q = p + 1) : rY f g' h' e i fr to q m a w bh sk pt pa co pe := by
  have hk := hY.2.2.1
  exact rY_it hY hp (by omega) (kIt_tx (kd' := sk) (la' := kLr g' h' a m) hc (by omega) (by omega) (Or.inl ⟨hl, rfl⟩) (by omega)) (by omega) (by omega) hq hY.2.1 hk
theorem rY_34 {f g h : Nat → Int32} {e i fr to p n a w bh sk pt pa co pe : Int} (hY : rY f g h e i fr to p n a w bh sk pt pa co pe) (hp : p < to) (hc : kCl f e p 0) (hw : w = 2) (hb : ¬ bh = 0) : kSc f e i fr to (-1) := by
  have hk := hY.2.2.1
  exact rY_no (r := 0) (kd := 0) (la' := 0) (pt' := 0) (pa' := 0) (co' := 0) (pe' := 0) hY hp (kIt_34 hc (by omega) (by omega) rfl) (by omega)
theorem rY_nn {f g h : Nat → Int32} {e i fr to p n a w bh sk pt pa co pe kd c pt' pa' co' pe' : Int} (hY : rY f g h e i fr to p n a w bh sk pt pa co pe) (hp : p < to) (hc : kCl f e p 0) (hw : w = 2) (hb : bh = 0) (hN : kNu f e p (kLr g h a n) pt pa co pe 0 kd c pt' pa' co' pe') : kSc f e i fr to (-1) := by
  have hk := hY.2.2.1
  exact rY_no hY hp ⟨0, hc, Or.inr ⟨by omega, Or.inl ⟨by omega, hN⟩⟩⟩ (by omega)
theorem rY_nu {f g h g' h' : Nat → Int32} {e i fr to p n a w bh sk pt pa co pe r kd m pt' pa' co' pe' bh' q : Int} (hY : rY f g h e i fr to p n a w bh sk pt pa co pe) (hp : p < to) (hc : kCl f e p 0) (hw : w = 2) (hi3 : ¬ i = 3) (hb : bh = 0) (hN : kNu f e p (kLr g h a n) pt pa co pe r kd (rC g' h' m) pt' pa' co' pe') (hr : 0 < r) (hm : m = n + 1) (hq : q = p + r) (hfl : (pt' = 0 ∨ pt' = 1) ∧ (pa' = 0 ∨ pa' = 1) ∧ (co' = 0 ∨ co' = 1) ∧ (pe' = 0 ∨ pe' = 1)) (hk2 : (bh' = 0 ∧ kd = 2) ∨ (bh' = 1 ∧ (kd = 3 ∨ kd = 4))) : rY f g' h' e i fr to q m a w bh' kd pt' pa' co' pe' := by
  have hk := hY.2.2.1
  have hl : kLr g' h' a m = rC g' h' m := kLr_C (by have := hY.1; omega) rfl
  exact rY_it hY hp (by omega) ⟨0, hc, Or.inr ⟨by omega, Or.inl ⟨by omega, by rw [hl]; exact hN⟩⟩⟩ hr (by omega) hq ⟨hfl.1, hfl.2.1, hfl.2.2.1, hfl.2.2.2, by omega⟩ (by omega)
theorem rY_dn {f g h : Nat → Int32} {e i fr to p n a w bh sk pt pa co pe c : Int} (hY : rY f g h e i fr to p n a w bh sk pt pa co pe) (hp : p < to) (hc : kCl f e p 0) (hw : w = 5) (hD : kDa f e p (kLr g h a n) 0 c) : kSc f e i fr to (-1) := by
  have hk := hY.2.2.1
  exact rY_no (kd := 5) (pt' := 0) (pa' := 0) (co' := 0) (pe' := 0) hY hp ⟨0, hc, Or.inr ⟨by omega, Or.inr (Or.inl ⟨by omega, hD, rfl⟩)⟩⟩ (by omega)
theorem rY_da {f g h g' h' : Nat → Int32} {e i fr to p n a w bh sk pt pa co pe r m q : Int} (hY : rY f g h e i fr to p n a w bh sk pt pa co pe) (hp : p < to) (hc : kCl f e p 0) (hw : w = 5) (hi3 : ¬ i = 3) (hD : kDa f e p (kLr g h a n) r (rC g' h' m)) (hr : 0 < r) (hm : m = n + 1) (hq : q = p + r) : rY f g' h' e i fr to q m a w bh sk pt pa co pe := by
  have hk := hY.2.2.1
  have hl : kLr g' h' a m = rC g' h' m := kLr_C (by have := hY.1; omega) rfl
  have hd : sk = 5 := by omega
  subst hd
  exact rY_it hY hp (by omega) ⟨0, hc, Or.inr ⟨by omega, Or.inr (Or.inl ⟨rfl, by rw [hl]; exact hD, rfl⟩)⟩⟩ hr (by omega) hq hY.2.1 hk
theorem rY_0 {f g h : Nat → Int32} {e i fr to n w : Int} (hG : ¬ (to - fr = 7 ∧ kW f e fr k_gen)) (hK : ∃ kp : Int, kK f e to fr w kp) (hS : yS f e to fr) (h0 : 0 ≤ fr) (h1 : fr ≤ e) (hn : 0 ≤ n ∧ n ≤ fr) : rY f g h e i fr to fr n n w 0 w 0 0 0 0 := by
  obtain ⟨kp, hK⟩ := hK
  have hr := kK_rng hK
  refine ⟨⟨hS, h0, h1, hn.2, Int.le_refl _, hn.1⟩, ⟨Or.inl rfl, Or.inl rfl, Or.inl rfl, Or.inl rfl, Or.inl rfl⟩, by omega, ?_⟩
  by_cases hb : (i = 3 ∧ (w = 2 ∨ w = 5))
  · exact Or.inr ⟨hb, ⟨kp, hK⟩, Or.inr ⟨hG, w, kp, hK, Or.inl ⟨hb.1, hb.2, rfl⟩⟩⟩
  · refine Or.inl ⟨hb, fun res hR => Or.inr ⟨hG, w, kp, hK, Or.inr ⟨hb, ?_⟩⟩⟩
    rw [kLr_0 (Int.le_refl _)] at hR; exact hR
theorem rY_z {f g h : Nat → Int32} {e i fr to p n a w bh sk pt pa co pe p2 n2 sk2 : Int} (hY : rY f g h e i fr to p n a w bh sk pt pa co pe) (hp : p2 = p) (hn : n2 = n) (hs : sk2 = sk) : rY f g h e i fr to p2 n2 a w bh sk2 pt pa co pe := by
  subst hp; subst hn; subst hs; exact hY

/-! a code in the reference -/
theorem k5x {x : Int32} (h0 : 0 ≤ x.toInt) (h1 : x.toInt ≤ 4) : (5 + x : Int32).toNatClampNeg = 5 + x.toInt.toNat := by
  rw [zcl, zadd1 (by simp only [Int32.reduceToInt]; omega) (by simp only [Int32.reduceToInt]; omega)]; simp only [Int32.reduceToInt]; omega
theorem k4x {x : Int32} (h0 : 1 ≤ x.toInt) (h1 : x.toInt ≤ 4) : (4 + x : Int32).toNatClampNeg = 4 + x.toInt.toNat := by
  rw [zcl, zadd1 (by simp only [Int32.reduceToInt]; omega) (by simp only [Int32.reduceToInt]; omega)]; simp only [Int32.reduceToInt]; omega
theorem kS4_n {g : Nat → Int32} {j : Nat} (hj : j < 4) : kS4 j (g 5).toInt (g 6).toInt (g 7).toInt (g 8).toInt = (g (5 + j)).toInt := by
  have : j = 0 ∨ j = 1 ∨ j = 2 ∨ j = 3 := by omega
  rcases this with h | h | h | h <;> subst h <;> rfl
theorem kS4_f {g : Nat → Int32} {x : Int32} (h0 : 0 ≤ x.toInt) (h1 : x.toInt ≤ 3) : kS4 x.toInt.toNat (g 5).toInt (g 6).toInt (g 7).toInt (g 8).toInt = (g (5 + x).toNatClampNeg).toInt := by
  rw [k5x h0 (by omega)]; exact kS4_n (by omega)
theorem kFr4_f {f g : Nat → Int32} {x : Int32} (h0 : 0 ≤ x.toInt) (h1 : x.toInt ≤ 3) (hfr : ∀ j : Nat, ¬ j = (5 + x).toNatClampNeg → g j = f j) : kFr4 x.toInt.toNat (g 5).toInt (g 6).toInt (g 7).toInt (g 8).toInt (f 5).toInt (f 6).toInt (f 7).toInt (f 8).toInt := by
  rw [k5x h0 (by omega)] at hfr
  refine ⟨?_, ?_, ?_, ?_⟩
  · by_cases c : x.toInt.toNat = 0
    · exact Or.inl c
    · exact Or.inr (by rw [hfr 5 (by omega)])
  · by_cases c : x.toInt.toNat = 1
    · exact Or.inl c
    · exact Or.inr (by rw [hfr 6 (by omega)])
  · by_cases c : x.toInt.toNat = 2
    · exact Or.inl c
    · exact Or.inr (by rw [hfr 7 (by omega)])
  · by_cases c : x.toInt.toNat = 3
    · exact Or.inl c
    · exact Or.inr (by rw [hfr 8 (by omega)])
/-- one section more in the reference -/
def kRd (f g : Nat → Int32) (e i p : Int) : Prop := kLo f e i p (g 5).toInt (g 6).toInt (g 7).toInt (g 8).toInt
theorem kRd_0 {f g : Nat → Int32} {e : Int} : kRd f g e (0 : Int32).toInt (0 : Int32).toInt := kLo_0
def kBad (f : Nat → Int32) (e : Int) : Prop := ∃ (m : Nat) (n : Int) (K : Nat → Int), kCd f e m 0 0 0 n K
def kGood (f g : Nat → Int32) (e n : Int) : Prop := ∃ m : Nat, kCd f e m 0 0 1 n (fun j => kS4 j (g 5).toInt (g 6).toInt (g 7).toInt (g 8).toInt)
def kFm (f g : Nat → Int32) (x : Int32) : Prop := ∀ j : Nat, ¬ j = (5 + x).toNatClampNeg → g j = f j
theorem kRd_bad {f g : Nat → Int32} {e i p to : Int} (h : kRd f g e i p) (hy : yS f e to p) (hs : kSc f e i p to (-1)) (hi : 0 ≤ i) : kBad f e := kLo_bad h hy hs hi
theorem kRd_end {f g g' : Nat → Int32} {x : Int32} {e p to n : Int} (h : kRd f g e x.toInt p) (hy : yS f e to p) (hs : kSc f e x.toInt p to (g' (5 + x).toNatClampNeg).toInt) (h0 : 0 ≤ (g' (5 + x).toNatClampNeg).toInt) (hf : kFm g g' x) (hx0 : 0 ≤ x.toInt) (h3 : x.toInt ≤ 3) (hn : n = x.toInt + 1) (he : e ≤ to) : kGood f g' e n := by
  rw [← kS4_f hx0 h3] at hs h0
  exact kLo_end h hy hs h0 (kFr4_f hx0 h3 hf) (by omega) h3 hn he
theorem kRd_semi {f g g' : Nat → Int32} {x : Int32} {e p to : Int} (h : kRd f g e x.toInt p) (hy : yS f e to p) (hs : kSc f e x.toInt p to (g' (5 + x).toNatClampNeg).toInt) (h0 : 0 ≤ (g' (5 + x).toNatClampNeg).toInt) (hf : kFm g g' x) (hx0 : 0 ≤ x.toInt) (h3 : x.toInt ≤ 3) (he : to < e) (h6 : (g' (5 + x).toNatClampNeg).toInt = 6 ∨ x.toInt = 3) : kBad f e := by
  rw [← kS4_f hx0 h3] at hs h0 h6
  exact kLo_semi h hy hs h0 (kFr4_f hx0 h3 hf) (by omega) h3 he h6
theorem kRd_go {f g g' : Nat → Int32} {x : Int32} {e p to i2 p2 : Int} (h : kRd f g e x.toInt p) (hy : yS f e to p) (hs : kSc f e x.toInt p to (g' (5 + x).toNatClampNeg).toInt) (h0 : 0 ≤ (g' (5 + x).toNatClampNeg).toInt) (hf : kFm g g' x) (hx0 : 0 ≤ x.toInt) (h3 : x.toInt ≤ 3) (he : to < e) (h6 : ¬ ((g' (5 + x).toNatClampNeg).toInt = 6 ∨ x.toInt = 3)) (hi2 : i2 = x.toInt + 1) (hp2 : p2 = to + 1) : kRd f g' e i2 p2 := by
  rw [← kS4_f hx0 h3] at hs h0 h6
  exact kLo_go h hy hs h0 (kFr4_f hx0 h3 hf) (by omega) h3 he h6 hi2 hp2
def kF5 (f g : Nat → Int32) : Prop := ∀ j : Nat, j < 5 → g j = f j
theorem kF5_m {f g g' : Nat → Int32} {x : Int32} (h : kF5 f g) (hf : kFm g g' x) (h0 : 0 ≤ x.toInt) (h1 : x.toInt ≤ 3) : kF5 f g' := fun j hj => by
  rw [hf j (by rw [k5x h0 (by omega)]; omega)]; exact h j hj
theorem kF5_0 {f : Nat → Int32} : kF5 f f := fun _ _ => rfl
theorem k45 {x y : Int32} {g : Nat → Int32} (h0 : 0 ≤ x.toInt) (h1 : x.toInt ≤ 3) (hy : y.toInt = x.toInt + 1) : g (4 + y).toNatClampNeg = g (5 + x).toNatClampNeg := by
  rw [k4x (by omega) (by omega), k5x h0 (by omega)]; congr 1; omega
/-- the kinds taken over -/
def kCp (g : Nat → Int32) (x : Int) : Prop := ∀ j : Nat, (j : Int) < x → g j = g (5 + j)
theorem kCp_0 {g : Nat → Int32} : kCp g (0 : Int32).toInt := fun j hj => by simp only [Int32.reduceToInt] at hj; omega
theorem kCp_st {g : Nat → Int32} {x : Int32} {y : Int} (h : kCp g x.toInt) (h0 : 0 ≤ x.toInt) (h1 : x.toInt ≤ 3) (hy : y = x.toInt + 1) : kCp (upd g x.toNatClampNeg (g (5 + x).toNatClampNeg)) y := fun j hj => by
  have e : x.toNatClampNeg = x.toInt.toNat := by rw [zcl]
  rw [e, k5x h0 (by omega), pk_un (show 5 + j ≠ x.toInt.toNat by omega)]
  by_cases c : j = x.toInt.toNat
  · subst c; rw [pk_us]
  · rw [pk_un c]; exact h j (by omega)
theorem kGd_st {f g : Nat → Int32} {e n : Int} {x v : Int32} (h : kGood f g e n) (h0 : 0 ≤ x.toInt) (h1 : x.toInt ≤ 3) : kGood f (upd g x.toNatClampNeg v) e n := by
  have e1 : x.toNatClampNeg = x.toInt.toNat := by rw [zcl]
  unfold kGood
  rw [e1, pk_un (show 5 ≠ x.toInt.toNat by omega), pk_un (show 6 ≠ x.toInt.toNat by omega), pk_un (show 7 ≠ x.toInt.toNat by omega), pk_un (show 8 ≠ x.toInt.toNat by omega)]
  exact h
/-- a code accepted: its sections and their kinds -/
def kAcc (f : Nat → Int32) (e : Int) (n : Int) (k : Nat → Int) : Prop := ∃ (m : Nat) (K : Nat → Int), kCd f e m 0 0 1 n K ∧ ∀ j : Nat, (j : Int) < n → K j = k j
theorem kAcc_i {f g : Nat → Int32} {e n x : Int} (h : kGood f g e n) (hc : kCp g x) (hx : x = n) (h4 : n ≤ 4) : kAcc f e n (fun j => (g j).toInt) := by
  subst hx
  obtain ⟨m, hm⟩ := h
  refine ⟨m, _, hm, fun j hj => ?_⟩
  dsimp only
  rw [kS4_n (by omega), hc j hj]
theorem kAcc_det {f : Nat → Int32} {e n n' : Int} {k k' : Nat → Int} (h : kAcc f e n k) (h' : kAcc f e n' k') : n = n' ∧ (1 ≤ n ∧ n ≤ 4) ∧ (∀ j : Nat, (j : Int) < n → k j = k' j) ∧ (∀ j : Nat, (j : Int) + 1 < n → ¬ k j = 6) := by
  obtain ⟨m, K, hm, hk⟩ := h; obtain ⟨m', K', hm', hk'⟩ := h'
  obtain ⟨_, g2⟩ := kCd_det _ _ _ _ _ _ _ _ _ _ hm hm'
  obtain ⟨_, g4⟩ := kCd_ok _ _ _ _ _ _ hm (by omega)
  have g2 := g2 rfl; have g4 := g4 rfl
  have hn := g2.1
  refine ⟨hn, by omega, fun j hj => ?_, fun j hj => ?_⟩
  · rw [← hk j hj, ← hk' j (by omega)]; exact g2.2 j (by omega) hj
  · rw [← hk j (by omega)]; exact g4.2 j (by omega) hj
theorem kAcc_bad {f : Nat → Int32} {e n : Int} {k : Nat → Int} (h : kAcc f e n k) (hb : kBad f e) : False := by
  obtain ⟨m, K, hm, _⟩ := h; obtain ⟨m', n', K', hm'⟩ := hb
  have := (kCd_det _ _ _ _ _ _ _ _ _ _ hm hm').1; omega

/-! which section a value takes; what about says -/
def kTt (n k0 k1 k2 : Int) : Prop := n = 4 ∨ (n = 1 ∧ k0 = 6) ∨ (n = 2 ∧ k1 = 6) ∨ (n = 3 ∧ k2 = 6)
def kTr (n k0 k1 k2 it ng z r : Int) : Prop :=
  (¬ it = 0 ∧ ((kTt n k0 k1 k2 ∧ r = n - 1) ∨ (¬ kTt n k0 k1 k2 ∧ r = -1))) ∨ (it = 0 ∧ ∃ m : Int, ((kTt n k0 k1 k2 ∧ m = n - 1) ∨ (¬ kTt n k0 k1 k2 ∧ m = n)) ∧ ((m = 0 ∧ r = -1) ∨ (¬ m = 0 ∧ ((2 ≤ m ∧ ¬ ng = 0) ∧ r = 1 ∨ ¬ (2 ≤ m ∧ ¬ ng = 0) ∧ ((m = 3 ∧ z = 0) ∧ r = 2 ∨ ¬ (m = 3 ∧ z = 0) ∧ r = 0)))))
theorem kTr_det {n k0 k1 k2 it ng z z' r r' : Int} (h : kTr n k0 k1 k2 it ng z r) (k : kTr n k0 k1 k2 it ng z' r') (hz : z = 0 ↔ z' = 0) : r = r' := by
  unfold kTr at h k
  by_cases t : kTt n k0 k1 k2 <;> simp only [t, not_true_eq_false, not_false_eq_true, true_and, false_and, or_false, false_or] at h k
  · rcases h with ⟨a, h⟩ | ⟨a, m, hm, h⟩ <;> rcases k with ⟨b, k⟩ | ⟨b, m', hm', k⟩ <;> omega
  · rcases h with ⟨a, h⟩ | ⟨a, m, hm, h⟩ <;> rcases k with ⟨b, k⟩ | ⟨b, m', hm', k⟩ <;> omega
def kAb (n k0 k1 k2 k3 it ng z w r : Int) : Prop := (w = 0 ∧ r = n) ∨ (w = 5 ∧ ∃ s : Int, kTr n k0 k1 k2 it ng z s ∧ r = s + 1) ∨ (¬ w = 0 ∧ ¬ w = 5 ∧ ((w ≤ n ∧ ((w = 1 ∧ r = k0) ∨ (w = 2 ∧ r = k1) ∨ (w = 3 ∧ r = k2) ∨ (w = 4 ∧ r = k3))) ∨ (n < w ∧ r = -1)))
theorem kAb_det {n k0 k1 k2 k3 l0 l1 l2 l3 it ng z z' w r r' : Int} (h : kAb n k0 k1 k2 k3 it ng z w r) (k : kAb n l0 l1 l2 l3 it ng z' w r') (hn : 1 ≤ n ∧ n ≤ 4) (hz : z = 0 ↔ z' = 0) (h0 : k0 = l0) (h1 : n ≤ 1 ∨ k1 = l1) (h2 : n ≤ 2 ∨ k2 = l2) (h3 : n ≤ 3 ∨ k3 = l3) : r = r' := by
  rcases h with ⟨a, h⟩ | ⟨a, s, hs, h⟩ | ⟨a, a2, h⟩ <;> rcases k with ⟨b, k⟩ | ⟨b, s', hs', k⟩ | ⟨b, b2, k⟩ <;> (try (exfalso; omega))
  · omega
  · have ht : kTr n k0 k1 k2 it ng z' s' := by
      unfold kTr at hs' ⊢
      have e : kTt n k0 k1 k2 ↔ kTt n l0 l1 l2 := by clear hs hs'; unfold kTt; omega
      rw [e]; exact hs'
    have := kTr_det hs ht hz
    omega
  · omega
theorem kTr_t {n k0 k1 k2 it ng z r : Int} (hi : ¬ it = 0) (h : ((n = 4 ∨ (n = 1 ∧ k0 = 6) ∨ (n = 2 ∧ k1 = 6) ∨ (n = 3 ∧ k2 = 6)) ∧ r = n - 1) ∨ (¬ (n = 4 ∨ (n = 1 ∧ k0 = 6) ∨ (n = 2 ∧ k1 = 6) ∨ (n = 3 ∧ k2 = 6)) ∧ r = -1)) : kTr n k0 k1 k2 it ng z r := Or.inl ⟨hi, h⟩
theorem kTr_n {n k0 k1 k2 it ng z r m : Int} (hi : it = 0) (hm : ((n = 4 ∨ (n = 1 ∧ k0 = 6) ∨ (n = 2 ∧ k1 = 6) ∨ (n = 3 ∧ k2 = 6)) ∧ m = n - 1) ∨ (¬ (n = 4 ∨ (n = 1 ∧ k0 = 6) ∨ (n = 2 ∧ k1 = 6) ∨ (n = 3 ∧ k2 = 6)) ∧ m = n)) (h : (m = 0 ∧ r = -1) ∨ (¬ m = 0 ∧ ((2 ≤ m ∧ ¬ ng = 0) ∧ r = 1 ∨ ¬ (2 ≤ m ∧ ¬ ng = 0) ∧ ((m = 3 ∧ z = 0) ∧ r = 2 ∨ ¬ (m = 3 ∧ z = 0) ∧ r = 0)))) : kTr n k0 k1 k2 it ng z r := Or.inr ⟨hi, m, hm, h⟩
theorem kSs {r : Option Nat} {j : Nat} {x : Int32} {n : Int} (h : r = some j) (h2 : (r = none ∧ ¬ (0 ≤ x.toInt ∧ x.toInt < n ∧ x.toInt < 4)) ∨ (r = some x.toNatClampNeg ∧ 0 ≤ x.toInt ∧ x.toInt < n ∧ x.toInt < 4)) : (j : Int) = x.toInt ∧ 0 ≤ x.toInt ∧ x.toInt < n ∧ x.toInt < 4 := by
  subst h
  rcases h2 with ⟨h, _⟩ | ⟨h, a⟩
  · exact absurd h (by simp)
  · have e := Option.some.inj h
    rw [zcl] at e; omega
theorem kSn {r : Option Nat} {x : Int32} {n : Int} (h : r = none) (h2 : (r = none ∧ ¬ (0 ≤ x.toInt ∧ x.toInt < n ∧ x.toInt < 4)) ∨ (r = some x.toNatClampNeg ∧ 0 ≤ x.toInt ∧ x.toInt < n ∧ x.toInt < 4)) : ¬ (0 ≤ x.toInt ∧ x.toInt < n ∧ x.toInt < 4) := by
  subst h
  rcases h2 with ⟨_, h⟩ | ⟨h, a⟩
  · exact h
  · exact absurd h (by simp)
/-! a number's value: how many times ten goes -/
def kdv : Nat → Int → Int
  | 0, v => v
  | n + 1, v => kdv n (v / 10)
theorem kdv_s : ∀ (n : Nat) (v : Int), kdv (n + 1) v = kdv n v / 10
  | 0, _ => rfl
  | n + 1, v => kdv_s n (v / 10)
/-! what type leaves in the row -/
def kBy (w : Int32) (i : Nat) : Int32 := (w >>> ((Int32.ofNat (24 - 8 * i)) &&& 31)) &&& 255
theorem kBy_x {w x : Int32} {i : Nat} (hx : x.toInt = 24 - 8 * (i : Int)) (hi : i ≤ 3) : (w >>> (x &&& 31)) &&& 255 = kBy w i := by
  have : x = Int32.ofNat (24 - 8 * i) := zle_eq.2 (by rw [hx, Int32.toInt_ofNat_of_lt (by omega)]; omega)
  unfold kBy; rw [← this]
def kTf (w : Int32) (f : Nat → Int32) (l : Int) : Nat → (Nat → Int32)
  | 0 => f
  | i + 1 => if kBy w i = 0 then kTf w f l i else upd (kTf w f l i) (l + ycB (ybM w) i).toNat (kBy w i)
theorem kX4 {f : Nat → Int32} {x : Int32} (h0 : 0 ≤ x.toInt) (h1 : x.toInt ≤ 4) : (x.toInt = 0 ∧ f x.toNatClampNeg = f 0) ∨ (x.toInt = 1 ∧ f x.toNatClampNeg = f 1) ∨ (x.toInt = 2 ∧ f x.toNatClampNeg = f 2) ∨ (x.toInt = 3 ∧ f x.toNatClampNeg = f 3) ∨ x.toInt = 4 := by
  rw [zcl]
  have : x.toInt = 0 ∨ x.toInt = 1 ∨ x.toInt = 2 ∨ x.toInt = 3 ∨ x.toInt = 4 := by omega
  rcases this with h | h | h | h | h
  · exact Or.inl ⟨h, by rw [h]; rfl⟩
  · exact Or.inr (Or.inl ⟨h, by rw [h]; rfl⟩)
  · exact Or.inr (Or.inr (Or.inl ⟨h, by rw [h]; rfl⟩))
  · exact Or.inr (Or.inr (Or.inr (Or.inl ⟨h, by rw [h]; rfl⟩)))
  · exact Or.inr (Or.inr (Or.inr (Or.inr h)))
theorem kX3 {f : Nat → Int32} {x : Int32} (h0 : 1 ≤ x.toInt) (h1 : x.toInt ≤ 4) : (x.toInt = 1 ∧ (f (x - 1).toNatClampNeg).toInt = (f 0).toInt) ∨ (x.toInt = 2 ∧ (f (x - 1).toNatClampNeg).toInt = (f 1).toInt) ∨ (x.toInt = 3 ∧ (f (x - 1).toNatClampNeg).toInt = (f 2).toInt) ∨ (x.toInt = 4 ∧ (f (x - 1).toNatClampNeg).toInt = (f 3).toInt) := by
  have e : (x - 1).toInt = x.toInt - 1 := zsub1 (by simp only [Int32.reduceToInt]; omega) (by simp only [Int32.reduceToInt]; omega)
  rcases kX4 (f := f) (x := x - 1) (by omega) (by omega) with ⟨h, q⟩ | ⟨h, q⟩ | ⟨h, q⟩ | ⟨h, q⟩ | h
  · exact Or.inl ⟨by omega, by rw [q]⟩
  · exact Or.inr (Or.inl ⟨by omega, by rw [q]⟩)
  · exact Or.inr (Or.inr (Or.inl ⟨by omega, by rw [q]⟩))
  · exact Or.inr (Or.inr (Or.inr ⟨by omega, by rw [q]⟩))
  · omega
theorem kdv_z : ∀ (k : Nat) (v : Int), 0 ≤ v → v < 10 ^ k → kdv k v = 0
  | 0, v, h0, h => by
    have h : v < 1 := h
    show v = 0
    omega
  | k + 1, v, h0, h => by
    show kdv k (v / 10) = 0
    refine kdv_z k _ (by omega) ?_
    rw [Int.pow_succ] at h; omega
theorem kdv_0 : ∀ (k : Nat) (v : Int), 0 ≤ v → 0 ≤ kdv k v
  | 0, _, h => h
  | k + 1, v, h => kdv_0 k (v / 10) (by omega)
theorem kp17 : (10 : Int) ^ 17 = 100000000000000000 := by decide
theorem kdv_17 {v : Int} (h0 : 0 ≤ v) (h1 : v ≤ 99999999999999999) {x : Int32} (hx : x.toInt = 17) : kdv x.toInt.toNat v = 0 := by
  rw [hx]; refine kdv_z 17 v h0 ?_
  rw [kp17]; omega
def kNw (g : Nat → Int32) (a b : Int) : Prop := ∃ j : Int, a < j ∧ j < b ∧ 0 ≤ j ∧ ¬ (g j.toNat).toInt = 0
theorem kNw_p {g : Nat → Int32} {a b : Int} (h : kNw g a b) : 0 < b := by obtain ⟨j, _, h1, h0, _⟩ := h; omega
theorem kNw_st {g : Nat → Int32} {x : Int32} {b : Int} (h : kNw g (-1) x.toInt) (h0 : 0 < x.toInt) (hz : (g (x - 1).toNatClampNeg).toInt = 0) (hb : b = x.toInt - 1) : kNw g (-1) b := by
  obtain ⟨j, h1, h2, h3, h4⟩ := h
  have hh := zhi x
  have e : (x - 1).toNatClampNeg = (x.toInt - 1).toNat := by
    rw [zcl, zsub1 (by simp only [Int32.reduceToInt]; omega) (by simp only [Int32.reduceToInt]; omega)]; simp only [Int32.reduceToInt]
  rw [e] at hz
  refine ⟨j, h1, ?_, h3, h4⟩
  by_cases c : j = x.toInt - 1
  · subst c; exact absurd hz h4
  · omega
theorem kNw_up {g : Nat → Int32} {x v : Int32} {a b : Int} (h : kNw g x.toInt b) (h0 : 0 ≤ x.toInt) (ha : a = x.toInt - 1) : kNw (upd g x.toNatClampNeg v) a b := by
  obtain ⟨j, h1, h2, h3, h4⟩ := h
  refine ⟨j, by omega, h2, h3, ?_⟩
  rw [pk_un (show j.toNat ≠ x.toNatClampNeg by rw [zcl]; omega)]; exact h4
theorem kNw_d {g : Nat → Int32} {x v : Int32} {a b : Int} (hv : ¬ v.toInt = 0) (h0 : 0 ≤ x.toInt) (hb : x.toInt < b) (ha : a = x.toInt - 1) : kNw (upd g x.toNatClampNeg v) a b := by
  refine ⟨x.toInt, by omega, hb, h0, ?_⟩
  rw [show x.toInt.toNat = x.toNatClampNeg by rw [zcl], pk_us]; exact hv
theorem kdg {v : Int64} (h0 : 0 < v.toInt) (h1 : v.toInt < 10) : ¬ ((v - v / 10 * 10).toInt32).toInt = 0 := by
  have e1 : (v / 10).toInt = 0 := by rw [zl_div10p (by omega)]; omega
  have e2 : v / 10 * 10 = 0 := by
    have : v / 10 = 0 := zl_eq.2 (by rw [e1]; rfl)
    rw [this]; rfl
  rw [e2]
  have e3 : v - 0 = v := by apply zl_eq.2; rw [zl_sub1] <;> (simp only [Int64.reduceToInt]; omega)
  rw [e3]
  have : v = (Int32.ofInt v.toInt).toInt64 := zl_eq.2 (by rw [zi64, Int32.toInt_ofInt_of_le (by omega) (by omega)])
  rw [this, Int32.toInt32_toInt64, Int32.toInt_ofInt_of_le (by omega) (by omega)]
  omega
theorem kdv_nx {V a b x : Int} (hk : x = kdv (a - 1 - b).toNat V) (h : b < a) : kdv (a - 1 - (b - 1)).toNat V = x / 10 := by
  rw [show (a - 1 - (b - 1)).toNat = (a - 1 - b).toNat + 1 by omega, kdv_s, ← hk]
theorem kdv_e {V a b b' q r : Int} (h : kdv (a - 1 - (b - 1)).toNat V = q) (hr : r = q) (hb : b' = b - 1) : r = kdv (a - 1 - b').toNat V := by
  rw [hr, hb, h]
theorem kdv_l {V q r b : Int} {x : Int32} (hk : q = kdv x.toInt.toNat V) (hb : b = x.toInt + 1) (h0 : 0 ≤ x.toInt) (hr : r = q / 10) : r = kdv b.toNat V := by
  rw [hb, show (x.toInt + 1).toNat = x.toInt.toNat + 1 by omega, kdv_s, ← hk, hr]
theorem kNw_n {g : Nat → Int32} {x : Int32} {v : Int64} {V a b q : Int} (hz : (V = 0 ∧ a = 0) ∨ (¬ V = 0 ∧ (0 < v.toInt ∨ kNw g x.toInt a))) (h0 : 0 ≤ x.toInt) (hx : x.toInt < a) (h5 : 0 ≤ v.toInt) (hq : q = v.toInt / 10) (hb : b = x.toInt - 1) : (V = 0 ∧ a = 0) ∨ (¬ V = 0 ∧ (0 < q ∨ kNw (upd g x.toNatClampNeg (v - v / 10 * 10).toInt32) b a)) := by
  rcases hz with ⟨_, h⟩ | ⟨hV, h⟩
  · omega
  · refine Or.inr ⟨hV, ?_⟩
    rcases h with h | h
    · by_cases c : v.toInt < 10
      · exact Or.inr (kNw_d (kdg h c) h0 hx hb)
      · exact Or.inl (by omega)
    · exact Or.inr (kNw_up h h0 hb)
theorem kNw_x {g : Nat → Int32} {V a x v : Int} (hz : (V = 0 ∧ a = 0) ∨ (¬ V = 0 ∧ (0 < v ∨ kNw g x a))) (hv : v = 0) (hx : x = -1) : (V = 0 ∧ a = 0) ∨ (¬ V = 0 ∧ kNw g (-1) a) := by
  rcases hz with h | ⟨hV, h⟩
  · exact Or.inl h
  · rw [hx] at h; exact Or.inr ⟨hV, h.resolve_left (by omega)⟩
theorem kdv_m {g : Nat → Int32} {V q b v : Int} {x : Int32} (hk : q = kdv x.toInt.toNat V) (h0 : 0 ≤ x.toInt) (hq : q = 0) (hb : b = x.toInt - 1) (hv : v = V) (hz : (V = 0 ∧ x.toInt = 0) ∨ ¬ V = 0) (hV : 0 ≤ V) : kdv x.toInt.toNat V = 0 ∧ v = kdv (x.toInt - 1 - b).toNat V ∧ ((V = 0 ∧ x.toInt = 0) ∨ (¬ V = 0 ∧ (0 < v ∨ kNw g b x.toInt))) := by
  refine ⟨by omega, ?_, ?_⟩
  · rw [hb, show (x.toInt - 1 - (x.toInt - 1)).toNat = 0 by omega]; exact hv
  · rcases hz with h | h
    · exact Or.inl h
    · exact Or.inr ⟨h, Or.inl (by omega)⟩
theorem kBy_z {w x : Int32} {i : Nat} (hx : x.toInt = 24 - 8 * (i : Int)) (hi : i ≤ 3) : (kBy w i = 0 ∧ ((w >>> (x &&& 31)) &&& (255 : Int32)).toInt = 0) ∨ (¬ kBy w i = 0 ∧ 0 < ((w >>> (x &&& 31)) &&& (255 : Int32)).toInt) := by
  rw [kBy_x hx hi]
  have h := zand255 (w >>> ((Int32.ofNat (24 - 8 * i)) &&& 31))
  have h0 : 0 ≤ (kBy w i).toInt := h.1
  by_cases c : kBy w i = 0
  · exact Or.inl ⟨c, by rw [c]; rfl⟩
  · refine Or.inr ⟨c, ?_⟩
    have : ¬ (kBy w i).toInt = 0 := fun q => c (zle_eq.2 q)
    omega
theorem kTf_n {w x : Int32} {f g : Nat → Int32} {l : Int} {i : Nat} (hf : g = kTf w f l i) (hx : x.toInt = 24 - 8 * (i : Int)) (hi : i ≤ 3) (hz : ((w >>> (x &&& 31)) &&& (255 : Int32)).toInt ≤ 0) : g = kTf w f l (i + 1) := by
  have e : kBy w i = 0 := by rcases kBy_z (w := w) hx hi with h | h <;> first | exact h.1 | omega
  show g = if kBy w i = 0 then kTf w f l i else _
  rw [if_pos e]; exact hf
theorem kTf_y {w x L : Int32} {f g : Nat → Int32} {l : Int} {i : Nat} (hf : g = kTf w f l i) (hl : L.toInt = l + ycB (ybM w) i) (hx : x.toInt = 24 - 8 * (i : Int)) (hi : i ≤ 3) (hz : ¬ ((w >>> (x &&& 31)) &&& (255 : Int32)).toInt ≤ 0) : upd g L.toNatClampNeg ((w >>> (x &&& 31)) &&& (255 : Int32)) = kTf w f l (i + 1) := by
  have e : ¬ kBy w i = 0 := by rcases kBy_z (w := w) hx hi with h | h <;> first | exact h.1 | omega
  show _ = if kBy w i = 0 then kTf w f l i else upd (kTf w f l i) (l + ycB (ybM w) i).toNat (kBy w i)
  rw [if_neg e, kBy_x hx hi, hf, zcl, hl]
theorem kTl_n {w x : Int32} {L l : Int} {i : Nat} (hl : L = l + ycB (ybM w) i) (hx : x.toInt = 24 - 8 * (i : Int)) (hi : i ≤ 3) (hz : ((w >>> (x &&& 31)) &&& (255 : Int32)).toInt ≤ 0) : L = l + ycB (ybM w) (i + 1) := by
  have := (zand255 (w >>> (x &&& 31))).1
  rw [(ybM_s (w := w) hx hi).1, if_pos (by omega)]; omega
theorem kTl_y {w x : Int32} {L M l : Int} {i : Nat} (hl : L = l + ycB (ybM w) i) (hx : x.toInt = 24 - 8 * (i : Int)) (hi : i ≤ 3) (hz : ¬ ((w >>> (x &&& 31)) &&& (255 : Int32)).toInt ≤ 0) (hM : M = L + 1) : M = l + ycB (ybM w) (i + 1) := by
  rw [(ybM_s (w := w) hx hi).1, if_neg (by omega)]; omega
