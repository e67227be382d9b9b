def kFi (i : Nat) (c : Int32) : Prop := (0 ≤ c.toInt ∧ c.toInt ≤ 255) ∧ ∃ j : Nat, j < zsn i ∧ (zsb i j).toInt = c.toInt8.toInt32.toInt
theorem kfi8 : ∀ k : Fin 256, (∃ j : Fin 17, zsb 8 j.1 = (nI k.1).toInt8.toInt32) ↔ ((k.1 : Int) = 32 ∨ (k.1 : Int) = 36 ∨ (k.1 : Int) = 45 ∨ (k.1 : Int) = 43 ∨ (k.1 : Int) = 40 ∨ (k.1 : Int) = 41 ∨ (k.1 : Int) = 58 ∨ (k.1 : Int) = 33 ∨ (k.1 : Int) = 94 ∨ (k.1 : Int) = 38 ∨ (k.1 : Int) = 39 ∨ (k.1 : Int) = 126 ∨ (k.1 : Int) = 123 ∨ (k.1 : Int) = 125 ∨ (k.1 : Int) = 60 ∨ (k.1 : Int) = 62 ∨ (k.1 : Int) = 61) := by decide +kernel
theorem kfi_sg {c : Int32} : kFi 8 c ↔ kSg c.toInt := by
  by_cases h : 0 ≤ c.toInt ∧ c.toInt ≤ 255
  · have e1 : c = nI c.toInt.toNat := by rw [zle_eq, znI (by omega)]; omega
    have h8 := kfi8 ⟨c.toInt.toNat, by omega⟩
    dsimp only at h8
    rw [← e1, show ((c.toInt.toNat : Nat) : Int) = c.toInt by omega] at h8
    constructor
    · rintro ⟨_, j, hj, hz⟩
      exact h8.1 ⟨⟨j, hj⟩, zle_eq.2 hz⟩
    · intro hs
      obtain ⟨j, hz⟩ := h8.2 hs
      exact ⟨h, j.1, j.2, zle_eq.1 hz⟩
  · constructor
    · rintro ⟨hh, _⟩; exact absurd hh h
    · intro hs; unfold kSg at hs; omega
theorem kfx_step {i : Nat} {x : Int32} {a r b : Int} (h : ∀ j : Nat, a ≤ (j : Int) → (j : Int) < x.toInt → ¬ (zsb i j).toInt = b) (h0 : 0 ≤ x.toInt) (hr : r = x.toInt + 1) (hx : ¬ (zsb i x.toNatClampNeg).toInt = b) : ∀ j : Nat, a ≤ (j : Int) → (j : Int) < r → ¬ (zsb i j).toInt = b := fun j ha hj => by
  rcases Int.lt_or_le (j : Int) x.toInt with c | c
  · exact h j ha c
  · have e2 : j = x.toNatClampNeg := by rw [zcl]; omega
    rw [e2]; exact hx
theorem kfi_y {i : Nat} {c r x : Int32} (h0 : 0 ≤ c.toInt) (h1 : c.toInt ≤ 255) (hr : 0 ≤ r.toInt) (hx : r.toInt < x.toInt) (hn : x.toInt ≤ (zsn i : Int)) (hz : (zsb i r.toNatClampNeg).toInt = c.toInt8.toInt32.toInt) : kFi i c := ⟨⟨h0, h1⟩, r.toNatClampNeg, by rw [zcl]; omega, hz⟩
theorem kfi_n {i : Nat} {c : Int32} {a x : Int} (h : ∀ j : Nat, a ≤ (j : Int) → (j : Int) < x → ¬ (zsb i j).toInt = c.toInt8.toInt32.toInt) (ha : a ≤ 0) (hx : (zsn i : Int) ≤ x) : ¬ kFi i c := fun ⟨_, j, hj, hz⟩ => h j (by omega) (by omega) hz
theorem kfi_o {i : Nat} {c : Int32} (h : c.toInt < 0 ∨ 255 < c.toInt) : ¬ kFi i c := fun ⟨hh, _⟩ => by omega
theorem kfi_0 {i : Nat} {c : Int32} (h : zsn i = 0) : ¬ kFi i c := fun ⟨_, j, hj, _⟩ => by omega
theorem kgo_w {f : Nat → Int32} {e p : Int} {i : Nat} (l : List Int) (hn : zsn i = l.length) (hb : ∀ j : Nat, j < l.length → (zsb i j).toInt = l.getD j 0) : kGo f e p i ↔ kW f e p l := by
  rw [kW_iff]; unfold kGo; rw [hn]
  exact ⟨fun h j hj => (h j hj).trans (hb j hj), fun h j hj => (h j hj).trans (hb j hj).symm⟩
theorem kgB {l : List Int} {i n : Nat} (h : ∀ m : Fin n, (zsb i m.1).toInt = l.getD m.1 0) : ∀ m : Nat, m < n → (zsb i m).toInt = l.getD m 0 := fun m hm => h ⟨m, hm⟩
theorem kgw_black {f : Nat → Int32} {e p : Int} : kGo f e p 0 ↔ kW f e p kb_black := kgo_w kb_black (by decide) (kgB (n := 7) (by decide))
theorem kgw_blue {f : Nat → Int32} {e p : Int} : kGo f e p 1 ↔ kW f e p kb_blue := kgo_w kb_blue (by decide) (kgB (n := 6) (by decide))
theorem kgw_cyan {f : Nat → Int32} {e p : Int} : kGo f e p 2 ↔ kW f e p kb_cyan := kgo_w kb_cyan (by decide) (kgB (n := 6) (by decide))
theorem kgw_green {f : Nat → Int32} {e p : Int} : kGo f e p 3 ↔ kW f e p kb_green := kgo_w kb_green (by decide) (kgB (n := 7) (by decide))
theorem kgw_magenta {f : Nat → Int32} {e p : Int} : kGo f e p 4 ↔ kW f e p kb_magenta := kgo_w kb_magenta (by decide) (kgB (n := 9) (by decide))
theorem kgw_red {f : Nat → Int32} {e p : Int} : kGo f e p 5 ↔ kW f e p kb_red := kgo_w kb_red (by decide) (kgB (n := 5) (by decide))
theorem kgw_white {f : Nat → Int32} {e p : Int} : kGo f e p 6 ↔ kW f e p kb_white := kgo_w kb_white (by decide) (kgB (n := 7) (by decide))
theorem kgw_yellow {f : Nat → Int32} {e p : Int} : kGo f e p 7 ↔ kW f e p kb_yellow := kgo_w kb_yellow (by decide) (kgB (n := 8) (by decide))
theorem kgw_gen {f : Nat → Int32} {e p : Int} : kGo f e p 9 ↔ kW f e p k_gen := kgo_w k_gen (by decide) (kgB (n := 7) (by decide))
theorem kgw_am {f : Nat → Int32} {e p : Int} : kGo f e p 10 ↔ kW f e p k_am := kgo_w k_am (by decide) (kgB (n := 5) (by decide))
theorem kgw_ap {f : Nat → Int32} {e p : Int} : kGo f e p 11 ↔ kW f e p k_ap := kgo_w k_ap (by decide) (kgB (n := 3) (by decide))
theorem kCo_go {f : Nat → Int32} {e p r : Int} {i : Nat} (h : kGo f e p i) (hi : i < 8) (hr : r = (zsn i : Int)) : kCo f e p r := by
  subst hr
  rcases (show i = 0 ∨ i = 1 ∨ i = 2 ∨ i = 3 ∨ i = 4 ∨ i = 5 ∨ i = 6 ∨ i = 7 by omega) with c | c | c | c | c | c | c | c <;> subst c
  · exact kCo_black (by decide) (kgw_black.1 h)
  · exact kCo_blue (by decide) (kgw_blue.1 h)
  · exact kCo_cyan (by decide) (kgw_cyan.1 h)
  · exact kCo_green (by decide) (kgw_green.1 h)
  · exact kCo_magenta (by decide) (kgw_magenta.1 h)
  · exact kCo_red (by decide) (kgw_red.1 h)
  · exact kCo_white (by decide) (kgw_white.1 h)
  · exact kCo_yellow (by decide) (kgw_yellow.1 h)
theorem kCo_no {f : Nat → Int32} {e p r x : Int} (h : ∀ i : Nat, (i : Int) < x → ¬ kGo f e p i) (hx : 8 ≤ x) (hr : r = 0) : kCo f e p r :=
  kCo_0 hr ⟨fun c => h 0 (by omega) (kgw_black.2 c), fun c => h 1 (by omega) (kgw_blue.2 c), fun c => h 2 (by omega) (kgw_cyan.2 c), fun c => h 3 (by omega) (kgw_green.2 c), fun c => h 4 (by omega) (kgw_magenta.2 c), fun c => h 5 (by omega) (kgw_red.2 c), fun c => h 6 (by omega) (kgw_white.2 c), fun c => h 7 (by omega) (kgw_yellow.2 c)⟩
theorem kNo_step {f : Nat → Int32} {e p r : Int} {i : Nat} {x : Int} (h : ∀ i : Nat, (i : Int) < x → ¬ kGo f e p i) (hr : r = x + 1) (hi : (i : Int) = x) (hn : ¬ kGo f e p i) : ∀ i : Nat, (i : Int) < r → ¬ kGo f e p i := fun j hj => by
  rcases Int.lt_or_le (j : Int) x with c | c
  · exact h j c
  · rw [show j = i by omega]; exact hn
theorem kGo_end {f : Nat → Int32} {e p : Int} {i : Nat} (h : kGo f e p i) (hi : i < 8) (h0 : 0 ≤ p) : p + (zsn i : Int) ≤ e := by
  have hz : ∀ i : Fin 8, 0 < zsn i.1 ∧ ¬ (zsb i.1 (zsn i.1 - 1)).toInt = 0 := by decide +kernel
  have h2 := hz ⟨i, hi⟩
  dsimp only at h2
  have h3 := h (zsn i - 1) (by omega)
  rcases Int.lt_or_le (p + ((zsn i - 1 : Nat) : Int)) e with c | c
  · omega
  · exfalso
    have : ych f e (p + ((zsn i - 1 : Nat) : Int)) = 0 := by unfold ych; rw [if_neg (by omega)]
    rw [this] at h3
    exact h2.2 (h3.symm.trans rfl)
theorem kCo_end {f : Nat → Int32} {e p r : Int} (h : kCo f e p r) (h0 : 0 ≤ p) : r = 0 ∨ p + r ≤ e := by
  rcases h with ⟨a, h⟩ | ⟨a, h⟩ | ⟨a, h⟩ | ⟨a, h⟩ | ⟨a, h⟩ | ⟨a, h⟩ | ⟨a, h⟩ | ⟨a, h⟩ | ⟨a, _⟩
  · right; have := kGo_end (kgw_black.2 h) (by decide) h0; rw [show zsn 0 = 7 by decide] at this; omega
  · right; have := kGo_end (kgw_blue.2 h) (by decide) h0; rw [show zsn 1 = 6 by decide] at this; omega
  · right; have := kGo_end (kgw_cyan.2 h) (by decide) h0; rw [show zsn 2 = 6 by decide] at this; omega
  · right; have := kGo_end (kgw_green.2 h) (by decide) h0; rw [show zsn 3 = 7 by decide] at this; omega
  · right; have := kGo_end (kgw_magenta.2 h) (by decide) h0; rw [show zsn 4 = 9 by decide] at this; omega
  · right; have := kGo_end (kgw_red.2 h) (by decide) h0; rw [show zsn 5 = 5 by decide] at this; omega
  · right; have := kGo_end (kgw_white.2 h) (by decide) h0; rw [show zsn 6 = 7 by decide] at this; omega
  · right; have := kGo_end (kgw_yellow.2 h) (by decide) h0; rw [show zsn 7 = 8 by decide] at this; omega
  · exact Or.inl a
theorem kCl_end {f : Nat → Int32} {e p r : Int} (h : kCl f e p r) (h0 : 0 ≤ p) : r = 0 ∨ p + r ≤ e := by
  have hc : ¬ ych f e p = 0 → p < e := fun c => by
    rcases Int.lt_or_le p e with d | d
    · exact d
    · exact absurd (by unfold ych; rw [if_neg (by omega)]) c
  rcases h with ⟨a, q, hq, b⟩ | ⟨a, b⟩ | ⟨a, b⟩ | ⟨a, b⟩
  · rcases hq with ⟨c, _⟩ | ⟨c, d, _⟩
    · left; omega
    · right; omega
  · omega
  · exact kCo_end b h0
  · rcases b with ⟨b, c⟩ | ⟨b, c⟩
    · right
      have := hc (by unfold kSg at b; omega)
      omega
    · exact Or.inl c
theorem kRun_step {f : Nat → Int32} {e p r : Int} {x : Int} (h : ∀ j : Int, 0 ≤ j → j < x → ysm (ych f e (p + j)) = ysm (ych f e p)) (hr : r = x + 1) (hx : ysm (ych f e (p + x)) = ysm (ych f e p)) : ∀ j : Int, 0 ≤ j → j < r → ysm (ych f e (p + j)) = ysm (ych f e p) := fun j h0 hj => by
  rcases Int.lt_or_le j x with c | c
  · exact h j h0 c
  · rw [show j = x by omega]; exact hx
theorem kRun_one {f : Nat → Int32} {e p r : Int} (hr : r ≤ 1) : ∀ j : Int, 0 ≤ j → j < r → ysm (ych f e (p + j)) = ysm (ych f e p) := fun j h0 hj => by rw [show p + j = p by omega]
theorem kRun_i {f : Nat → Int32} {e p n : Int} (h1 : 1 ≤ n) (h : ∀ j : Int, 0 ≤ j → j < n → ysm (ych f e (p + j)) = ysm (ych f e p)) (hx : ¬ ysm (ych f e (p + n)) = ysm (ych f e p)) : kRun f e p n := ⟨h1, h, hx⟩
theorem kRun_64 {f : Nat → Int32} {e p n : Int} (h1 : 1 ≤ n) (h : ∀ j : Int, 0 ≤ j → j < n → ysm (ych f e (p + j)) = ysm (ych f e p)) (hp : e ≤ p + n) (h0 : ¬ ysm (ych f e p) = 0) : kRun f e p n := ⟨h1, h, fun c => h0 (by rw [← c]; unfold ych; rw [if_neg (by omega)]; rfl)⟩
def kDt (f : Nat → Int32) (e p : Int) : Prop := kRw (ysm (ych f e p)) ∨ (∃ r : Int, 0 < r ∧ kBr f e p r) ∨ kW f e p k_am ∨ kW f e p k_ap
def kMd (f : Nat → Int32) (e p k : Int) : Prop := (kPl (ysm (ych f e p)) ∧ k = 2) ∨ (¬ kPl (ysm (ych f e p)) ∧ ysm (ych f e p) = 64 ∧ k = 6) ∨ (¬ kPl (ysm (ych f e p)) ∧ ¬ ysm (ych f e p) = 64 ∧ kDt f e p ∧ k = 5) ∨ (¬ kPl (ysm (ych f e p)) ∧ ¬ ysm (ych f e p) = 64 ∧ ¬ kDt f e p ∧ k = 1)
theorem kBr_0 {f : Nat → Int32} {e p r c : Int} (hr : r = 0) (hc : c = ysm (ych f e (p + 1))) (h : ¬ ych f e p = 91 ∨ (¬ c = 104 ∧ ¬ c = 109 ∧ ¬ c = 115)) : kBr f e p r := Or.inl ⟨fun ⟨a, b⟩ => by unfold kHms at b; omega, hr⟩
theorem kBr_y {f : Nat → Int32} {e p r c : Int} (h91 : ych f e p = 91) (hc : c = ysm (ych f e (p + 1))) (hh : c = 104 ∨ c = 109 ∨ c = 115) (hR : kRun f e (p + 1) r) (h93 : ych f e (p + 1 + r) = 93) : kBr f e p r := Or.inr ⟨⟨h91, by unfold kHms; omega⟩, r, hR, Or.inl ⟨h93, rfl⟩⟩
theorem kBr_n {f : Nat → Int32} {e p r n c : Int} (h91 : ych f e p = 91) (hc : c = ysm (ych f e (p + 1))) (hh : c = 104 ∨ c = 109 ∨ c = 115) (hR : kRun f e (p + 1) n) (h93 : ¬ ych f e (p + 1 + n) = 93) (hr : r = 0) : kBr f e p r := Or.inr ⟨⟨h91, by unfold kHms; omega⟩, n, hR, Or.inr ⟨h93, hr⟩⟩
theorem kDt_n {f : Nat → Int32} {e p r : Int} (h1 : ¬ kRw (ysm (ych f e p))) (h2 : kBr f e p r) (hr : r ≤ 0) (h3 : ¬ kW f e p k_am) (h4 : ¬ kW f e p k_ap) : ¬ kDt f e p := by
  rintro (h | ⟨q, hq, hb⟩ | h | h)
  · exact h1 h
  · have := kBr_det h2 hb; omega
  · exact h3 h
  · exact h4 h

theorem yS_plb {f : Nat → Int32} {e to : Int} : ∀ (n : Nat) (a : Int), a + n ≤ e → yP f a (a + n) → yS f e to (a + n) → yS f e to a
  | 0, a, _, _, h => by rw [show a + ((0 : Nat) : Int) = a by omega] at h; exact h
  | n + 1, a, he, hP, h => by
    have h1 : yS f e to (a + 1) := yS_plb n (a + 1) (by omega) (fun j h0 h1 => hP j (by omega) (by omega)) (by rw [show a + 1 + (n : Int) = a + ((n + 1 : Nat) : Int) by omega]; exact h)
    have hp := hP a (by omega) (by omega)
    unfold ypl at hp
    exact yS_back (by omega) hp.2.2.2.2 (Or.inr (Or.inr ⟨Or.inl hp.1, fun c => by unfold ypair at c; omega, rfl⟩)) h1
theorem kW_yP {f : Nat → Int32} {e p : Int} {l : List Int} (h : kW f e p l) (hl : ∀ x ∈ l, ypl x ∧ x ≠ 0) : yP f p (p + l.length) := fun j h0 h1 => by
  have h2 := (kW_iff l p).1 h (j - p).toNat (by omega)
  rw [show p + (((j - p).toNat : Nat) : Int) = j by omega] at h2
  have h3 : l.getD (j - p).toNat 0 ∈ l := by
    rw [List.getD_eq_getElem?_getD, List.getElem?_eq_getElem (by omega)]
    exact List.getElem_mem _
  exact (ypl_of h2 (hl _ h3).1 (hl _ h3).2).2
theorem kCo_yP {f : Nat → Int32} {e p r : Int} (h : kCo f e p r) : yP f p (p + r) := by
  rcases h with ⟨a, h⟩ | ⟨a, h⟩ | ⟨a, h⟩ | ⟨a, h⟩ | ⟨a, h⟩ | ⟨a, h⟩ | ⟨a, h⟩ | ⟨a, h⟩ | ⟨a, _⟩
  · subst a; exact kW_yP h (by unfold ypl; decide)
  · subst a; exact kW_yP h (by unfold ypl; decide)
  · subst a; exact kW_yP h (by unfold ypl; decide)
  · subst a; exact kW_yP h (by unfold ypl; decide)
  · subst a; exact kW_yP h (by unfold ypl; decide)
  · subst a; exact kW_yP h (by unfold ypl; decide)
  · subst a; exact kW_yP h (by unfold ypl; decide)
  · subst a; exact kW_yP h (by unfold ypl; decide)
  · exact yP_end (by omega)
theorem ych_f {f : Nat → Int32} {e p : Int} (h : p < e) : ych f e p = (f p.toNat).toInt := by unfold ych; rw [if_pos h]
theorem yS_cl {f : Nat → Int32} {e to p r q : Int} (h0 : 0 ≤ p) (he : p < e) (h59 : ¬ ych f e p = 59) (hc : kCl f e p r) (hr0 : 0 ≤ r) (hq : q = p + (if 1 < r then r else 1)) (h : yS f e to q) : yS f e to p := by
  rw [ych_f he] at h59
  rcases hc with ⟨a, x, hx, b⟩ | ⟨a, b⟩ | ⟨a, b⟩ | ⟨a, b⟩
  · rw [ych_f he] at a
    have hnp : ¬ ypair f e p := fun c => by unfold ypair at c; omega
    rcases id hx with ⟨c, _⟩ | ⟨c, d, _⟩
    · subst c
      have hr : r = 0 := by omega
      subst hr
      rw [if_neg (by decide)] at hq
      exact yS_back he h59 (Or.inr (Or.inr ⟨Or.inr hx, hnp, hq⟩)) h
    · rw [if_pos (by omega)] at hq
      exact yS_back he h59 (Or.inl ⟨a, by rw [show q = x by omega]; exact hx, by omega⟩) h
  · rw [ych_f he] at a
    rcases b with ⟨b, c⟩ | ⟨b, c⟩
    · subst c
      rw [if_pos (by decide)] at hq
      exact yS_back he h59 (Or.inr (Or.inl ⟨Or.inl (by omega), by unfold ypair; exact ⟨by omega, b⟩, hq⟩)) h
    · subst c
      rw [if_neg (by decide)] at hq
      exact yS_back he h59 (Or.inr (Or.inr ⟨Or.inl (by omega), fun c => by unfold ypair at c; omega, hq⟩)) h
  · rw [ych_f he] at a
    have hnp : ¬ ypair f e p := fun c => by unfold ypair at c; omega
    rcases kCo_end b h0 with c | c
    · subst c
      rw [if_neg (by decide)] at hq
      exact yS_back he h59 (Or.inr (Or.inr ⟨Or.inl (by omega), hnp, hq⟩)) h
    · by_cases h1 : 1 < r
      · rw [if_pos h1] at hq
        have := kCo_yP b
        exact yS_plb r.toNat p (by omega) (by rw [show p + ((r.toNat : Nat) : Int) = p + r by omega]; exact this) (by rw [show p + ((r.toNat : Nat) : Int) = q by omega]; exact h)
      · rw [if_neg h1] at hq
        exact yS_back he h59 (Or.inr (Or.inr ⟨Or.inl (by omega), hnp, hq⟩)) h
  · rw [ych_f he] at a b
    have hnp : ¬ ypair f e p := fun c => by unfold ypair at c; omega
    have hr : ¬ 1 < r := by rcases b with ⟨_, c⟩ | ⟨_, c⟩ <;> omega
    rw [if_neg hr] at hq
    exact yS_back he h59 (Or.inr (Or.inr ⟨Or.inl (by omega), hnp, hq⟩)) h
theorem yS_clc {f : Nat → Int32} {e x1 p r q : Int} (hS : ∀ to : Int, yS f e to p → yS f e to x1) (h0 : 0 ≤ p) (he : p < e) (h59 : ¬ ych f e p = 59) (hc : kCl f e p r) (hr0 : 0 ≤ r) (hq : q = p + (if 1 < r then r else 1)) : ∀ to : Int, yS f e to q → yS f e to x1 := fun to h => hS to (yS_cl h0 he h59 hc hr0 hq h)
def kKd (f : Nat → Int32) (e to : Int) : Nat → Int → Int → Int → Prop
  | 0, _, _, _ => False
  | n + 1, p, k, kp => (to ≤ p ∧ k = 1 ∧ kp = to) ∨ (p < to ∧ ∃ r : Int, kCl f e p r ∧ ((0 < r ∧ kKd f e to n (p + r) k kp) ∨ (r = 0 ∧ ∃ m : Int, kMd f e p m ∧ (¬ m = 1 ∧ k = m ∧ kp = p ∨ m = 1 ∧ kKd f e to n (p + 1) k kp))))
def kK (f : Nat → Int32) (e to p k kp : Int) : Prop := ∃ n, kKd f e to n p k kp
theorem kK_end {f : Nat → Int32} {e to p k kp : Int} (h : to ≤ p) (hk : k = 1) (hkp : kp = to) : kK f e to p k kp := ⟨1, Or.inl ⟨h, hk, hkp⟩⟩
theorem kK_cl {f : Nat → Int32} {e to p r k kp : Int} (h : p < to) (hc : kCl f e p r) (hr : 0 < r) (hn : kK f e to (p + r) k kp) : kK f e to p k kp := by
  obtain ⟨n, hn⟩ := hn; exact ⟨n + 1, Or.inr ⟨h, r, hc, Or.inl ⟨hr, hn⟩⟩⟩
theorem kK_md {f : Nat → Int32} {e to p r k kp : Int} (h : p < to) (hc : kCl f e p r) (hr : r = 0) (hm : kMd f e p k) (h1 : ¬ k = 1) (hkp : kp = p) : kK f e to p k kp := ⟨1, Or.inr ⟨h, r, hc, Or.inr ⟨hr, k, hm, Or.inl ⟨h1, rfl, hkp⟩⟩⟩⟩
theorem kK_1 {f : Nat → Int32} {e to p r m k kp : Int} (h : p < to) (hc : kCl f e p r) (hr : r = 0) (hm : kMd f e p m) (h1 : m = 1) (hn : kK f e to (p + 1) k kp) : kK f e to p k kp := by
  obtain ⟨n, hn⟩ := hn; exact ⟨n + 1, Or.inr ⟨h, r, hc, Or.inr ⟨hr, m, hm, Or.inr ⟨h1, hn⟩⟩⟩⟩
theorem kMd_det {f : Nat → Int32} {e p k q : Int} (h : kMd f e p k) (g : kMd f e p q) : k = q := by
  rcases h with ⟨a, b⟩ | ⟨a, a2, b⟩ | ⟨a, a2, a3, b⟩ | ⟨a, a2, a3, b⟩ <;> rcases g with ⟨c, d⟩ | ⟨c, c2, d⟩ | ⟨c, c2, c3, d⟩ | ⟨c, c2, c3, d⟩ <;> first | (exact b.trans d.symm) | exact absurd a c | exact absurd c a | exact absurd a2 c2 | exact absurd c2 a2 | exact absurd a3 c3 | exact absurd c3 a3
theorem kKd_det {f : Nat → Int32} {e to : Int} : ∀ (n m : Nat) (p k kp q qp : Int), kKd f e to n p k kp → kKd f e to m p q qp → k = q ∧ kp = qp
  | 0, _, _, _, _, _, _, h, _ => h.elim
  | _ + 1, 0, _, _, _, _, _, _, h => h.elim
  | n + 1, m + 1, p, k, kp, q, qp, h, g => by
    rcases h with ⟨a, b, c⟩ | ⟨a, r, hc, h⟩ <;> rcases g with ⟨a', b', c'⟩ | ⟨a', r', hc', g⟩
    · omega
    · omega
    · omega
    · have hr := kCl_det hc hc'
      subst hr
      rcases h with ⟨h0, h⟩ | ⟨h0, x, hx, h⟩ <;> rcases g with ⟨g0, g⟩ | ⟨g0, y, hy, g⟩
      · exact kKd_det n m _ _ _ _ _ h g
      · omega
      · omega
      · have hm := kMd_det hx hy
        subst hm
        rcases h with ⟨h1, h2, h3⟩ | ⟨h1, h⟩ <;> rcases g with ⟨g1, g2, g3⟩ | ⟨g1, g⟩
        · omega
        · omega
        · omega
        · exact kKd_det n m _ _ _ _ _ h g
theorem kK_det {f : Nat → Int32} {e to p k kp q qp : Int} (h : kK f e to p k kp) (g : kK f e to p q qp) : k = q ∧ kp = qp := by
  obtain ⟨n, h⟩ := h; obtain ⟨m, g⟩ := g; exact kKd_det n m _ _ _ _ _ h g
theorem kzm1 {x r : Int32} (h0 : 0 ≤ x.toInt) (h1 : x.toInt ≤ 100) (hr : r.toInt = 0) : (x + zmax 1 r).toInt = x.toInt + 1 := by
  have h : (zmax 1 r).toInt = 1 := by rw [qmax]; simp only [Int32.reduceToInt]; omega
  rw [zadd1 (by omega) (by omega), h]
theorem kzm2 {x r : Int32} (h0 : 0 ≤ x.toInt) (h1 : x.toInt ≤ 100) (hr : 0 < r.toInt) (h2 : r.toInt ≤ 100) : (x + zmax 1 r).toInt = x.toInt + r.toInt := by
  have h : (zmax 1 r).toInt = r.toInt := by rw [qmax]; simp only [Int32.reduceToInt]; omega
  rw [zadd1 (by omega) (by omega), h]

theorem ysm_lt {f : Nat → Int32} {e p : Int} (h : ¬ ysm (ych f e p) = 0) : p < e := by
  rcases Int.lt_or_le p e with d | d
  · exact d
  · exact absurd (by unfold ych; rw [if_neg (by omega)]; rfl) h
theorem kCl_0 {f : Nat → Int32} {e p : Int} (h34 : ¬ ych f e p = 34) (h92 : ¬ ych f e p = 92) (h95 : ¬ ych f e p = 95) (h42 : ¬ ych f e p = 42) (h91 : ¬ ych f e p = 91) (hs : ¬ kSg (ych f e p)) : kCl f e p 0 := Or.inr (Or.inr (Or.inr ⟨⟨h34, h92, h95, h42, h91⟩, Or.inr ⟨hs, rfl⟩⟩))
theorem kCl_low {f : Nat → Int32} {e p c : Int} (h : ysm (ych f e p) = c) (hc : c = 48 ∨ c = 35 ∨ c = 63 ∨ c = 64 ∨ (97 ≤ c ∧ c ≤ 122)) : kCl f e p 0 := by
  have h2 : ych f e p = c ∨ (65 ≤ ych f e p ∧ ych f e p ≤ 90) := by unfold ysm at h; split at h <;> omega
  refine kCl_0 ?_ ?_ ?_ ?_ ?_ ?_
  · omega
  · omega
  · omega
  · omega
  · omega
  · unfold kSg; omega
theorem kBr_co {f : Nat → Int32} {e p r : Int} (h : kBr f e p r) (hr : 0 < r) : ych f e p = 91 ∧ kCo f e p 0 := by
  rcases h with ⟨_, a⟩ | ⟨⟨a, b⟩, n, hn, c⟩
  · omega
  · rcases c with ⟨c, d⟩ | ⟨c, d⟩
    · refine ⟨a, kCo_0 rfl ?_⟩
      have h2 : ∀ x : Int, kHms (ysm (ych f e (p + 1))) → ¬ ysm (ych f e (p + 1)) = x ∨ ¬ ysm (ych f e (p + 1 + 1)) = 97 ∨ (¬ x = 98 ∧ ¬ x = 99 ∧ ¬ x = 103 ∧ ¬ x = 114 ∧ ¬ x = 119 ∧ ¬ x = 121 ∧ ¬ x = 109) := fun x hx => by
        unfold kHms at hx
        by_cases hm : ysm (ych f e (p + 1)) = 109
        · have h3 : ¬ ysm (ych f e (p + 1 + 1)) = 97 := by
            by_cases hn1 : n = 1
            · subst hn1; rw [c]; decide
            · have := hn.2.1 1 (by decide) (by have := hn.1; omega)
              omega
          omega
        · omega
      have hb := b
      unfold kHms at hb
      have m2 := h2 109 b
      refine ⟨?_, ?_, ?_, ?_, ?_, ?_, ?_, ?_⟩
      · intro k; simp only [kb_black, kW] at k; omega
      · intro k; simp only [kb_blue, kW] at k; omega
      · intro k; simp only [kb_cyan, kW] at k; omega
      · intro k; simp only [kb_green, kW] at k; omega
      · intro k; simp only [kb_magenta, kW] at k; omega
      · intro k; simp only [kb_red, kW] at k; omega
      · intro k; simp only [kb_white, kW] at k; omega
      · intro k; simp only [kb_yellow, kW] at k; omega
    · omega
theorem kDt_cl {f : Nat → Int32} {e p : Int} (h : kDt f e p) : kCl f e p 0 := by
  rcases h with h | ⟨r, hr, h⟩ | h | h
  · exact kCl_low rfl (by unfold kRw at h; omega)
  · have := kBr_co h hr
    exact Or.inr (Or.inr (Or.inl ⟨this.1, this.2⟩))
  · simp only [k_am, kW] at h; exact kCl_low h.1 (by omega)
  · simp only [k_ap, kW] at h; exact kCl_low h.1 (by omega)
theorem kMd_cl {f : Nat → Int32} {e p k : Int} (h : kMd f e p k) (h1 : ¬ k = 1) : kCl f e p 0 := by
  rcases h with ⟨a, b⟩ | ⟨a, a2, b⟩ | ⟨a, a2, a3, b⟩ | ⟨a, a2, a3, b⟩
  · exact kCl_low rfl (by unfold kPl at a; omega)
  · exact kCl_low a2 (by omega)
  · exact kDt_cl a3
  · exact absurd b h1
theorem kK_m {f : Nat → Int32} {e to p k : Int} (h : p < to) (hm : kMd f e p k) (h1 : ¬ k = 1) : ∃ kp : Int, kK f e to p k kp := ⟨p, kK_md h (kMd_cl hm h1) rfl hm h1 rfl⟩
theorem kDt_64 {f : Nat → Int32} {e p : Int} (h : ysm (ych f e p) = 64) : ¬ kDt f e p := by
  have h2 : ych f e p = 64 := by unfold ysm at h; split at h <;> omega
  rintro (k | ⟨r, hr, k⟩ | k | k)
  · unfold kRw at k; omega
  · have := (kBr_co k hr).1; omega
  · simp only [k_am, kW] at k; omega
  · simp only [k_ap, kW] at k; omega
theorem kK_q {f : Nat → Int32} {e to p q k kp : Int} (h : p < to) (hc : ych f e p = 34) (hq : yQ f e p q) (hpq : p < q) (hn : kK f e to q k kp) : kK f e to p k kp :=
  kK_cl h (r := q - p) (Or.inl ⟨hc, q, hq, rfl⟩) (by omega) (by rw [show p + (q - p) = q by omega]; exact hn)
theorem kK_p {f : Nat → Int32} {e to p k kp : Int} (h : p < to) (hc : ych f e p = 92 ∨ ych f e p = 95 ∨ ych f e p = 42) (he : p + 1 < e) (hn : kK f e to (p + 2) k kp) : kK f e to p k kp :=
  kK_cl h (r := 2) (Or.inr (Or.inl ⟨hc, Or.inl ⟨he, rfl⟩⟩)) (by decide) hn
theorem ycol_91 {f : Nat → Int32} {e p : Int} (h : 0 < ycol f e p) : ych f e p = 91 := by
  rcases kCo_ycol (f := f) (e := e) (p := p) with k | k | k | k | k | k | k | k | k
  · exact (kbi_black.1 k.2).1
  · exact (kbi_blue.1 k.2).1
  · exact (kbi_cyan.1 k.2).1
  · exact (kbi_green.1 k.2).1
  · exact (kbi_magenta.1 k.2).1
  · exact (kbi_red.1 k.2).1
  · exact (kbi_white.1 k.2).1
  · exact (kbi_yellow.1 k.2).1
  · omega
theorem kK_c {f : Nat → Int32} {e to p r k kp : Int} (h : p < to) (hc : r = ycol f e p) (hr : 0 < r) (hn : kK f e to (p + r) k kp) : kK f e to p k kp := by
  subst hc
  exact kK_cl h (Or.inr (Or.inr (Or.inl ⟨ycol_91 hr, kCo_ycol⟩))) hr hn
theorem kK_o {f : Nat → Int32} {e to p r k kp : Int} (h : p < to) (hq : ¬ ych f e p = 34 ∨ yQ f e p p) (hp : ¬ ((ych f e p = 92 ∨ ych f e p = 95 ∨ ych f e p = 42) ∧ p + 1 < e)) (hr : r = ycol f e p) (hr0 : r = 0) (hm : kMd f e p 1) (hn : kK f e to (p + 1) k kp) : kK f e to p k kp := by
  by_cases h34 : ych f e p = 34
  · rcases hq with c | c
    · exact absurd h34 c
    · exact kK_1 h (r := 0) (Or.inl ⟨h34, p, c, by omega⟩) rfl hm rfl hn
  by_cases hpr : ych f e p = 92 ∨ ych f e p = 95 ∨ ych f e p = 42
  · exact kK_1 h (r := 0) (Or.inr (Or.inl ⟨hpr, Or.inr ⟨fun c => hp ⟨hpr, c⟩, rfl⟩⟩)) rfl hm rfl hn
  by_cases h91 : ych f e p = 91
  · exact kK_1 h (r := 0) (Or.inr (Or.inr (Or.inl ⟨h91, by have := kCo_ycol (f := f) (e := e) (p := p); rw [← hr, hr0] at this; exact this⟩))) rfl hm rfl hn
  by_cases hs : kSg (ych f e p)
  · exact kK_cl h (r := 1) (Or.inr (Or.inr (Or.inr ⟨⟨h34, by omega, by omega, by omega, h91⟩, Or.inl ⟨hs, rfl⟩⟩))) (by decide) hn
  · exact kK_1 h (r := 0) (kCl_0 h34 (by omega) (by omega) (by omega) h91 hs) rfl hm rfl hn
theorem kMd_2 {f : Nat → Int32} {e p c : Int} (hc : c = ysm (ych f e p)) (h : kPl c) : kMd f e p 2 := by subst hc; exact Or.inl ⟨h, rfl⟩
theorem kMd_5 {f : Nat → Int32} {e p c : Int} (hc : c = ysm (ych f e p)) (h : ¬ kPl c) (hD : kDt f e p) : kMd f e p 5 := by subst hc; exact Or.inr (Or.inr (Or.inl ⟨h, fun q => kDt_64 q hD, hD, rfl⟩))
theorem kMd_6 {f : Nat → Int32} {e p c : Int} (hc : c = ysm (ych f e p)) (h : c = 64) : kMd f e p 6 := by subst hc; exact Or.inr (Or.inl ⟨fun q => by unfold kPl at q; omega, h, rfl⟩)
theorem kMd_1 {f : Nat → Int32} {e p c r : Int} (hc : c = ysm (ych f e p)) (h : ¬ kPl c) (h64 : ¬ c = 64) (h1 : ¬ kRw c) (h2 : kBr f e p r) (hr : r ≤ 0) (h3 : ¬ ySt f e p 418443653229) (h4 : ¬ ySt f e p 6369136) : kMd f e p 1 := by
  subst hc; exact Or.inr (Or.inr (Or.inr ⟨h, h64, kDt_n h1 h2 hr (fun k => h3 (kw_am.2 k)) (fun k => h4 (kw_ap.2 k)), rfl⟩))
theorem kDt_1 {f : Nat → Int32} {e p c : Int} (hc : c = ysm (ych f e p)) (h : kRw c) : kDt f e p := by subst hc; exact Or.inl h
theorem kDt_2 {f : Nat → Int32} {e p r : Int} (h : kBr f e p r) (hr : 0 < r) : kDt f e p := Or.inr (Or.inl ⟨r, hr, h⟩)
theorem kDt_3 {f : Nat → Int32} {e p : Int} (h : ySt f e p 418443653229) : kDt f e p := Or.inr (Or.inr (Or.inl (kw_am.1 h)))
theorem kDt_4 {f : Nat → Int32} {e p : Int} (h : ySt f e p 6369136) : kDt f e p := Or.inr (Or.inr (Or.inr (kw_ap.1 h)))
theorem kK_out {f : Nat → Int32} {e to p x k : Int} {A C : Prop} (hN : A) (hK : ∀ k kp : Int, kK f e to p k kp → kK f e to x k kp) (h : p < to) (hm : kMd f e p k) (h1 : ¬ k = 1) : C ∨ (A ∧ ∃ kp : Int, kK f e to x k kp) := by
  obtain ⟨kp, hk⟩ := kK_m h hm h1; exact Or.inr ⟨hN, kp, hK _ _ hk⟩
theorem ysm_34 {c : Int} : ysm c = 34 ↔ c = 34 := by unfold ysm; split <;> omega
theorem kRun_i0 {f : Nat → Int32} {e p n : Int} (h0 : 0 ≤ n) (h : ∀ j : Int, 0 ≤ j → j < n → ysm (ych f e (p + j)) = ysm (ych f e p)) (hx : ¬ ysm (ych f e (p + n)) = ysm (ych f e p)) : kRun f e p n := by
  refine ⟨?_, h, hx⟩
  rcases Int.lt_or_le 0 n with c | c
  · omega
  · exfalso; have e0 : n = 0 := by omega
    subst e0; exact hx (by rw [Int.add_zero])
theorem kK_outE {f : Nat → Int32} {e to p x k r : Int} {A C : Prop} (hN : A) (hK : ∀ k kp : Int, kK f e to p k kp → kK f e to x k kp) (h : p < to) (hm : kMd f e p k) (h1 : ¬ k = 1) (hr : r = k) : C ∨ (A ∧ ∃ kp : Int, kK f e to x r kp) := by
  subst hr; exact kK_out hN hK h hm h1
theorem kK_endE {f : Nat → Int32} {e to p x r : Int} {A C : Prop} (hN : A) (hK : ∀ k kp : Int, kK f e to p k kp → kK f e to x k kp) (h : to ≤ p) (hr : r = 1) : C ∨ (A ∧ ∃ kp : Int, kK f e to x r kp) := Or.inr ⟨hN, to, hK _ _ (kK_end h hr rfl)⟩
