/-! what both readers do: characters (ych), small ones (ysm), words, colours, rows -/
def kSg (c : Int) : Prop := c = 32 ∨ c = 36 ∨ c = 45 ∨ c = 43 ∨ c = 40 ∨ c = 41 ∨ c = 58 ∨ c = 33 ∨ c = 94 ∨ c = 38 ∨ c = 39 ∨ c = 126 ∨ c = 123 ∨ c = 125 ∨ c = 60 ∨ c = 62 ∨ c = 61
def kPl (c : Int) : Prop := c = 48 ∨ c = 35 ∨ c = 63
def kRw (c : Int) : Prop := c = 121 ∨ c = 109 ∨ c = 100 ∨ c = 104 ∨ c = 115
def kW (f : Nat → Int32) (e : Int) : Int → List Int → Prop
  | _, [] => True
  | p, a :: l => ysm (ych f e p) = a ∧ kW f e (p + 1) l
theorem kW_iff {f : Nat → Int32} {e : Int} : ∀ (l : List Int) (p : Int), kW f e p l ↔ ∀ j : Nat, j < l.length → ysm (ych f e (p + j)) = l.getD j 0
  | [], p => ⟨fun _ j hj => absurd hj (Nat.not_lt_zero _), fun _ => True.intro⟩
  | a :: l, p => by
    constructor
    · rintro ⟨h1, h2⟩ j hj
      cases j with
      | zero => simpa using h1
      | succ j =>
        have := (kW_iff l (p + 1)).1 h2 j (by simpa using hj)
        rw [show p + ((j + 1 : Nat) : Int) = p + 1 + (j : Int) by omega]
        simpa using this
    · intro h
      refine ⟨by simpa using h 0 (by simp), (kW_iff l (p + 1)).2 fun j hj => ?_⟩
      have := h (j + 1) (by simpa using hj)
      rw [show p + ((j + 1 : Nat) : Int) = p + 1 + (j : Int) by omega] at this
      simpa using this
theorem kSt_iff {f : Nat → Int32} {e p : Int} {w : Int64} (l : List Int) (h8 : l.length ≤ 7) (hu : zup w (nI l.length)) (hd : ∀ m : Nat, m < l.length → ¬ zup w (nI m)) (hb : ∀ j : Nat, j < l.length → zby8 w (nI l.length) (nI j) = l.getD j 0) : ySt f e p w ↔ kW f e p l := by
  have hnI : ∀ m : Nat, m ≤ 8 → (nI m).toInt = m := fun m hm => znI (by omega)
  rw [kW_iff]
  constructor
  · rintro ⟨n, h0, h1, h2, h3, h4⟩ j hj
    have en : n = nI l.length := by
      rw [zle_eq, hnI _ (by omega)]
      rcases Int.lt_trichotomy n.toInt l.length with c | c | c
      · exfalso
        have hz : zup w n := by
          rcases h2 with h2 | h2
          · omega
          · exact h2
        refine hd n.toInt.toNat (by omega) ?_
        have : nI n.toInt.toNat = n := by rw [zle_eq, hnI _ (by omega)]; omega
        rw [this]; exact hz
      · exact c
      · exact absurd hu (h3 (nI l.length) (by rw [hnI _ (by omega)]; omega) (by rw [hnI _ (by omega)]; exact c))
    have := h4 (nI j) (by rw [hnI _ (by omega)]; omega) (by rw [hnI _ (by omega), en, hnI _ (by omega)]; omega)
    rw [hnI _ (by omega), en, hb j hj] at this
    exact this
  · intro h
    refine ⟨nI l.length, by rw [hnI _ (by omega)]; omega, by rw [hnI _ (by omega)]; omega, Or.inr hu, fun m h0 h1 => ?_, fun k h0 h1 => ?_⟩
    · rw [hnI _ (by omega)] at h1
      have := hd m.toInt.toNat (by omega)
      have e2 : nI m.toInt.toNat = m := by rw [zle_eq, hnI _ (by omega)]; omega
      rw [e2] at this; exact this
    · rw [hnI _ (by omega)] at h1
      have := h k.toInt.toNat (by omega)
      have e2 : nI k.toInt.toNat = k := by rw [zle_eq, hnI _ (by omega)]; omega
      rw [show p + ((k.toInt.toNat : Nat) : Int) = p + k.toInt by omega] at this
      rw [this, ← hb k.toInt.toNat (by omega), e2]
theorem kwA {w : Int64} {n : Nat} (h : ∀ m : Fin n, ¬ zup w (nI m.1)) : ∀ m : Nat, m < n → ¬ zup w (nI m) := fun m hm => h ⟨m, hm⟩
theorem kwB {w : Int64} {l : List Int} {n : Nat} (h : ∀ m : Fin n, zby8 w (nI n) (nI m.1) = l.getD m.1 0) : ∀ m : Nat, m < n → zby8 w (nI n) (nI m) = l.getD m 0 := fun m hm => h ⟨m, hm⟩
def k_gen : List Int := [103, 101, 110, 101, 114, 97, 108]
theorem kw_gen {f : Nat → Int32} {e p : Int} : ySt f e p (29103447424000364 : Int64) ↔ kW f e p k_gen := kSt_iff k_gen (by decide) (by unfold zup; decide) (kwA (n := 7) (by unfold zup; decide)) (kwB (n := 7) (by unfold zby8; decide))
def k_am : List Int := [97, 109, 47, 112, 109]
theorem kw_am {f : Nat → Int32} {e p : Int} : ySt f e p (418443653229 : Int64) ↔ kW f e p k_am := kSt_iff k_am (by decide) (by unfold zup; decide) (kwA (n := 5) (by unfold zup; decide)) (kwB (n := 5) (by unfold zby8; decide))
def k_ap : List Int := [97, 47, 112]
theorem kw_ap {f : Nat → Int32} {e p : Int} : ySt f e p (6369136 : Int64) ↔ kW f e p k_ap := kSt_iff k_ap (by decide) (by unfold zup; decide) (kwA (n := 3) (by unfold zup; decide)) (kwB (n := 3) (by unfold zby8; decide))
def k_black : List Int := [98, 108, 97, 99, 107]
theorem kw_black {f : Nat → Int32} {e p : Int} : ySt f e p (422725116779 : Int64) ↔ kW f e p k_black := kSt_iff k_black (by decide) (by unfold zup; decide) (kwA (n := 5) (by unfold zup; decide)) (kwB (n := 5) (by unfold zby8; decide))
def k_blue : List Int := [98, 108, 117, 101]
theorem kw_blue {f : Nat → Int32} {e p : Int} : ySt f e p (1651275109 : Int64) ↔ kW f e p k_blue := kSt_iff k_blue (by decide) (by unfold zup; decide) (kwA (n := 4) (by unfold zup; decide)) (kwB (n := 4) (by unfold zby8; decide))
def k_cyan : List Int := [99, 121, 97, 110]
theorem kw_cyan {f : Nat → Int32} {e p : Int} : ySt f e p (1668899182 : Int64) ↔ kW f e p k_cyan := kSt_iff k_cyan (by decide) (by unfold zup; decide) (kwA (n := 4) (by unfold zup; decide)) (kwB (n := 4) (by unfold zby8; decide))
def k_green : List Int := [103, 114, 101, 101, 110]
theorem kw_green {f : Nat → Int32} {e p : Int} : ySt f e p (444300879214 : Int64) ↔ kW f e p k_green := kSt_iff k_green (by decide) (by unfold zup; decide) (kwA (n := 5) (by unfold zup; decide)) (kwB (n := 5) (by unfold zby8; decide))
def k_magenta : List Int := [109, 97, 103, 101, 110, 116, 97]
theorem kw_magenta {f : Nat → Int32} {e p : Int} : ySt f e p (30787869172724833 : Int64) ↔ kW f e p k_magenta := kSt_iff k_magenta (by decide) (by unfold zup; decide) (kwA (n := 7) (by unfold zup; decide)) (kwB (n := 7) (by unfold zby8; decide))
def k_red : List Int := [114, 101, 100]
theorem kw_red {f : Nat → Int32} {e p : Int} : ySt f e p (7497060 : Int64) ↔ kW f e p k_red := kSt_iff k_red (by decide) (by unfold zup; decide) (kwA (n := 3) (by unfold zup; decide)) (kwB (n := 3) (by unfold zby8; decide))
def k_white : List Int := [119, 104, 105, 116, 101]
theorem kw_white {f : Nat → Int32} {e p : Int} : ySt f e p (512852849765 : Int64) ↔ kW f e p k_white := kSt_iff k_white (by decide) (by unfold zup; decide) (kwA (n := 5) (by unfold zup; decide)) (kwB (n := 5) (by unfold zby8; decide))
def k_yellow : List Int := [121, 101, 108, 108, 111, 119]
theorem kw_yellow {f : Nat → Int32} {e p : Int} : ySt f e p (133476517703543 : Int64) ↔ kW f e p k_yellow := kSt_iff k_yellow (by decide) (by unfold zup; decide) (kwA (n := 6) (by unfold zup; decide)) (kwB (n := 6) (by unfold zby8; decide))

/-! rows, brackets, colours, common items -/
def kRun (f : Nat → Int32) (e p n : Int) : Prop := 1 ≤ n ∧ (∀ j : Int, 0 ≤ j → j < n → ysm (ych f e (p + j)) = ysm (ych f e p)) ∧ ¬ ysm (ych f e (p + n)) = ysm (ych f e p)
theorem kRun_det {f : Nat → Int32} {e p n m : Int} (h : kRun f e p n) (k : kRun f e p m) : n = m := by
  rcases Int.lt_trichotomy n m with c | c | c
  · exact absurd (k.2.1 n (by have := h.1; omega) c) h.2.2
  · exact c
  · exact absurd (h.2.1 m (by have := k.1; omega) c) k.2.2
def kHms (c : Int) : Prop := c = 104 ∨ c = 109 ∨ c = 115
def kBr (f : Nat → Int32) (e p r : Int) : Prop := (¬ (ych f e p = 91 ∧ kHms (ysm (ych f e (p + 1)))) ∧ r = 0) ∨ ((ych f e p = 91 ∧ kHms (ysm (ych f e (p + 1)))) ∧ ∃ n : Int, kRun f e (p + 1) n ∧ (ych f e (p + 1 + n) = 93 ∧ r = n ∨ ¬ ych f e (p + 1 + n) = 93 ∧ r = 0))
theorem kBr_det {f : Nat → Int32} {e p r q : Int} (h : kBr f e p r) (k : kBr f e p q) : r = q := by
  rcases h with ⟨a, b⟩ | ⟨a, n, hn, b⟩ <;> rcases k with ⟨c, d⟩ | ⟨c, m, hm, d⟩
  · omega
  · exact absurd c a
  · exact absurd a c
  · have := kRun_det hn hm
    subst this
    rcases b with ⟨b, b2⟩ | ⟨b, b2⟩ <;> rcases d with ⟨d, d2⟩ | ⟨d, d2⟩
    · omega
    · exact absurd b d
    · exact absurd d b
    · omega
theorem ysm_91 {c : Int} : ysm c = 91 ↔ c = 91 := by unfold ysm; split <;> omega
theorem ysm_93 {c : Int} : ysm c = 93 ↔ c = 93 := by unfold ysm; split <;> omega
theorem kW_app {f : Nat → Int32} {e : Int} {c : Int} : ∀ (l : List Int) (p : Int), kW f e p (l ++ [c]) ↔ kW f e p l ∧ ysm (ych f e (p + l.length)) = c
  | [], p => by simp [kW]
  | a :: l, p => by
    have := kW_app (f := f) (e := e) (c := c) l (p + 1)
    simp only [List.cons_append, kW, this, List.length_cons]
    rw [show p + ((l.length + 1 : Nat) : Int) = p + 1 + (l.length : Int) by omega, and_assoc]
def kb_black : List Int := [91, 98, 108, 97, 99, 107, 93]
theorem kbi_black {f : Nat → Int32} {e p : Int} : kW f e p kb_black ↔ ych f e p = 91 ∧ kW f e (p + 1) k_black ∧ ych f e (p + 1 + 5) = 93 := by
  show kW f e p (91 :: (k_black ++ [93])) ↔ _
  simp only [kW, kW_app, ysm_91, ysm_93]; rfl
def kb_blue : List Int := [91, 98, 108, 117, 101, 93]
theorem kbi_blue {f : Nat → Int32} {e p : Int} : kW f e p kb_blue ↔ ych f e p = 91 ∧ kW f e (p + 1) k_blue ∧ ych f e (p + 1 + 4) = 93 := by
  show kW f e p (91 :: (k_blue ++ [93])) ↔ _
  simp only [kW, kW_app, ysm_91, ysm_93]; rfl
def kb_cyan : List Int := [91, 99, 121, 97, 110, 93]
theorem kbi_cyan {f : Nat → Int32} {e p : Int} : kW f e p kb_cyan ↔ ych f e p = 91 ∧ kW f e (p + 1) k_cyan ∧ ych f e (p + 1 + 4) = 93 := by
  show kW f e p (91 :: (k_cyan ++ [93])) ↔ _
  simp only [kW, kW_app, ysm_91, ysm_93]; rfl
def kb_green : List Int := [91, 103, 114, 101, 101, 110, 93]
theorem kbi_green {f : Nat → Int32} {e p : Int} : kW f e p kb_green ↔ ych f e p = 91 ∧ kW f e (p + 1) k_green ∧ ych f e (p + 1 + 5) = 93 := by
  show kW f e p (91 :: (k_green ++ [93])) ↔ _
  simp only [kW, kW_app, ysm_91, ysm_93]; rfl
def kb_magenta : List Int := [91, 109, 97, 103, 101, 110, 116, 97, 93]
theorem kbi_magenta {f : Nat → Int32} {e p : Int} : kW f e p kb_magenta ↔ ych f e p = 91 ∧ kW f e (p + 1) k_magenta ∧ ych f e (p + 1 + 7) = 93 := by
  show kW f e p (91 :: (k_magenta ++ [93])) ↔ _
  simp only [kW, kW_app, ysm_91, ysm_93]; rfl
def kb_red : List Int := [91, 114, 101, 100, 93]
theorem kbi_red {f : Nat → Int32} {e p : Int} : kW f e p kb_red ↔ ych f e p = 91 ∧ kW f e (p + 1) k_red ∧ ych f e (p + 1 + 3) = 93 := by
  show kW f e p (91 :: (k_red ++ [93])) ↔ _
  simp only [kW, kW_app, ysm_91, ysm_93]; rfl
def kb_white : List Int := [91, 119, 104, 105, 116, 101, 93]
theorem kbi_white {f : Nat → Int32} {e p : Int} : kW f e p kb_white ↔ ych f e p = 91 ∧ kW f e (p + 1) k_white ∧ ych f e (p + 1 + 5) = 93 := by
  show kW f e p (91 :: (k_white ++ [93])) ↔ _
  simp only [kW, kW_app, ysm_91, ysm_93]; rfl
def kb_yellow : List Int := [91, 121, 101, 108, 108, 111, 119, 93]
theorem kbi_yellow {f : Nat → Int32} {e p : Int} : kW f e p kb_yellow ↔ ych f e p = 91 ∧ kW f e (p + 1) k_yellow ∧ ych f e (p + 1 + 6) = 93 := by
  show kW f e p (91 :: (k_yellow ++ [93])) ↔ _
  simp only [kW, kW_app, ysm_91, ysm_93]; rfl
def kCo (f : Nat → Int32) (e p r : Int) : Prop := r = 7 ∧ kW f e p kb_black ∨ r = 6 ∧ kW f e p kb_blue ∨ r = 6 ∧ kW f e p kb_cyan ∨ r = 7 ∧ kW f e p kb_green ∨ r = 9 ∧ kW f e p kb_magenta ∨ r = 5 ∧ kW f e p kb_red ∨ r = 7 ∧ kW f e p kb_white ∨ r = 8 ∧ kW f e p kb_yellow ∨ r = 0 ∧ ¬ kW f e p kb_black ∧ ¬ kW f e p kb_blue ∧ ¬ kW f e p kb_cyan ∧ ¬ kW f e p kb_green ∧ ¬ kW f e p kb_magenta ∧ ¬ kW f e p kb_red ∧ ¬ kW f e p kb_white ∧ ¬ kW f e p kb_yellow
theorem kn_black_blue {f : Nat → Int32} {e p : Int} (h : kW f e p kb_black) (k : kW f e p kb_blue) : False := by simp only [kb_black, kb_blue, kW] at h k; omega
theorem kn_black_cyan {f : Nat → Int32} {e p : Int} (h : kW f e p kb_black) (k : kW f e p kb_cyan) : False := by simp only [kb_black, kb_cyan, kW] at h k; omega
theorem kn_black_green {f : Nat → Int32} {e p : Int} (h : kW f e p kb_black) (k : kW f e p kb_green) : False := by simp only [kb_black, kb_green, kW] at h k; omega
theorem kn_black_magenta {f : Nat → Int32} {e p : Int} (h : kW f e p kb_black) (k : kW f e p kb_magenta) : False := by simp only [kb_black, kb_magenta, kW] at h k; omega
theorem kn_black_red {f : Nat → Int32} {e p : Int} (h : kW f e p kb_black) (k : kW f e p kb_red) : False := by simp only [kb_black, kb_red, kW] at h k; omega
theorem kn_black_white {f : Nat → Int32} {e p : Int} (h : kW f e p kb_black) (k : kW f e p kb_white) : False := by simp only [kb_black, kb_white, kW] at h k; omega
theorem kn_black_yellow {f : Nat → Int32} {e p : Int} (h : kW f e p kb_black) (k : kW f e p kb_yellow) : False := by simp only [kb_black, kb_yellow, kW] at h k; omega
theorem kn_blue_cyan {f : Nat → Int32} {e p : Int} (h : kW f e p kb_blue) (k : kW f e p kb_cyan) : False := by simp only [kb_blue, kb_cyan, kW] at h k; omega
theorem kn_blue_green {f : Nat → Int32} {e p : Int} (h : kW f e p kb_blue) (k : kW f e p kb_green) : False := by simp only [kb_blue, kb_green, kW] at h k; omega
theorem kn_blue_magenta {f : Nat → Int32} {e p : Int} (h : kW f e p kb_blue) (k : kW f e p kb_magenta) : False := by simp only [kb_blue, kb_magenta, kW] at h k; omega
theorem kn_blue_red {f : Nat → Int32} {e p : Int} (h : kW f e p kb_blue) (k : kW f e p kb_red) : False := by simp only [kb_blue, kb_red, kW] at h k; omega
theorem kn_blue_white {f : Nat → Int32} {e p : Int} (h : kW f e p kb_blue) (k : kW f e p kb_white) : False := by simp only [kb_blue, kb_white, kW] at h k; omega
theorem kn_blue_yellow {f : Nat → Int32} {e p : Int} (h : kW f e p kb_blue) (k : kW f e p kb_yellow) : False := by simp only [kb_blue, kb_yellow, kW] at h k; omega
theorem kn_cyan_green {f : Nat → Int32} {e p : Int} (h : kW f e p kb_cyan) (k : kW f e p kb_green) : False := by simp only [kb_cyan, kb_green, kW] at h k; omega
theorem kn_cyan_magenta {f : Nat → Int32} {e p : Int} (h : kW f e p kb_cyan) (k : kW f e p kb_magenta) : False := by simp only [kb_cyan, kb_magenta, kW] at h k; omega
theorem kn_cyan_red {f : Nat → Int32} {e p : Int} (h : kW f e p kb_cyan) (k : kW f e p kb_red) : False := by simp only [kb_cyan, kb_red, kW] at h k; omega
theorem kn_cyan_white {f : Nat → Int32} {e p : Int} (h : kW f e p kb_cyan) (k : kW f e p kb_white) : False := by simp only [kb_cyan, kb_white, kW] at h k; omega
theorem kn_cyan_yellow {f : Nat → Int32} {e p : Int} (h : kW f e p kb_cyan) (k : kW f e p kb_yellow) : False := by simp only [kb_cyan, kb_yellow, kW] at h k; omega
theorem kn_green_magenta {f : Nat → Int32} {e p : Int} (h : kW f e p kb_green) (k : kW f e p kb_magenta) : False := by simp only [kb_green, kb_magenta, kW] at h k; omega
theorem kn_green_red {f : Nat → Int32} {e p : Int} (h : kW f e p kb_green) (k : kW f e p kb_red) : False := by simp only [kb_green, kb_red, kW] at h k; omega
theorem kn_green_white {f : Nat → Int32} {e p : Int} (h : kW f e p kb_green) (k : kW f e p kb_white) : False := by simp only [kb_green, kb_white, kW] at h k; omega
theorem kn_green_yellow {f : Nat → Int32} {e p : Int} (h : kW f e p kb_green) (k : kW f e p kb_yellow) : False := by simp only [kb_green, kb_yellow, kW] at h k; omega
theorem kn_magenta_red {f : Nat → Int32} {e p : Int} (h : kW f e p kb_magenta) (k : kW f e p kb_red) : False := by simp only [kb_magenta, kb_red, kW] at h k; omega
theorem kn_magenta_white {f : Nat → Int32} {e p : Int} (h : kW f e p kb_magenta) (k : kW f e p kb_white) : False := by simp only [kb_magenta, kb_white, kW] at h k; omega
theorem kn_magenta_yellow {f : Nat → Int32} {e p : Int} (h : kW f e p kb_magenta) (k : kW f e p kb_yellow) : False := by simp only [kb_magenta, kb_yellow, kW] at h k; omega
theorem kn_red_white {f : Nat → Int32} {e p : Int} (h : kW f e p kb_red) (k : kW f e p kb_white) : False := by simp only [kb_red, kb_white, kW] at h k; omega
theorem kn_red_yellow {f : Nat → Int32} {e p : Int} (h : kW f e p kb_red) (k : kW f e p kb_yellow) : False := by simp only [kb_red, kb_yellow, kW] at h k; omega
theorem kn_white_yellow {f : Nat → Int32} {e p : Int} (h : kW f e p kb_white) (k : kW f e p kb_yellow) : False := by simp only [kb_white, kb_yellow, kW] at h k; omega
theorem kCo_det {f : Nat → Int32} {e p r q : Int} (h : kCo f e p r) (k : kCo f e p q) : r = q := by
  rcases h with ⟨a, h⟩ | ⟨a, h⟩ | ⟨a, h⟩ | ⟨a, h⟩ | ⟨a, h⟩ | ⟨a, h⟩ | ⟨a, h⟩ | ⟨a, h⟩ | ⟨a, m0, m1, m2, m3, m4, m5, m6, m7⟩ <;> rcases k with ⟨b, k⟩ | ⟨b, k⟩ | ⟨b, k⟩ | ⟨b, k⟩ | ⟨b, k⟩ | ⟨b, k⟩ | ⟨b, k⟩ | ⟨b, k⟩ | ⟨b, l0, l1, l2, l3, l4, l5, l6, l7⟩
  · omega
  · exact (kn_black_blue h k).elim
  · exact (kn_black_cyan h k).elim
  · exact (kn_black_green h k).elim
  · exact (kn_black_magenta h k).elim
  · exact (kn_black_red h k).elim
  · exact (kn_black_white h k).elim
  · exact (kn_black_yellow h k).elim
  · exact absurd h l0
  · exact (kn_black_blue k h).elim
  · omega
  · exact (kn_blue_cyan h k).elim
  · exact (kn_blue_green h k).elim
  · exact (kn_blue_magenta h k).elim
  · exact (kn_blue_red h k).elim
  · exact (kn_blue_white h k).elim
  · exact (kn_blue_yellow h k).elim
  · exact absurd h l1
  · exact (kn_black_cyan k h).elim
  · exact (kn_blue_cyan k h).elim
  · omega
  · exact (kn_cyan_green h k).elim
  · exact (kn_cyan_magenta h k).elim
  · exact (kn_cyan_red h k).elim
  · exact (kn_cyan_white h k).elim
  · exact (kn_cyan_yellow h k).elim
  · exact absurd h l2
  · exact (kn_black_green k h).elim
  · exact (kn_blue_green k h).elim
  · exact (kn_cyan_green k h).elim
  · omega
  · exact (kn_green_magenta h k).elim
  · exact (kn_green_red h k).elim
  · exact (kn_green_white h k).elim
  · exact (kn_green_yellow h k).elim
  · exact absurd h l3
  · exact (kn_black_magenta k h).elim
  · exact (kn_blue_magenta k h).elim
  · exact (kn_cyan_magenta k h).elim
  · exact (kn_green_magenta k h).elim
  · omega
  · exact (kn_magenta_red h k).elim
  · exact (kn_magenta_white h k).elim
  · exact (kn_magenta_yellow h k).elim
  · exact absurd h l4
  · exact (kn_black_red k h).elim
  · exact (kn_blue_red k h).elim
  · exact (kn_cyan_red k h).elim
  · exact (kn_green_red k h).elim
  · exact (kn_magenta_red k h).elim
  · omega
  · exact (kn_red_white h k).elim
  · exact (kn_red_yellow h k).elim
  · exact absurd h l5
  · exact (kn_black_white k h).elim
  · exact (kn_blue_white k h).elim
  · exact (kn_cyan_white k h).elim
  · exact (kn_green_white k h).elim
  · exact (kn_magenta_white k h).elim
  · exact (kn_red_white k h).elim
  · omega
  · exact (kn_white_yellow h k).elim
  · exact absurd h l6
  · exact (kn_black_yellow k h).elim
  · exact (kn_blue_yellow k h).elim
  · exact (kn_cyan_yellow k h).elim
  · exact (kn_green_yellow k h).elim
  · exact (kn_magenta_yellow k h).elim
  · exact (kn_red_yellow k h).elim
  · exact (kn_white_yellow k h).elim
  · omega
  · exact absurd h l7
  · exact absurd k m0
  · exact absurd k m1
  · exact absurd k m2
  · exact absurd k m3
  · exact absurd k m4
  · exact absurd k m5
  · exact absurd k m6
  · exact absurd k m7
  · omega
theorem kCo_0 {f : Nat → Int32} {e p r : Int} (hr : r = 0) (h : ¬ kW f e p kb_black ∧ ¬ kW f e p kb_blue ∧ ¬ kW f e p kb_cyan ∧ ¬ kW f e p kb_green ∧ ¬ kW f e p kb_magenta ∧ ¬ kW f e p kb_red ∧ ¬ kW f e p kb_white ∧ ¬ kW f e p kb_yellow) : kCo f e p r := Or.inr (Or.inr (Or.inr (Or.inr (Or.inr (Or.inr (Or.inr (Or.inr ⟨hr, h⟩)))))))
theorem kCo_black {f : Nat → Int32} {e p r : Int} (hr : r = 7) (h : kW f e p kb_black) : kCo f e p r := Or.inl ⟨hr, h⟩
theorem kCo_blue {f : Nat → Int32} {e p r : Int} (hr : r = 6) (h : kW f e p kb_blue) : kCo f e p r := Or.inr (Or.inl ⟨hr, h⟩)
theorem kCo_cyan {f : Nat → Int32} {e p r : Int} (hr : r = 6) (h : kW f e p kb_cyan) : kCo f e p r := Or.inr (Or.inr (Or.inl ⟨hr, h⟩))
theorem kCo_green {f : Nat → Int32} {e p r : Int} (hr : r = 7) (h : kW f e p kb_green) : kCo f e p r := Or.inr (Or.inr (Or.inr (Or.inl ⟨hr, h⟩)))
theorem kCo_magenta {f : Nat → Int32} {e p r : Int} (hr : r = 9) (h : kW f e p kb_magenta) : kCo f e p r := Or.inr (Or.inr (Or.inr (Or.inr (Or.inl ⟨hr, h⟩))))
theorem kCo_red {f : Nat → Int32} {e p r : Int} (hr : r = 5) (h : kW f e p kb_red) : kCo f e p r := Or.inr (Or.inr (Or.inr (Or.inr (Or.inr (Or.inl ⟨hr, h⟩)))))
theorem kCo_white {f : Nat → Int32} {e p r : Int} (hr : r = 7) (h : kW f e p kb_white) : kCo f e p r := Or.inr (Or.inr (Or.inr (Or.inr (Or.inr (Or.inr (Or.inl ⟨hr, h⟩))))))
theorem kCo_yellow {f : Nat → Int32} {e p r : Int} (hr : r = 8) (h : kW f e p kb_yellow) : kCo f e p r := Or.inr (Or.inr (Or.inr (Or.inr (Or.inr (Or.inr (Or.inr (Or.inl ⟨hr, h⟩)))))))
theorem kz_black_blue {f : Nat → Int32} {e p : Int} (h : kW f e p k_black) (k : kW f e p k_blue) : False := by simp only [k_black, k_blue, kW] at h k; omega
theorem kz_black_cyan {f : Nat → Int32} {e p : Int} (h : kW f e p k_black) (k : kW f e p k_cyan) : False := by simp only [k_black, k_cyan, kW] at h k; omega
theorem kz_black_green {f : Nat → Int32} {e p : Int} (h : kW f e p k_black) (k : kW f e p k_green) : False := by simp only [k_black, k_green, kW] at h k; omega
theorem kz_black_magenta {f : Nat → Int32} {e p : Int} (h : kW f e p k_black) (k : kW f e p k_magenta) : False := by simp only [k_black, k_magenta, kW] at h k; omega
theorem kz_black_red {f : Nat → Int32} {e p : Int} (h : kW f e p k_black) (k : kW f e p k_red) : False := by simp only [k_black, k_red, kW] at h k; omega
theorem kz_black_white {f : Nat → Int32} {e p : Int} (h : kW f e p k_black) (k : kW f e p k_white) : False := by simp only [k_black, k_white, kW] at h k; omega
theorem kz_black_yellow {f : Nat → Int32} {e p : Int} (h : kW f e p k_black) (k : kW f e p k_yellow) : False := by simp only [k_black, k_yellow, kW] at h k; omega
theorem kz_blue_cyan {f : Nat → Int32} {e p : Int} (h : kW f e p k_blue) (k : kW f e p k_cyan) : False := by simp only [k_blue, k_cyan, kW] at h k; omega
theorem kz_blue_green {f : Nat → Int32} {e p : Int} (h : kW f e p k_blue) (k : kW f e p k_green) : False := by simp only [k_blue, k_green, kW] at h k; omega
theorem kz_blue_magenta {f : Nat → Int32} {e p : Int} (h : kW f e p k_blue) (k : kW f e p k_magenta) : False := by simp only [k_blue, k_magenta, kW] at h k; omega
theorem kz_blue_red {f : Nat → Int32} {e p : Int} (h : kW f e p k_blue) (k : kW f e p k_red) : False := by simp only [k_blue, k_red, kW] at h k; omega
theorem kz_blue_white {f : Nat → Int32} {e p : Int} (h : kW f e p k_blue) (k : kW f e p k_white) : False := by simp only [k_blue, k_white, kW] at h k; omega
theorem kz_blue_yellow {f : Nat → Int32} {e p : Int} (h : kW f e p k_blue) (k : kW f e p k_yellow) : False := by simp only [k_blue, k_yellow, kW] at h k; omega
theorem kz_cyan_green {f : Nat → Int32} {e p : Int} (h : kW f e p k_cyan) (k : kW f e p k_green) : False := by simp only [k_cyan, k_green, kW] at h k; omega
theorem kz_cyan_magenta {f : Nat → Int32} {e p : Int} (h : kW f e p k_cyan) (k : kW f e p k_magenta) : False := by simp only [k_cyan, k_magenta, kW] at h k; omega
theorem kz_cyan_red {f : Nat → Int32} {e p : Int} (h : kW f e p k_cyan) (k : kW f e p k_red) : False := by simp only [k_cyan, k_red, kW] at h k; omega
theorem kz_cyan_white {f : Nat → Int32} {e p : Int} (h : kW f e p k_cyan) (k : kW f e p k_white) : False := by simp only [k_cyan, k_white, kW] at h k; omega
theorem kz_cyan_yellow {f : Nat → Int32} {e p : Int} (h : kW f e p k_cyan) (k : kW f e p k_yellow) : False := by simp only [k_cyan, k_yellow, kW] at h k; omega
theorem kz_green_magenta {f : Nat → Int32} {e p : Int} (h : kW f e p k_green) (k : kW f e p k_magenta) : False := by simp only [k_green, k_magenta, kW] at h k; omega
theorem kz_green_red {f : Nat → Int32} {e p : Int} (h : kW f e p k_green) (k : kW f e p k_red) : False := by simp only [k_green, k_red, kW] at h k; omega
theorem kz_green_white {f : Nat → Int32} {e p : Int} (h : kW f e p k_green) (k : kW f e p k_white) : False := by simp only [k_green, k_white, kW] at h k; omega
theorem kz_green_yellow {f : Nat → Int32} {e p : Int} (h : kW f e p k_green) (k : kW f e p k_yellow) : False := by simp only [k_green, k_yellow, kW] at h k; omega
theorem kz_magenta_red {f : Nat → Int32} {e p : Int} (h : kW f e p k_magenta) (k : kW f e p k_red) : False := by simp only [k_magenta, k_red, kW] at h k; omega
theorem kz_magenta_white {f : Nat → Int32} {e p : Int} (h : kW f e p k_magenta) (k : kW f e p k_white) : False := by simp only [k_magenta, k_white, kW] at h k; omega
theorem kz_magenta_yellow {f : Nat → Int32} {e p : Int} (h : kW f e p k_magenta) (k : kW f e p k_yellow) : False := by simp only [k_magenta, k_yellow, kW] at h k; omega
theorem kz_red_white {f : Nat → Int32} {e p : Int} (h : kW f e p k_red) (k : kW f e p k_white) : False := by simp only [k_red, k_white, kW] at h k; omega
theorem kz_red_yellow {f : Nat → Int32} {e p : Int} (h : kW f e p k_red) (k : kW f e p k_yellow) : False := by simp only [k_red, k_yellow, kW] at h k; omega
theorem kz_white_yellow {f : Nat → Int32} {e p : Int} (h : kW f e p k_white) (k : kW f e p k_yellow) : False := by simp only [k_white, k_yellow, kW] at h k; omega
theorem kCo_ycol {f : Nat → Int32} {e p : Int} : kCo f e p (ycol f e p) := by
  by_cases h91 : ych f e p = 91
  rotate_left
  · have h0 : ycol f e p = 0 := by
      have : ycn f e p = 0 := by unfold ycn; rw [if_pos h91]
      unfold ycol; rw [this]; rfl
    refine kCo_0 h0 ⟨fun c => h91 (kbi_black.1 c).1, fun c => h91 (kbi_blue.1 c).1, fun c => h91 (kbi_cyan.1 c).1, fun c => h91 (kbi_green.1 c).1, fun c => h91 (kbi_magenta.1 c).1, fun c => h91 (kbi_red.1 c).1, fun c => h91 (kbi_white.1 c).1, fun c => h91 (kbi_yellow.1 c).1⟩
  by_cases g_black : ySt f e (p + 1) 422725116779
  · have hn : ycn f e p = 5 := by unfold ycn; rw [if_neg (fun c => c h91), if_pos g_black]
    by_cases h93 : ych f e (p + 1 + 5) = 93
    · exact kCo_black (by unfold ycol; rw [hn, if_pos ⟨by decide, h93⟩]; rfl) (kbi_black.2 ⟨h91, kw_black.1 g_black, h93⟩)
    · have hk := kw_black.1 g_black
      refine kCo_0 (by unfold ycol; rw [hn, if_neg (fun c => h93 c.2)]) ⟨fun c => h93 (kbi_black.1 c).2.2, fun c => kz_black_blue hk (kbi_blue.1 c).2.1, fun c => kz_black_cyan hk (kbi_cyan.1 c).2.1, fun c => kz_black_green hk (kbi_green.1 c).2.1, fun c => kz_black_magenta hk (kbi_magenta.1 c).2.1, fun c => kz_black_red hk (kbi_red.1 c).2.1, fun c => kz_black_white hk (kbi_white.1 c).2.1, fun c => kz_black_yellow hk (kbi_yellow.1 c).2.1⟩
  by_cases g_green : ySt f e (p + 1) 444300879214
  · have hn : ycn f e p = 5 := by unfold ycn; rw [if_neg (fun c => c h91), if_neg g_black, if_pos g_green]
    by_cases h93 : ych f e (p + 1 + 5) = 93
    · exact kCo_green (by unfold ycol; rw [hn, if_pos ⟨by decide, h93⟩]; rfl) (kbi_green.2 ⟨h91, kw_green.1 g_green, h93⟩)
    · have hk := kw_green.1 g_green
      refine kCo_0 (by unfold ycol; rw [hn, if_neg (fun c => h93 c.2)]) ⟨fun c => g_black (kw_black.2 (kbi_black.1 c).2.1), fun c => kz_blue_green (kbi_blue.1 c).2.1 hk, fun c => kz_cyan_green (kbi_cyan.1 c).2.1 hk, fun c => h93 (kbi_green.1 c).2.2, fun c => kz_green_magenta hk (kbi_magenta.1 c).2.1, fun c => kz_green_red hk (kbi_red.1 c).2.1, fun c => kz_green_white hk (kbi_white.1 c).2.1, fun c => kz_green_yellow hk (kbi_yellow.1 c).2.1⟩
  by_cases g_white : ySt f e (p + 1) 512852849765
  · have hn : ycn f e p = 5 := by unfold ycn; rw [if_neg (fun c => c h91), if_neg g_black, if_neg g_green, if_pos g_white]
    by_cases h93 : ych f e (p + 1 + 5) = 93
    · exact kCo_white (by unfold ycol; rw [hn, if_pos ⟨by decide, h93⟩]; rfl) (kbi_white.2 ⟨h91, kw_white.1 g_white, h93⟩)
    · have hk := kw_white.1 g_white
      refine kCo_0 (by unfold ycol; rw [hn, if_neg (fun c => h93 c.2)]) ⟨fun c => g_black (kw_black.2 (kbi_black.1 c).2.1), fun c => kz_blue_white (kbi_blue.1 c).2.1 hk, fun c => kz_cyan_white (kbi_cyan.1 c).2.1 hk, fun c => g_green (kw_green.2 (kbi_green.1 c).2.1), fun c => kz_magenta_white (kbi_magenta.1 c).2.1 hk, fun c => kz_red_white (kbi_red.1 c).2.1 hk, fun c => h93 (kbi_white.1 c).2.2, fun c => kz_white_yellow hk (kbi_yellow.1 c).2.1⟩
  by_cases g_blue : ySt f e (p + 1) 1651275109
  · have hn : ycn f e p = 4 := by unfold ycn; rw [if_neg (fun c => c h91), if_neg g_black, if_neg g_green, if_neg g_white, if_pos g_blue]
    by_cases h93 : ych f e (p + 1 + 4) = 93
    · exact kCo_blue (by unfold ycol; rw [hn, if_pos ⟨by decide, h93⟩]; rfl) (kbi_blue.2 ⟨h91, kw_blue.1 g_blue, h93⟩)
    · have hk := kw_blue.1 g_blue
      refine kCo_0 (by unfold ycol; rw [hn, if_neg (fun c => h93 c.2)]) ⟨fun c => g_black (kw_black.2 (kbi_black.1 c).2.1), fun c => h93 (kbi_blue.1 c).2.2, fun c => kz_blue_cyan hk (kbi_cyan.1 c).2.1, fun c => g_green (kw_green.2 (kbi_green.1 c).2.1), fun c => kz_blue_magenta hk (kbi_magenta.1 c).2.1, fun c => kz_blue_red hk (kbi_red.1 c).2.1, fun c => g_white (kw_white.2 (kbi_white.1 c).2.1), fun c => kz_blue_yellow hk (kbi_yellow.1 c).2.1⟩
  by_cases g_cyan : ySt f e (p + 1) 1668899182
  · have hn : ycn f e p = 4 := by unfold ycn; rw [if_neg (fun c => c h91), if_neg g_black, if_neg g_green, if_neg g_white, if_neg g_blue, if_pos g_cyan]
    by_cases h93 : ych f e (p + 1 + 4) = 93
    · exact kCo_cyan (by unfold ycol; rw [hn, if_pos ⟨by decide, h93⟩]; rfl) (kbi_cyan.2 ⟨h91, kw_cyan.1 g_cyan, h93⟩)
    · have hk := kw_cyan.1 g_cyan
      refine kCo_0 (by unfold ycol; rw [hn, if_neg (fun c => h93 c.2)]) ⟨fun c => g_black (kw_black.2 (kbi_black.1 c).2.1), fun c => g_blue (kw_blue.2 (kbi_blue.1 c).2.1), fun c => h93 (kbi_cyan.1 c).2.2, fun c => g_green (kw_green.2 (kbi_green.1 c).2.1), fun c => kz_cyan_magenta hk (kbi_magenta.1 c).2.1, fun c => kz_cyan_red hk (kbi_red.1 c).2.1, fun c => g_white (kw_white.2 (kbi_white.1 c).2.1), fun c => kz_cyan_yellow hk (kbi_yellow.1 c).2.1⟩
  by_cases g_red : ySt f e (p + 1) 7497060
  · have hn : ycn f e p = 3 := by unfold ycn; rw [if_neg (fun c => c h91), if_neg g_black, if_neg g_green, if_neg g_white, if_neg g_blue, if_neg g_cyan, if_pos g_red]
    by_cases h93 : ych f e (p + 1 + 3) = 93
    · exact kCo_red (by unfold ycol; rw [hn, if_pos ⟨by decide, h93⟩]; rfl) (kbi_red.2 ⟨h91, kw_red.1 g_red, h93⟩)
    · have hk := kw_red.1 g_red
      refine kCo_0 (by unfold ycol; rw [hn, if_neg (fun c => h93 c.2)]) ⟨fun c => g_black (kw_black.2 (kbi_black.1 c).2.1), fun c => g_blue (kw_blue.2 (kbi_blue.1 c).2.1), fun c => g_cyan (kw_cyan.2 (kbi_cyan.1 c).2.1), fun c => g_green (kw_green.2 (kbi_green.1 c).2.1), fun c => kz_magenta_red (kbi_magenta.1 c).2.1 hk, fun c => h93 (kbi_red.1 c).2.2, fun c => g_white (kw_white.2 (kbi_white.1 c).2.1), fun c => kz_red_yellow hk (kbi_yellow.1 c).2.1⟩
  by_cases g_yellow : ySt f e (p + 1) 133476517703543
  · have hn : ycn f e p = 6 := by unfold ycn; rw [if_neg (fun c => c h91), if_neg g_black, if_neg g_green, if_neg g_white, if_neg g_blue, if_neg g_cyan, if_neg g_red, if_pos g_yellow]
    by_cases h93 : ych f e (p + 1 + 6) = 93
    · exact kCo_yellow (by unfold ycol; rw [hn, if_pos ⟨by decide, h93⟩]; rfl) (kbi_yellow.2 ⟨h91, kw_yellow.1 g_yellow, h93⟩)
    · have hk := kw_yellow.1 g_yellow
      refine kCo_0 (by unfold ycol; rw [hn, if_neg (fun c => h93 c.2)]) ⟨fun c => g_black (kw_black.2 (kbi_black.1 c).2.1), fun c => g_blue (kw_blue.2 (kbi_blue.1 c).2.1), fun c => g_cyan (kw_cyan.2 (kbi_cyan.1 c).2.1), fun c => g_green (kw_green.2 (kbi_green.1 c).2.1), fun c => kz_magenta_yellow (kbi_magenta.1 c).2.1 hk, fun c => g_red (kw_red.2 (kbi_red.1 c).2.1), fun c => g_white (kw_white.2 (kbi_white.1 c).2.1), fun c => h93 (kbi_yellow.1 c).2.2⟩
  by_cases g_magenta : ySt f e (p + 1) 30787869172724833
  · have hn : ycn f e p = 7 := by unfold ycn; rw [if_neg (fun c => c h91), if_neg g_black, if_neg g_green, if_neg g_white, if_neg g_blue, if_neg g_cyan, if_neg g_red, if_neg g_yellow, if_pos g_magenta]
    by_cases h93 : ych f e (p + 1 + 7) = 93
    · exact kCo_magenta (by unfold ycol; rw [hn, if_pos ⟨by decide, h93⟩]; rfl) (kbi_magenta.2 ⟨h91, kw_magenta.1 g_magenta, h93⟩)
    · have hk := kw_magenta.1 g_magenta
      refine kCo_0 (by unfold ycol; rw [hn, if_neg (fun c => h93 c.2)]) ⟨fun c => g_black (kw_black.2 (kbi_black.1 c).2.1), fun c => g_blue (kw_blue.2 (kbi_blue.1 c).2.1), fun c => g_cyan (kw_cyan.2 (kbi_cyan.1 c).2.1), fun c => g_green (kw_green.2 (kbi_green.1 c).2.1), fun c => h93 (kbi_magenta.1 c).2.2, fun c => g_red (kw_red.2 (kbi_red.1 c).2.1), fun c => g_white (kw_white.2 (kbi_white.1 c).2.1), fun c => g_yellow (kw_yellow.2 (kbi_yellow.1 c).2.1)⟩
  have hn : ycn f e p = 0 := by unfold ycn; rw [if_neg (fun c => c h91), if_neg g_black, if_neg g_green, if_neg g_white, if_neg g_blue, if_neg g_cyan, if_neg g_red, if_neg g_yellow, if_neg g_magenta]
  refine kCo_0 (by unfold ycol; rw [hn]; rfl) ⟨fun c => g_black (kw_black.2 (kbi_black.1 c).2.1), fun c => g_blue (kw_blue.2 (kbi_blue.1 c).2.1), fun c => g_cyan (kw_cyan.2 (kbi_cyan.1 c).2.1), fun c => g_green (kw_green.2 (kbi_green.1 c).2.1), fun c => g_magenta (kw_magenta.2 (kbi_magenta.1 c).2.1), fun c => g_red (kw_red.2 (kbi_red.1 c).2.1), fun c => g_white (kw_white.2 (kbi_white.1 c).2.1), fun c => g_yellow (kw_yellow.2 (kbi_yellow.1 c).2.1)⟩
def kCl (f : Nat → Int32) (e p r : Int) : Prop := (ych f e p = 34 ∧ ∃ q : Int, yQ f e p q ∧ r = q - p) ∨ ((ych f e p = 92 ∨ ych f e p = 95 ∨ ych f e p = 42) ∧ (p + 1 < e ∧ r = 2 ∨ ¬ p + 1 < e ∧ r = 0)) ∨ (ych f e p = 91 ∧ kCo f e p r) ∨ (¬ ych f e p = 34 ∧ ¬ ych f e p = 92 ∧ ¬ ych f e p = 95 ∧ ¬ ych f e p = 42 ∧ ¬ ych f e p = 91) ∧ (kSg (ych f e p) ∧ r = 1 ∨ ¬ kSg (ych f e p) ∧ r = 0)
theorem kCl_det {f : Nat → Int32} {e p r q : Int} (h : kCl f e p r) (k : kCl f e p q) : r = q := by
  rcases h with ⟨a, x, hx, b⟩ | ⟨a, b⟩ | ⟨a, b⟩ | ⟨a, b⟩ <;> rcases k with ⟨c, y, hy, d⟩ | ⟨c, d⟩ | ⟨c, d⟩ | ⟨c, d⟩ <;> try omega
  · have := yQ_det hx hy; omega
  · exact kCo_det b d
  · rcases b with ⟨b, b2⟩ | ⟨b, b2⟩ <;> rcases d with ⟨d, d2⟩ | ⟨d, d2⟩
    · omega
    · exact absurd b d
    · exact absurd d b
    · omega

theorem kch {x : Int32} (h0 : 0 ≤ x.toInt) (h1 : x.toInt < 65536) : ((x.toUInt32 % 65536).toInt32).toInt = x.toInt := by
  have hx : x.toUInt32.toNat = x.toInt.toNat := by
    have h2 : x.toInt = x.toBitVec.toInt := rfl
    have h3 : x.toUInt32.toNat = x.toBitVec.toNat := rfl
    rw [h3, h2]
    rw [BitVec.toInt_eq_toNat_cond] at h2
    have h4 := x.toBitVec.isLt
    rw [BitVec.toInt_eq_toNat_cond]
    split at h2 <;> split <;> omega
  rw [show (x.toUInt32 % 65536).toInt32.toInt = (x.toUInt32 % 65536).toBitVec.toInt from rfl]
  have h5 : (x.toUInt32 % 65536).toNat = x.toInt.toNat := by rw [UInt32.toNat_mod, hx]; exact Nat.mod_eq_of_lt (by show x.toInt.toNat < 65536; omega)
  rw [BitVec.toInt_eq_toNat_of_lt (by show 2 * (x.toUInt32 % 65536).toNat < _; rw [h5]; omega)]
  show (((x.toUInt32 % 65536).toNat : Nat) : Int) = _
  rw [h5]; omega
theorem kb8 : ∀ k : Fin 128, ((((nI k.1) &&& (255 : Int32)).toUInt32 % 65536).toInt32) = nI k.1 := by decide +kernel
theorem ksb : ∀ i : Fin 36, ∀ j : Fin 64, 0 ≤ (zsb i.1 j.1).toInt ∧ (zsb i.1 j.1).toInt < 128 := by decide +kernel
theorem kcA {i : Nat} {x : Int32} (hi : i < nZS) (h0 : 0 ≤ x.toInt) (h1 : x.toInt < (zsn i : Int)) : ((((zsb i x.toNatClampNeg) &&& (255 : Int32)).toUInt32 % 65536).toInt32).toInt = (zsb i x.toNatClampNeg).toInt := by
  have h2 := qsn i hi
  have h3 := ksb ⟨i, hi⟩ ⟨x.toNatClampNeg, by rw [zcl]; omega⟩
  dsimp only at h3
  have h4 : zsb i x.toNatClampNeg = nI (zsb i x.toNatClampNeg).toInt.toNat := by rw [zle_eq, znI (by omega)]; omega
  have h5 := kb8 ⟨(zsb i x.toNatClampNeg).toInt.toNat, by omega⟩
  dsimp only at h5
  rw [← h4] at h5
  rw [h5]
def kGo (f : Nat → Int32) (e p : Int) (i : Nat) : Prop := ∀ j : Nat, j < zsn i → ysm (ych f e (p + j)) = (zsb i j).toInt
theorem kGo_step {f : Nat → Int32} {e p : Int} {i : Nat} {x : Int32} {r : Int} (h : ∀ j : Nat, (j : Int) < x.toInt → ysm (ych f e (p + j)) = (zsb i j).toInt) (h0 : 0 ≤ x.toInt) (hr : r = x.toInt + 1) (hx : ysm (ych f e (p + x.toInt)) = (zsb i x.toNatClampNeg).toInt) : ∀ j : Nat, (j : Int) < r → ysm (ych f e (p + j)) = (zsb i j).toInt := fun j hj => by
  rcases Int.lt_or_le (j : Int) x.toInt with c | c
  · exact h j c
  · have e1 : (j : Int) = x.toInt := by omega
    have e2 : j = x.toNatClampNeg := by rw [zcl]; omega
    rw [e1, e2]; exact hx
theorem kGo_yes {f : Nat → Int32} {e p : Int} {i : Nat} {x : Int} (h : ∀ j : Nat, (j : Int) < x → ysm (ych f e (p + j)) = (zsb i j).toInt) (hx : (zsn i : Int) ≤ x) : kGo f e p i := fun j hj => h j (by omega)
theorem kGo_no {f : Nat → Int32} {e p : Int} {i : Nat} {x : Int32} (h0 : 0 ≤ x.toInt) (h1 : x.toInt < (zsn i : Int)) (hx : ¬ ysm (ych f e (p + x.toInt)) = (zsb i x.toNatClampNeg).toInt) : ¬ kGo f e p i := fun h => hx (by
  have := h x.toNatClampNeg (by rw [zcl]; omega)
  rw [zcl] at this ⊢
  rw [show p + ((x.toInt.toNat : Nat) : Int) = p + x.toInt by omega] at this
  exact this)
theorem kGo_nil {f : Nat → Int32} {e p : Int} {i : Nat} {x : Int} (h : x ≤ 0) : ∀ j : Nat, (j : Int) < x → ysm (ych f e (p + j)) = (zsb i j).toInt := fun j hj => by omega
