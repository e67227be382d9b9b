/-! what both readers do: characters (ych), small ones (ysm), words, colours, rows -/
def kSg (c : Int) : Prop := c = 32 ∨ c = 36 ∨ c = 45 ∨ c = 43 ∨ c = 40 ∨ c = 41 ∨ c = 58 ∨ c = 33 ∨ c = 94 ∨ c = 38 ∨ c = 39 ∨ c = 126 ∨ c = 123 ∨ c = 125 ∨ c = 60 ∨ c = 62 ∨ c = 61
def kPl (c : Int) : Prop := c = 48 ∨ c = 35 ∨ c = 63
def kRw (c : Int) : Prop := c = 121 ∨ c = 109 ∨ c = 100 ∨ c = 104 ∨ c = 115
def kW (f : Nat → Int32) (e : Int) : Int → List Int → Prop
  | _, [] => True
  | p, a :: l => ysm (ych f e p) = a ∧ kW f e (p + 1) l
theorem kW_iff {f : Nat → Int32} {e : Int} : ∀ (l : List Int) (p : Int), kW f e p l ↔ ∀ j : Nat, j < l.length → ysm (ych f e (p + j)) = l.getD j 0
  | [], p => ⟨fun _ j hj => absurd hj (Nat.not_lt_zero _), fun _ => True.intro⟩
  | a :: l, p => by
    constructor
    · rintro ⟨h1, h2⟩ j hj
      cases j with
      | zero => simpa using h1
      | succ j =>
        have := (kW_iff l (p + 1)).1 h2 j (by simpa using hj)
        rw [show p + ((j + 1 : Nat) : Int) = p + 1 + (j : Int) by omega]
        simpa using this
    · intro h
      refine ⟨by simpa using h 0 (by simp), (kW_iff l (p + 1)).2 fun j hj => ?_⟩
      have := h (j + 1) (by simpa using hj)
      rw [show p + ((j + 1 : Nat) : Int) = p + 1 + (j : Int) by omega] at this
      simpa using this
theorem kSt_iff {f : Nat → Int32} {e p : Int} {w : Int64} (l : List Int) (h8 : l.length ≤ 7) (hu : zup w (nI l.length)) (hd : ∀ m : Nat, m < l.length → ¬ zup w (nI m)) (hb : ∀ j : Nat, j < l.length → zby8 w (nI l.length) (nI j) = l.getD j 0) : ySt f e p w ↔ kW f e p l := by
  have hnI : ∀ m : Nat, m ≤ 8 → (nI m).toInt = m := fun m hm => znI (by omega)
  rw [kW_iff]
  constructor
  · rintro ⟨n, h0, h1, h2, h3, h4⟩ j hj
    have en : n = nI l.length := by
      rw [zle_eq, hnI _ (by omega)]
      rcases Int.lt_trichotomy n.toInt l.length with c | c | c
      · exfalso
        have hz : zup w n := by
          rcases h2 with h2 | h2
          · omega
          · exact h2
        refine hd n.toInt.toNat (by omega) ?_
        have : nI n.toInt.toNat = n := by rw [zle_eq, hnI _ (by omega)]; omega
        rw [this]; exact hz
      · exact c
      · exact absurd hu (h3 (nI l.length) (by rw [hnI _ (by omega)]; omega) (by rw [hnI _ (by omega)]; exact c))
    have := h4 (nI j) (by rw [hnI _ (by omega)]; omega) (by rw [hnI _ (by omega), en, hnI _ (by omega)]; omega)
    rw [hnI _ (by omega), en, hb j hj] at this
    exact this
  · intro h
    refine ⟨nI l.length, by rw [hnI _ (by omega)]; omega, by rw [hnI _ (by omega)]; omega, Or.inr hu, fun m h0 h1 => ?_, fun k h0 h1 => ?_⟩
    · rw [hnI _ (by omega)] at h1
      have := hd m.toInt.toNat (by omega)
      have e2 : nI m.toInt.toNat = m := by rw [zle_eq, hnI _ (by omega)]; omega
      rw [e2] at this; exact this
    · rw [hnI _ (by omega)] at h1
      have := h k.toInt.toNat (by omega)
      have e2 : nI k.toInt.toNat = k := by rw [zle_eq, hnI _ (by omega)]; omega
      rw [show p + ((k.toInt.toNat : Nat) : Int) = p + k.toInt by omega] at this
      rw [this, ← hb k.toInt.toNat (by omega), e2]
theorem kwA {w : Int64} {n : Nat} (h : ∀ m : Fin n, ¬ zup w (nI m.1)) : ∀ m : Nat, m < n → ¬ zup w (nI m) := fun m hm => h ⟨m, hm⟩
theorem kwB {w : Int64} {l : List Int} {n : Nat} (h : ∀ m : Fin n, zby8 w (nI n) (nI m.1) = l.getD m.1 0) : ∀ m : Nat, m < n → zby8 w (nI n) (nI m) = l.getD m 0 := fun m hm => h ⟨m, hm⟩
def k_gen : List Int := [103, 101, 110, 101, 114, 97, 108]
theorem kw_gen {f : Nat → Int32} {e p : Int} : ySt f e p (29103447424000364 : Int64) ↔ kW f e p k_gen := kSt_iff k_gen (by decide) (by unfold zup; decide) (kwA (n := 7) (by unfold zup; decide)) (kwB (n := 7) (by unfold zby8; decide))
def k_am : List Int := [97, 109, 47, 112, 109]
theorem kw_am {f : Nat → Int32} {e p : Int} : ySt f e p (418443653229 : Int64) ↔ kW f e p k_am := kSt_iff k_am (by decide) (by unfold zup; decide) (kwA (n := 5) (by unfold zup; decide)) (kwB (n := 5) (by unfold zby8; decide))
def k_ap : List Int := [97, 47, 112]
theorem kw_ap {f : Nat → Int32} {e p : Int} : ySt f e p (6369136 : Int64) ↔ kW f e p k_ap := kSt_iff k_ap (by decide) (by unfold zup; decide) (kwA (n := 3) (by unfold zup; decide)) (kwB (n := 3) (by unfold zby8; decide))
def k_black : List Int := [98, 108, 97, 99, 107]
theorem kw_black {f : Nat → Int32} {e p : Int} : ySt f e p (422725116779 : Int64) ↔ kW f e p k_black := kSt_iff k_black (by decide) (by unfold zup; decide) (kwA (n := 5) (by unfold zup; decide)) (kwB (n := 5) (by unfold zby8; decide))
def k_blue : List Int := [98, 108, 117, 101]
theorem kw_blue {f : Nat → Int32} {e p : Int} : ySt f e p (1651275109 : Int64) ↔ kW f e p k_blue := kSt_iff k_blue (by decide) (by unfold zup; decide) (kwA (n := 4) (by unfold zup; decide)) (kwB (n := 4) (by unfold zby8; decide))
def k_cyan : List Int := [99, 121, 97, 110]
theorem kw_cyan {f : Nat → Int32} {e p : Int} : ySt f e p (1668899182 : Int64) ↔ kW f e p k_cyan := kSt_iff k_cyan (by decide) (by unfold zup; decide) (kwA (n := 4) (by unfold zup; decide)) (kwB (n := 4) (by unfold zby8; decide))
def k_green : List Int := [103, 114, 101, 101, 110]
theorem kw_green {f : Nat → Int32} {e p : Int} : ySt f e p (444300879214 : Int64) ↔ kW f e p k_green := kSt_iff k_green (by decide) (by unfold zup; decide) (kwA (n := 5) (by unfold zup; decide)) (kwB (n := 5) (by unfold zby8; decide))
def k_magenta : List Int := [109, 97, 103, 101, 110, 116, 97]
theorem kw_magenta {f : Nat → Int32} {e p : Int} : ySt f e p (30787869172724833 : Int64) ↔ kW f e p k_magenta := kSt_iff k_magenta (by decide) (by unfold zup; decide) (kwA (n := 7) (by unfold zup; decide)) (kwB (n := 7) (by unfold zby8; decide))
def k_red : List Int := [114, 101, 100]
theorem kw_red {f : Nat → Int32} {e p : Int} : ySt f e p (7497060 : Int64) ↔ kW f e p k_red := kSt_iff k_red (by decide) (by unfold zup; decide) (kwA (n := 3) (by unfold zup; decide)) (kwB (n := 3) (by unfold zby8; decide))
def k_white : List Int := [119, 104, 105, 116, 101]
theorem kw_white {f : Nat → Int32} {e p : Int} : ySt f e p (512852849765 : Int64) ↔ kW f e p k_white := kSt_iff k_white (by decide) (by unfold zup; decide) (kwA (n := 5) (by unfold zup; decide)) (kwB (n := 5) (by unfold zby8; decide))
def k_yellow : List Int := [121, 101, 108, 108, 111, 119]
theorem kw_yellow {f : Nat → Int32} {e p : Int} : ySt f e p (133476517703543 : Int64) ↔ kW f e p k_yellow := kSt_iff k_yellow (by decide) (by unfold zup; decide) (kwA (n := 6) (by unfold zup; decide)) (kwB (n := 6) (by unfold zby8; decide))

/-! rows, brackets, colours, common items -/
def kRun (f : Nat → Int32) (e p n : Int) : Prop := 1 ≤ n ∧ (∀ j : Int, 0 ≤ j → j < n → ysm (ych f e (p + j)) = ysm (ych f e p)) ∧ ¬ ysm (ych f e (p + n)) = ysm (ych f e p)
theorem kRun_det {f : Nat → Int32} {e p n m : Int} (h : kRun f e p n) (k : kRun f e p m) : n = m := by
  rcases Int.lt_trichotomy n m with c | c | c
  · exact absurd (k.2.1 n (by have := h.1; omega) c) h.2.2
  · exact c
  · exact absurd (h.2.1 m (by have := k.1; omega) c) k.2.2
def kHms (c : Int) : Prop := c = 104 ∨ c = 109 ∨ c = 115
def kBr (f : Nat → Int32) (e p r : Int) : Prop := (¬ (ych f e p = 91 ∧ kHms (ysm (ych f e (p + 1)))) ∧ r = 0) ∨ ((ych f e p = 91 ∧ kHms (ysm (ych f e (p + 1)))) ∧ ∃ n : Int, kRun f e (p + 1) n ∧ (ych f e (p + 1 + n) = 93 ∧ r = n ∨ ¬ ych f e (p + 1 + n) = 93 ∧ r = 0))
theorem kBr_det {f : Nat → Int32} {e p r q : Int} (h : kBr f e p r) (k : kBr f e p q) : r = q := by
  rcases h with ⟨a, b⟩ | ⟨a, n, hn, b⟩ <;> rcases k with ⟨c, d⟩ | ⟨c, m, hm, d⟩
  · omega
  · exact absurd c a
  · exact absurd a c
  · have := kRun_det hn hm
    subst this
    rcases b with ⟨b, b2⟩ | ⟨b, b2⟩ <;> rcases d with ⟨d, d2⟩ | ⟨d, d2⟩
    · omega
    · exact absurd b d
    · exact absurd d b
    · omega
theorem ysm_91 {c : Int} : ysm c = 91 ↔ c = 91 := by unfold ysm; split <;> omega
theorem ysm_93 {c : Int} : ysm c = 93 ↔ c = 93 := by unfold ysm; split <;> omega
theorem kW_app {f : Nat → Int32} {e : Int} {c : Int} : ∀ (l : List Int) (p : Int), kW f e p (l ++ [c]) ↔ kW f e p l ∧ ysm (ych f e (p + l.length)) = c
  | [], p => by simp [kW]
  | a :: l, p => by
    have := kW_app (f := f) (e := e) (c := c) l (p + 1)
    simp only [List.cons_append, kW, this, List.length_cons]
    rw [show p + ((l.length + 1 : Nat) : Int) = p + 1 + (l.length : Int) by omega, and_assoc]
def kb_black : List Int := [91, 98, 108, 97, 99, 107, 93]
theorem kbi_black {f : Nat → Int32} {e p : Int} : kW f e p kb_black ↔ ych f e p = 91 ∧ kW f e (p + 1) k_black ∧ ych f e (p + 1 + 5) = 93 := by
  show kW f e p (91 :: (k_black ++ [93])) ↔ _
  simp only [kW, kW_app, ysm_91, ysm_93]; rfl
def kb_blue : List Int := [91, 98, 108, 117, 101, 93]
theorem kbi_blue {f : Nat → Int32} {e p : Int} : kW f e p kb_blue ↔ ych f e p = 91 ∧ kW f e (p + 1) k_blue ∧ ych f e (p + 1 + 4) = 93 := by
  show kW f e p (91 :: (k_blue ++ [93])) ↔ _
  simp only [kW, kW_app, ysm_91, ysm_93]; rfl
def kb_cyan : List Int := [91, 99, 121, 97, 110, 93]
theorem kbi_cyan {f : Nat → Int32} {e p : Int} : kW f e p kb_cyan ↔ ych f e p = 91 ∧ kW f e (p + 1) k_cyan ∧ ych f e (p + 1 + 4) = 93 := by
  show kW f e p (91 :: (k_cyan ++ [93])) ↔ _
  simp only [kW, kW_app, ysm_91, ysm_93]; rfl
def kb_green : List Int := [91, 103, 114, 101, 101, 110, 93]
theorem kbi_green {f : Nat → Int32} {e p : Int} : kW f e p kb_green ↔ ych f e p = 91 ∧ kW f e (p + 1) k_green ∧ ych f e (p + 1 + 5) = 93 := by
  show kW f e p (91 :: (k_green ++ [93])) ↔ _
  simp only [kW, kW_app, ysm_91, ysm_93]; rfl
def kb_magenta : List Int := [91, 109, 97, 103, 101, 110, 116, 97, 93]
theorem kbi_magenta {f : Nat → Int32} {e p : Int} : kW f e p kb_magenta ↔ ych f e p = 91 ∧ kW f e (p + 1) k_magenta ∧ ych f e (p + 1 + 7) = 93 := by
  show kW f e p (91 :: (k_magenta ++ [93])) ↔ _
  simp only [kW, kW_app, ysm_91, ysm_93]; rfl
def kb_red : List Int := [91, 114, 101, 100, 93]
theorem kbi_red {f : Nat → Int32} {e p : Int} : kW f e p kb_red ↔ ych f e p = 91 ∧ kW f e (p + 1) k_red ∧ ych f e (p + 1 + 3) = 93 := by
  show kW f e p (91 :: (k_red ++ [93])) ↔ _
  simp only [kW, kW_app, ysm_91, ysm_93]; rfl
def kb_white : List Int := [91, 119, 104, 105, 116, 101, 93]
theorem kbi_white {f : Nat → Int32} {e p : Int} : kW f e p kb_white ↔ ych f e p = 91 ∧ kW f e (p + 1) k_white ∧ ych f e (p + 1 + 5) = 93 := by
  show kW f e p (91 :: (k_white ++ [93])) ↔ _
  simp only [kW, kW_app, ysm_91, ysm_93]; rfl
def kb_yellow : List Int := [91, 121, 101, 108, 108, 111, 119, 93]
theorem kbi_yellow {f : Nat → Int32} {e p : Int} : kW f e p kb_yellow ↔ ych f e p = 91 ∧ kW f e (p + 1) k_yellow ∧ ych f e (p + 1 + 6) = 93 := by
  show kW f e p (91 :: (k_yellow ++ [93])) ↔ _
  simp only [kW, kW_app, ysm_91, ysm_93]; rfl
def kCo (f : Nat → Int32) (e p r : Int) : Prop := r = 7 ∧ kW f e p kb_black ∨ r = 6 ∧ kW f e p kb_blue ∨ r = 6 ∧ kW f e p kb_cyan ∨ r = 7 ∧ kW f e p kb_green ∨ r = 9 ∧ kW f e p kb_magenta ∨ r = 5 ∧ kW f e p kb_red ∨ r = 7 ∧ kW f e p kb_white ∨ r = 8 ∧ kW f e p kb_yellow ∨ r = 0 ∧ ¬ kW f e p kb_black ∧ ¬ kW f e p kb_blue ∧ ¬ kW f e p kb_cyan ∧ ¬ kW f e p kb_green ∧ ¬ kW f e p kb_magenta ∧ ¬ kW f e p kb_red ∧ ¬ kW f e p kb_white ∧ ¬ kW f e p kb_yellow
theorem kn_black_blue {f : Nat → Int32} {e p : Int} (h : kW f e p kb_black) (k : kW f e p kb_blue) : False := by simp only [kb_black, kb_blue, kW] at h k; omega
theorem kn_black_cyan {f : Nat → Int32} {e p : Int} (h : kW f e p kb_black) (k : kW f e p kb_cyan) : False := by simp only [kb_black, kb_cyan, kW] at h k; omega
theorem kn_black_green {f : Nat → Int32} {e p : Int} (h : kW f e p kb_black) (k : kW f e p kb_green) : False := by simp only [kb_black, kb_green, kW] at h k; omega
theorem kn_black_magenta {f : Nat → Int32} {e p : Int} (h : kW f e p kb_black) (k : kW f e p kb_magenta) : False := by simp only [kb_black, kb_magenta, kW] at h k; omega
theorem kn_black_red {f : Nat → Int32} {e p : Int} (h : kW f e p kb_black) (k : kW f e p kb_red) : False := by simp only [kb_black, kb_red, kW] at h k; omega
theorem kn_black_white {f : Nat → Int32} {e p : Int} (h : kW f e p kb_black) (k : kW f e p kb_white) : False := by simp only [kb_black, kb_white, kW] at h k; omega
theorem kn_black_yellow {f : Nat → Int32} {e p : Int} (h : kW f e p kb_black) (k : kW f e p kb_yellow) : False := by simp only [kb_black, kb_yellow, kW] at h k; omega
theorem kn_blue_cyan {f : Nat → Int32} {e p : Int} (h : kW f e p kb_blue) (k : kW f e p kb_cyan) : False := by simp only [kb_blue, kb_cyan, kW] at h k; omega
theorem kn_blue_green {f : Nat → Int32} {e p : Int} (h : kW f e p kb_blue) (k : kW f e p kb_green) : False := by simp only [kb_blue, kb_green, kW] at h k; omega
theorem kn_blue_magenta {f : Nat → Int32} {e p : Int} (h : kW f e p kb_blue) (k : kW f e p kb_magenta) : False := by simp only [kb_blue, kb_magenta, kW] at h k; omega
theorem kn_blue_red {f : Nat → Int32} {e p : Int} (h : kW f e p kb_blue) (k : kW f e p kb_red) : False := by simp only [kb_blue, kb_red, kW] at h k; omega
theorem kn_blue_white {f : Nat → Int32} {e p : Int} (h : kW f e p kb_blue) (k : kW f e p kb_white) : False := by simp only [kb_blue, kb_white, kW] at h k; omega
theorem kn_blue_yellow {f : Nat → Int32} {e p : Int} (h : kW f e p kb_blue) (k : kW f e p kb_yellow) : False := by simp only [kb_blue, kb_yellow, kW] at h k; omega
theorem kn_cyan_green {f : Nat → Int32} {e p : Int} (h : kW f e p kb_cyan) (k : kW f e p kb_green) : False := by simp only [kb_cyan, kb_green, kW] at h k; omega
theorem kn_cyan_magenta {f : Nat → Int32} {e p : Int} (h : kW f e p kb_cyan) (k : kW f e p kb_magenta) : False := by simp only [kb_cyan, kb_magenta, kW] at h k; omega
theorem kn_cyan_red {f : Nat → Int32} {e p : Int} (h : kW f e p kb_cyan) (k : kW f e p kb_red) : False := by simp only [kb_cyan, kb_red, kW] at h k; omega
theorem kn_cyan_white {f : Nat → Int32} {e p : Int} (h : kW f e p kb_cyan) (k : kW f e p kb_white) : False := by simp only [kb_cyan, kb_white, kW] at h k; omega
theorem kn_cyan_yellow {f : Nat → Int32} {e p : Int} (h : kW f e p kb_cyan) (k : kW f e p kb_yellow) : False := by simp only [kb_cyan, kb_yellow, kW] at h k; omega
theorem kn_green_magenta {f : Nat → Int32} {e p : Int} (h : kW f e p kb_green) (k : kW f e p kb_magenta) : False := by simp only [kb_green, kb_magenta, kW] at h k; omega
theorem kn_green_red {f : Nat → Int32} {e p : Int} (h : kW f e p kb_green) (k : kW f e p kb_red) : False := by simp only [kb_green, kb_red, kW] at h k; omega
theorem kn_green_white {f : Nat → Int32} {e p : Int} (h : kW f e p kb_green) (k : kW f e p kb_white) : False := by simp only [kb_green, kb_white, kW] at h k; omega
theorem kn_green_yellow {f : Nat → Int32} {e p : Int} (h : kW f e p kb_green) (k : kW f e p kb_yellow) : False := by simp only [kb_green, kb_yellow, kW] at h k; omega
theorem kn_magenta_red {f : Nat → Int32} {e p : Int} (h : kW f e p kb_magenta) (k : kW f e p kb_red) : False := by simp only [kb_magenta, kb_red, kW] at h k; omega
theorem kn_magenta_white {f : Nat → Int32} {e p : Int} (h : kW f e p kb_magenta) (k : kW f e p kb_white) : False := by simp only [kb_magenta, kb_white, kW] at h k; omega
theorem kn_magenta_yellow {f : Nat → Int32} {e p : Int} (h : kW f e p kb_magenta) (k : kW f e p kb_yellow) : False := by simp only [kb_magenta, kb_yellow, kW] at h k; omega
theorem kn_red_white {f : Nat → Int32} {e p : Int} (h : kW f e p kb_red) (k : kW f e p kb_white) : False := by simp only [kb_red, kb_white, kW] at h k; omega
theorem kn_red_yellow {f : Nat → Int32} {e p : Int} (h : kW f e p kb_red) (k : kW f e p kb_yellow) : False := by simp only [kb_red, kb_yellow, kW] at h k; omega
theorem kn_white_yellow {f : Nat → Int32} {e p : Int} (h : kW f e p kb_white) (k : kW f e p kb_yellow) : False := by simp only [kb_white, kb_yellow, kW] at h k; omega
theorem kCo_det {f : Nat → Int32} {e p r q : Int} (h : kCo f e p r) (k : kCo f e p q) : r = q := by
  rcases h with ⟨a, h⟩ | ⟨a, h⟩ | ⟨a, h⟩ | ⟨a, h⟩ | ⟨a, h⟩ | ⟨a, h⟩ | ⟨a, h⟩ | ⟨a, h⟩ | ⟨a, m0, m1, m2, m3, m4, m5, m6, m7⟩ <;> rcases k with ⟨b, k⟩ | ⟨b, k⟩ | ⟨b, k⟩ | ⟨b, k⟩ | ⟨b, k⟩ | ⟨b, k⟩ | ⟨b, k⟩ | ⟨b, k⟩ | ⟨b, l0, l1, l2, l3, l4, l5, l6, l7⟩
  · omega
  · exact (kn_black_blue h k).elim
  · exact (kn_black_cyan h k).elim
  · exact (kn_black_green h k).elim
  · exact (kn_black_magenta h k).elim
  · exact (kn_black_red h k).elim
  · exact (kn_black_white h k).elim
  · exact (kn_black_yellow h k).elim
  · exact absurd h l0
  · exact (kn_black_blue k h).elim
  · omega
  · exact (kn_blue_cyan h k).elim
  · exact (kn_blue_green h k).elim
  · exact (kn_blue_magenta h k).elim
  · exact (kn_blue_red h k).elim
  · exact (kn_blue_white h k).elim
  · exact (kn_blue_yellow h k).elim
  · exact absurd h l1
  · exact (kn_black_cyan k h).elim
  · exact (kn_blue_cyan k h).elim
  · omega
  · exact (kn_cyan_green h k).elim
  · exact (kn_cyan_magenta h k).elim
  · exact (kn_cyan_red h k).elim
  · exact (kn_cyan_white h k).elim
  · exact (kn_cyan_yellow h k).elim
  · exact absurd h l2
  · exact (kn_black_green k h).elim
  · exact (kn_blue_green k h).elim
  · exact (kn_cyan_green k h).elim
  · omega
  · exact (kn_green_magenta h k).elim
  · exact (kn_green_red h k).elim
  · exact (kn_green_white h k).elim
  · exact (kn_green_yellow h k).elim
  · exact absurd h l3
  · exact (kn_black_magenta k h).elim
  · exact (kn_blue_magenta k h).elim
  · exact (kn_cyan_magenta k h).elim
  · exact (kn_green_magenta k h).elim
  · omega
  · exact (kn_magenta_red h k).elim
  · exact (kn_magenta_white h k).elim
  · exact (kn_magenta_yellow h k).elim
  · exact absurd h l4
  · exact (kn_black_red k h).elim
  · exact (kn_blue_red k h).elim
  · exact (kn_cyan_red k h).elim
  · exact (kn_green_red k h).elim
  · exact (kn_magenta_red k h).elim
  · omega
  · exact (kn_red_white h k).elim
  · exact (kn_red_yellow h k).elim
  · exact absurd h l5
  · exact (kn_black_white k h).elim
  · exact (kn_blue_white k h).elim
  · exact (kn_cyan_white k h).elim
  · exact (kn_green_white k h).elim
  · exact (kn_magenta_white k h).elim
  · exact (kn_red_white k h).elim
  · omega
  · exact (kn_white_yellow h k).elim
  · exact absurd h l6
  · exact (kn_black_yellow k h).elim
  · exact (kn_blue_yellow k h).elim
  · exact (kn_cyan_yellow k h).elim
  · exact (kn_green_yellow k h).elim
  · exact (kn_magenta_yellow k h).elim
  · exact (kn_red_yellow k h).elim
  · exact (kn_white_yellow k h).elim
  · omega
  · exact absurd h l7
  · exact absurd k m0
  · exact absurd k m1
  · exact absurd k m2
  · exact absurd k m3
  · exact absurd k m4
  · exact absurd k m5
  · exact absurd k m6
  · exact absurd k m7
  · omega
theorem kCo_0 {f : Nat → Int32} {e p r : Int} (hr : r = 0) (h : ¬ kW f e p kb_black ∧ ¬ kW f e p kb_blue ∧ ¬ kW f e p kb_cyan ∧ ¬ kW f e p kb_green ∧ ¬ kW f e p kb_magenta ∧ ¬ kW f e p kb_red ∧ ¬ kW f e p kb_white ∧ ¬ kW f e p kb_yellow) : kCo f e p r := Or.inr (Or.inr (Or.inr (Or.inr (Or.inr (Or.inr (Or.inr (Or.inr ⟨hr, h⟩)))))))
theorem kCo_black {f : Nat → Int32} {e p r : Int} (hr : r = 7) (h : kW f e p kb_black) : kCo f e p r := Or.inl ⟨hr, h⟩
theorem kCo_blue {f : Nat → Int32} {e p r : Int} (hr : r = 6) (h : kW f e p kb_blue) : kCo f e p r := Or.inr (Or.inl ⟨hr, h⟩)
theorem kCo_cyan {f : Nat → Int32} {e p r : Int} (hr : r = 6) (h : kW f e p kb_cyan) : kCo f e p r := Or.inr (Or.inr (Or.inl ⟨hr, h⟩))
theorem kCo_green {f : Nat → Int32} {e p r : Int} (hr : r = 7) (h : kW f e p kb_green) : kCo f e p r := Or.inr (Or.inr (Or.inr (Or.inl ⟨hr, h⟩)))
theorem kCo_magenta {f : Nat → Int32} {e p r : Int} (hr : r = 9) (h : kW f e p kb_magenta) : kCo f e p r := Or.inr (Or.inr (Or.inr (Or.inr (Or.inl ⟨hr, h⟩))))
theorem kCo_red {f : Nat → Int32} {e p r : Int} (hr : r = 5) (h : kW f e p kb_red) : kCo f e p r := Or.inr (Or.inr (Or.inr (Or.inr (Or.inr (Or.inl ⟨hr, h⟩)))))
theorem kCo_white {f : Nat → Int32} {e p r : Int} (hr : r = 7) (h : kW f e p kb_white) : kCo f e p r := Or.inr (Or.inr (Or.inr (Or.inr (Or.inr (Or.inr (Or.inl ⟨hr, h⟩))))))
theorem kCo_yellow {f : Nat → Int32} {e p r : Int} (hr : r = 8) (h : kW f e p kb_yellow) : kCo f e p r := Or.inr (Or.inr (Or.inr (Or.inr (Or.inr (Or.inr (Or.inr (Or.inl ⟨hr, h⟩)))))))
theorem kz_black_blue {f : Nat → Int32} {e p : Int} (h : kW f e p k_black) (k : kW f e p k_blue) : False := by simp only [k_black, k_blue, kW] at h k; omega
theorem kz_black_cyan {f : Nat → Int32} {e p : Int} (h : kW f e p k_black) (k : kW f e p k_cyan) : False := by simp only [k_black, k_cyan, kW] at h k; omega
theorem kz_black_green {f : Nat → Int32} {e p : Int} (h : kW f e p k_black) (k : kW f e p k_green) : False := by simp only [k_black, k_green, kW] at h k; omega
theorem kz_black_magenta {f : Nat → Int32} {e p : Int} (h : kW f e p k_black) (k : kW f e p k_magenta) : False := by simp only [k_black, k_magenta, kW] at h k; omega
theorem kz_black_red {f : Nat → Int32} {e p : Int} (h : kW f e p k_black) (k : kW f e p k_red) : False := by simp only [k_black, k_red, kW] at h k; omega
theorem kz_black_white {f : Nat → Int32} {e p : Int} (h : kW f e p k_black) (k : kW f e p k_white) : False := by simp only [k_black, k_white, kW] at h k; omega
theorem kz_black_yellow {f : Nat → Int32} {e p : Int} (h : kW f e p k_black) (k : kW f e p k_yellow) : False := by simp only [k_black, k_yellow, kW] at h k; omega
theorem kz_blue_cyan {f : Nat → Int32} {e p : Int} (h : kW f e p k_blue) (k : kW f e p k_cyan) : False := by simp only [k_blue, k_cyan, kW] at h k; omega
theorem kz_blue_green {f : Nat → Int32} {e p : Int} (h : kW f e p k_blue) (k : kW f e p k_green) : False := by simp only [k_blue, k_green, kW] at h k; omega
theorem kz_blue_magenta {f : Nat → Int32} {e p : Int} (h : kW f e p k_blue) (k : kW f e p k_magenta) : False := by simp only [k_blue, k_magenta, kW] at h k; omega
theorem kz_blue_red {f : Nat → Int32} {e p : Int} (h : kW f e p k_blue) (k : kW f e p k_red) : False := by simp only [k_blue, k_red, kW] at h k; omega
theorem kz_blue_white {f : Nat → Int32} {e p : Int} (h : kW f e p k_blue) (k : kW f e p k_white) : False := by simp only [k_blue, k_white, kW] at h k; omega
theorem kz_blue_yellow {f : Nat → Int32} {e p : Int} (h : kW f e p k_blue) (k : kW f e p k_yellow) : False := by simp only [k_blue, k_yellow, kW] at h k; omega
theorem kz_cyan_green {f : Nat → Int32} {e p : Int} (h : kW f e p k_cyan) (k : kW f e p k_green) : False := by simp only [k_cyan, k_green, kW] at h k; omega
theorem kz_cyan_magenta {f : Nat → Int32} {e p : Int} (h : kW f e p k_cyan) (k : kW f e p k_magenta) : False := by simp only [k_cyan, k_magenta, kW] at h k; omega
theorem kz_cyan_red {f : Nat → Int32} {e p : Int} (h : kW f e p k_cyan) (k : kW f e p k_red) : False := by simp only [k_cyan, k_red, kW] at h k; omega
theorem kz_cyan_white {f : Nat → Int32} {e p : Int} (h : kW f e p k_cyan) (k : kW f e p k_white) : False := by simp only [k_cyan, k_white, kW] at h k; omega
theorem kz_cyan_yellow {f : Nat → Int32} {e p : Int} (h : kW f e p k_cyan) (k : kW f e p k_yellow) : False := by simp only [k_cyan, k_yellow, kW] at h k; omega
theorem kz_green_magenta {f : Nat → Int32} {e p : Int} (h : kW f e p k_green) (k : kW f e p k_magenta) : False := by simp only [k_green, k_magenta, kW] at h k; omega
theorem kz_green_red {f : Nat → Int32} {e p : Int} (h : kW f e p k_green) (k : kW f e p k_red) : False := by simp only [k_green, k_red, kW] at h k; omega
theorem kz_green_white {f : Nat → Int32} {e p : Int} (h : kW f e p k_green) (k : kW f e p k_white) : False := by simp only [k_green, k_white, kW] at h k; omega
theorem kz_green_yellow {f : Nat → Int32} {e p : Int} (h : kW f e p k_green) (k : kW f e p k_yellow) : False := by simp only [k_green, k_yellow, kW] at h k; omega
theorem kz_magenta_red {f : Nat → Int32} {e p : Int} (h : kW f e p k_magenta) (k : kW f e p k_red) : False := by simp only [k_magenta, k_red, kW] at h k; omega
theorem kz_magenta_white {f : Nat → Int32} {e p : Int} (h : kW f e p k_magenta) (k : kW f e p k_white) : False := by simp only [k_magenta, k_white, kW] at h k; omega
theorem kz_magenta_yellow {f : Nat → Int32} {e p : Int} (h : kW f e p k_magenta) (k : kW f e p k_yellow) : False := by simp only [k_magenta, k_yellow, kW] at h k; omega
theorem kz_red_white {f : Nat → Int32} {e p : Int} (h : kW f e p k_red) (k : kW f e p k_white) : False := by simp only [k_red, k_white, kW] at h k; omega
theorem kz_red_yellow {f : Nat → Int32} {e p : Int} (h : kW f e p k_red) (k : kW f e p k_yellow) : False := by simp only [k_red, k_yellow, kW] at h k; omega
theorem kz_white_yellow {f : Nat → Int32} {e p : Int} (h : kW f e p k_white) (k : kW f e p k_yellow) : False := by simp only [k_white, k_yellow, kW] at h k; omega
theorem kCo_ycol {f : Nat → Int32} {e p : Int} : kCo f e p (ycol f e p) := by
  by_cases h91 : ych f e p = 91
  rotate_left
  · have h0 : ycol f e p = 0 := by
      have : ycn f e p = 0 := by unfold ycn; rw [if_pos h91]
      unfold ycol; rw [this]; rfl
    refine kCo_0 h0 ⟨fun c => h91 (kbi_black.1 c).1, fun c => h91 (kbi_blue.1 c).1, fun c => h91 (kbi_cyan.1 c).1, fun c => h91 (kbi_green.1 c).1, fun c => h91 (kbi_magenta.1 c).1, fun c => h91 (kbi_red.1 c).1, fun c => h91 (kbi_white.1 c).1, fun c => h91 (kbi_yellow.1 c).1⟩
  by_cases g_black : ySt f e (p + 1) 422725116779
  · have hn : ycn f e p = 5 := by unfold ycn; rw [if_neg (fun c => c h91), if_pos g_black]
    by_cases h93 : ych f e (p + 1 + 5) = 93
    · exact kCo_black (by unfold ycol; rw [hn, if_pos ⟨by decide, h93⟩]; rfl) (kbi_black.2 ⟨h91, kw_black.1 g_black, h93⟩)
    · have hk := kw_black.1 g_black
      refine kCo_0 (by unfold ycol; rw [hn, if_neg (fun c => h93 c.2)]) ⟨fun c => h93 (kbi_black.1 c).2.2, fun c => kz_black_blue hk (kbi_blue.1 c).2.1, fun c => kz_black_cyan hk (kbi_cyan.1 c).2.1, fun c => kz_black_green hk (kbi_green.1 c).2.1, fun c => kz_black_magenta hk (kbi_magenta.1 c).2.1, fun c => kz_black_red hk (kbi_red.1 c).2.1, fun c => kz_black_white hk (kbi_white.1 c).2.1, fun c => kz_black_yellow hk (kbi_yellow.1 c).2.1⟩
  by_cases g_green : ySt f e (p + 1) 444300879214
  · have hn : ycn f e p = 5 := by unfold ycn; rw [if_neg (fun c => c h91), if_neg g_black, if_pos g_green]
    by_cases h93 : ych f e (p + 1 + 5) = 93
    · exact kCo_green (by unfold ycol; rw [hn, if_pos ⟨by decide, h93⟩]; rfl) (kbi_green.2 ⟨h91, kw_green.1 g_green, h93⟩)
    · have hk := kw_green.1 g_green
      refine kCo_0 (by unfold ycol; rw [hn, if_neg (fun c => h93 c.2)]) ⟨fun c => g_black (kw_black.2 (kbi_black.1 c).2.1), fun c => kz_blue_green (kbi_blue.1 c).2.1 hk, fun c => kz_cyan_green (kbi_cyan.1 c).2.1 hk, fun c => h93 (kbi_green.1 c).2.2, fun c => kz_green_magenta hk (kbi_magenta.1 c).2.1, fun c => kz_green_red hk (kbi_red.1 c).2.1, fun c => kz_green_white hk (kbi_white.1 c).2.1, fun c => kz_green_yellow hk (kbi_yellow.1 c).2.1⟩
  by_cases g_white : ySt f e (p + 1) 512852849765
  · have hn : ycn f e p = 5 := by unfold ycn; rw [if_neg (fun c => c h91), if_neg g_black, if_neg g_green, if_pos g_white]
    by_cases h93 : ych f e (p + 1 + 5) = 93
    · exact kCo_white (by unfold ycol; rw [hn, if_pos ⟨by decide, h93⟩]; rfl) (kbi_white.2 ⟨h91, kw_white.1 g_white, h93⟩)
    · have hk := kw_white.1 g_white
      refine kCo_0 (by unfold ycol; rw [hn, if_neg (fun c => h93 c.2)]) ⟨fun c => g_black (kw_black.2 (kbi_black.1 c).2.1), fun c => kz_blue_white (kbi_blue.1 c).2.1 hk, fun c => kz_cyan_white (kbi_cyan.1 c).2.1 hk, fun c => g_green (kw_green.2 (kbi_green.1 c).2.1), fun c => kz_magenta_white (kbi_magenta.1 c).2.1 hk, fun c => kz_red_white (kbi_red.1 c).2.1 hk, fun c => h93 (kbi_white.1 c).2.2, fun c => kz_white_yellow hk (kbi_yellow.1 c).2.1⟩
  by_cases g_blue : ySt f e (p + 1) 1651275109
  · have hn : ycn f e p = 4 := by unfold ycn; rw [if_neg (fun c => c h91), if_neg g_black, if_neg g_green, if_neg g_white, if_pos g_blue]
    by_cases h93 : ych f e (p + 1 + 4) = 93
    · exact kCo_blue (by unfold ycol; rw [hn, if_pos ⟨by decide, h93⟩]; rfl) (kbi_blue.2 ⟨h91, kw_blue.1 g_blue, h93⟩)
    · have hk := kw_blue.1 g_blue
      refine kCo_0 (by unfold ycol; rw [hn, if_neg (fun c => h93 c.2)]) ⟨fun c => g_black (kw_black.2 (kbi_black.1 c).2.1), fun c => h93 (kbi_blue.1 c).2.2, fun c => kz_blue_cyan hk (kbi_cyan.1 c).2.1, fun c => g_green (kw_green.2 (kbi_green.1 c).2.1), fun c => kz_blue_magenta hk (kbi_magenta.1 c).2.1, fun c => kz_blue_red hk (kbi_red.1 c).2.1, fun c => g_white (kw_white.2 (kbi_white.1 c).2.1), fun c => kz_blue_yellow hk (kbi_yellow.1 c).2.1⟩
  by_cases g_cyan : ySt f e (p + 1) 1668899182
  · have hn : ycn f e p = 4 := by unfold ycn; rw [if_neg (fun c => c h91), if_neg g_black, if_neg g_green, if_neg g_white, if_neg g_blue, if_pos g_cyan]
    by_cases h93 : ych f e (p + 1 + 4) = 93
    · exact kCo_cyan (by unfold ycol; rw [hn, if_pos ⟨by decide, h93⟩]; rfl) (kbi_cyan.2 ⟨h91, kw_cyan.1 g_cyan, h93⟩)
    · have hk := kw_cyan.1 g_cyan
      refine kCo_0 (by unfold ycol; rw [hn, if_neg (fun c => h93 c.2)]) ⟨fun c => g_black (kw_black.2 (kbi_black.1 c).2.1), fun c => g_blue (kw_blue.2 (kbi_blue.1 c).2.1), fun c => h93 (kbi_cyan.1 c).2.2, fun c => g_green (kw_green.2 (kbi_green.1 c).2.1), fun c => kz_cyan_magenta hk (kbi_magenta.1 c).2.1, fun c => kz_cyan_red hk (kbi_red.1 c).2.1, fun c => g_white (kw_white.2 (kbi_white.1 c).2.1), fun c => kz_cyan_yellow hk (kbi_yellow.1 c).2.1⟩
  by_cases g_red : ySt f e (p + 1) 7497060
  · have hn : ycn f e p = 3 := by unfold ycn; rw [if_neg (fun c => c h91), if_neg g_black, if_neg g_green, if_neg g_white, if_neg g_blue, if_neg g_cyan, if_pos g_red]
    by_cases h93 : ych f e (p + 1 + 3) = 93
    · exact kCo_red (by unfold ycol; rw [hn, if_pos ⟨by decide, h93⟩]; rfl) (kbi_red.2 ⟨h91, kw_red.1 g_red, h93⟩)
    · have hk := kw_red.1 g_red
      refine kCo_0 (by unfold ycol; rw [hn, if_neg (fun c => h93 c.2)]) ⟨fun c => g_black (kw_black.2 (kbi_black.1 c).2.1), fun c => g_blue (kw_blue.2 (kbi_blue.1 c).2.1), fun c => g_cyan (kw_cyan.2 (kbi_cyan.1 c).2.1), fun c => g_green (kw_green.2 (kbi_green.1 c).2.1), fun c => kz_magenta_red (kbi_magenta.1 c).2.1 hk, fun c => h93 (kbi_red.1 c).2.2, fun c => g_white (kw_white.2 (kbi_white.1 c).2.1), fun c => kz_red_yellow hk (kbi_yellow.1 c).2.1⟩
  by_cases g_yellow : ySt f e (p + 1) 133476517703543
  · have hn : ycn f e p = 6 := by unfold ycn; rw [if_neg (fun c => c h91), if_neg g_black, if_neg g_green, if_neg g_white, if_neg g_blue, if_neg g_cyan, if_neg g_red, if_pos g_yellow]
    by_cases h93 : ych f e (p + 1 + 6) = 93
    · exact kCo_yellow (by unfold ycol; rw [hn, if_pos ⟨by decide, h93⟩]; rfl) (kbi_yellow.2 ⟨h91, kw_yellow.1 g_yellow, h93⟩)
    · have hk := kw_yellow.1 g_yellow
      refine kCo_0 (by unfold ycol; rw [hn, if_neg (fun c => h93 c.2)]) ⟨fun c => g_black (kw_black.2 (kbi_black.1 c).2.1), fun c => g_blue (kw_blue.2 (kbi_blue.1 c).2.1), fun c => g_cyan (kw_cyan.2 (kbi_cyan.1 c).2.1), fun c => g_green (kw_green.2 (kbi_green.1 c).2.1), fun c => kz_magenta_yellow (kbi_magenta.1 c).2.1 hk, fun c => g_red (kw_red.2 (kbi_red.1 c).2.1), fun c => g_white (kw_white.2 (kbi_white.1 c).2.1), fun c => h93 (kbi_yellow.1 c).2.2⟩
  by_cases g_magenta : ySt f e (p + 1) 30787869172724833
  · have hn : ycn f e p = 7 := by unfold ycn; rw [if_neg (fun c => c h91), if_neg g_black, if_neg g_green, if_neg g_white, if_neg g_blue, if_neg g_cyan, if_neg g_red, if_neg g_yellow, if_pos g_magenta]
    by_cases h93 : ych f e (p + 1 + 7) = 93
    · exact kCo_magenta (by unfold ycol; rw [hn, if_pos ⟨by decide, h93⟩]; rfl) (kbi_magenta.2 ⟨h91, kw_magenta.1 g_magenta, h93⟩)
    · have hk := kw_magenta.1 g_magenta
      refine kCo_0 (by unfold ycol; rw [hn, if_neg (fun c => h93 c.2)]) ⟨fun c => g_black (kw_black.2 (kbi_black.1 c).2.1), fun c => g_blue (kw_blue.2 (kbi_blue.1 c).2.1), fun c => g_cyan (kw_cyan.2 (kbi_cyan.1 c).2.1), fun c => g_green (kw_green.2 (kbi_green.1 c).2.1), fun c => h93 (kbi_magenta.1 c).2.2, fun c => g_red (kw_red.2 (kbi_red.1 c).2.1), fun c => g_white (kw_white.2 (kbi_white.1 c).2.1), fun c => g_yellow (kw_yellow.2 (kbi_yellow.1 c).2.1)⟩
  have hn : ycn f e p = 0 := by unfold ycn; rw [if_neg (fun c => c h91), if_neg g_black, if_neg g_green, if_neg g_white, if_neg g_blue, if_neg g_cyan, if_neg g_red, if_neg g_yellow, if_neg g_magenta]
  refine kCo_0 (by unfold ycol; rw [hn]; rfl) ⟨fun c => g_black (kw_black.2 (kbi_black.1 c).2.1), fun c => g_blue (kw_blue.2 (kbi_blue.1 c).2.1), fun c => g_cyan (kw_cyan.2 (kbi_cyan.1 c).2.1), fun c => g_green (kw_green.2 (kbi_green.1 c).2.1), fun c => g_magenta (kw_magenta.2 (kbi_magenta.1 c).2.1), fun c => g_red (kw_red.2 (kbi_red.1 c).2.1), fun c => g_white (kw_white.2 (kbi_white.1 c).2.1), fun c => g_yellow (kw_yellow.2 (kbi_yellow.1 c).2.1)⟩
def kCl (f : Nat → Int32) (e p r : Int) : Prop := (ych f e p = 34 ∧ ∃ q : Int, yQ f e p q ∧ r = q - p) ∨ ((ych f e p = 92 ∨ ych f e p = 95 ∨ ych f e p = 42) ∧ (p + 1 < e ∧ r = 2 ∨ ¬ p + 1 < e ∧ r = 0)) ∨ (ych f e p = 91 ∧ kCo f e p r) ∨ (¬ ych f e p = 34 ∧ ¬ ych f e p = 92 ∧ ¬ ych f e p = 95 ∧ ¬ ych f e p = 42 ∧ ¬ ych f e p = 91) ∧ (kSg (ych f e p) ∧ r = 1 ∨ ¬ kSg (ych f e p) ∧ r = 0)
theorem kCl_det {f : Nat → Int32} {e p r q : Int} (h : kCl f e p r) (k : kCl f e p q) : r = q := by
  rcases h with ⟨a, x, hx, b⟩ | ⟨a, b⟩ | ⟨a, b⟩ | ⟨a, b⟩ <;> rcases k with ⟨c, y, hy, d⟩ | ⟨c, d⟩ | ⟨c, d⟩ | ⟨c, d⟩ <;> try omega
  · have := yQ_det hx hy; omega
  · exact kCo_det b d
  · rcases b with ⟨b, b2⟩ | ⟨b, b2⟩ <;> rcases d with ⟨d, d2⟩ | ⟨d, d2⟩
    · omega
    · exact absurd b d
    · exact absurd d b
    · omega

theorem kch {x : Int32} (h0 : 0 ≤ x.toInt) (h1 : x.toInt < 65536) : ((x.toUInt32 % 65536).toInt32).toInt = x.toInt := by
  have hx : x.toUInt32.toNat = x.toInt.toNat := by
    have h2 : x.toInt = x.toBitVec.toInt := rfl
    have h3 : x.toUInt32.toNat = x.toBitVec.toNat := rfl
    rw [h3, h2]
    rw [BitVec.toInt_eq_toNat_cond] at h2
    have h4 := x.toBitVec.isLt
    rw [BitVec.toInt_eq_toNat_cond]
    split at h2 <;> split <;> omega
  rw [show (x.toUInt32 % 65536).toInt32.toInt = (x.toUInt32 % 65536).toBitVec.toInt from rfl]
  have h5 : (x.toUInt32 % 65536).toNat = x.toInt.toNat := by rw [UInt32.toNat_mod, hx]; exact Nat.mod_eq_of_lt (by show x.toInt.toNat < 65536; omega)
  rw [BitVec.toInt_eq_toNat_of_lt (by show 2 * (x.toUInt32 % 65536).toNat < _; rw [h5]; omega)]
  show (((x.toUInt32 % 65536).toNat : Nat) : Int) = _
  rw [h5]; omega
theorem kb8 : ∀ k : Fin 128, ((((nI k.1) &&& (255 : Int32)).toUInt32 % 65536).toInt32) = nI k.1 := by decide +kernel
theorem ksb : ∀ i : Fin 36, ∀ j : Fin 64, 0 ≤ (zsb i.1 j.1).toInt ∧ (zsb i.1 j.1).toInt < 128 := by decide +kernel
theorem kcA {i : Nat} {x : Int32} (hi : i < nZS) (h0 : 0 ≤ x.toInt) (h1 : x.toInt < (zsn i : Int)) : ((((zsb i x.toNatClampNeg) &&& (255 : Int32)).toUInt32 % 65536).toInt32).toInt = (zsb i x.toNatClampNeg).toInt := by
  have h2 := qsn i hi
  have h3 := ksb ⟨i, hi⟩ ⟨x.toNatClampNeg, by rw [zcl]; omega⟩
  dsimp only at h3
  have h4 : zsb i x.toNatClampNeg = nI (zsb i x.toNatClampNeg).toInt.toNat := by rw [zle_eq, znI (by omega)]; omega
  have h5 := kb8 ⟨(zsb i x.toNatClampNeg).toInt.toNat, by omega⟩
  dsimp only at h5
  rw [← h4] at h5
  rw [h5]
def kGo (f : Nat → Int32) (e p : Int) (i : Nat) : Prop := ∀ j : Nat, j < zsn i → ysm (ych f e (p + j)) = (zsb i j).toInt
theorem kGo_step {f : Nat → Int32} {e p : Int} {i : Nat} {x : Int32} {r : Int} (h : ∀ j : Nat, (j : Int) < x.toInt → ysm (ych f e (p + j)) = (zsb i j).toInt) (h0 : 0 ≤ x.toInt) (hr : r = x.toInt + 1) (hx : ysm (ych f e (p + x.toInt)) = (zsb i x.toNatClampNeg).toInt) : ∀ j : Nat, (j : Int) < r → ysm (ych f e (p + j)) = (zsb i j).toInt := fun j hj => by
  rcases Int.lt_or_le (j : Int) x.toInt with c | c
  · exact h j c
  · have e1 : (j : Int) = x.toInt := by omega
    have e2 : j = x.toNatClampNeg := by rw [zcl]; omega
    rw [e1, e2]; exact hx
theorem kGo_yes {f : Nat → Int32} {e p : Int} {i : Nat} {x : Int} (h : ∀ j : Nat, (j : Int) < x → ysm (ych f e (p + j)) = (zsb i j).toInt) (hx : (zsn i : Int) ≤ x) : kGo f e p i := fun j hj => h j (by omega)
theorem kGo_no {f : Nat → Int32} {e p : Int} {i : Nat} {x : Int32} (h0 : 0 ≤ x.toInt) (h1 : x.toInt < (zsn i : Int)) (hx : ¬ ysm (ych f e (p + x.toInt)) = (zsb i x.toNatClampNeg).toInt) : ¬ kGo f e p i := fun h => hx (by
  have := h x.toNatClampNeg (by rw [zcl]; omega)
  rw [zcl] at this ⊢
  rw [show p + ((x.toInt.toNat : Nat) : Int) = p + x.toInt by omega] at this
  exact this)
theorem kGo_nil {f : Nat → Int32} {e p : Int} {i : Nat} {x : Int} (h : x ≤ 0) : ∀ j : Nat, (j : Int) < x → ysm (ych f e (p + j)) = (zsb i j).toInt := fun j hj => by omega

def kFi (i : Nat) (c : Int32) : Prop := (0 ≤ c.toInt ∧ c.toInt ≤ 255) ∧ ∃ j : Nat, j < zsn i ∧ (zsb i j).toInt = c.toInt8.toInt32.toInt
theorem kfi8 : ∀ k : Fin 256, (∃ j : Fin 17, zsb 8 j.1 = (nI k.1).toInt8.toInt32) ↔ ((k.1 : Int) = 32 ∨ (k.1 : Int) = 36 ∨ (k.1 : Int) = 45 ∨ (k.1 : Int) = 43 ∨ (k.1 : Int) = 40 ∨ (k.1 : Int) = 41 ∨ (k.1 : Int) = 58 ∨ (k.1 : Int) = 33 ∨ (k.1 : Int) = 94 ∨ (k.1 : Int) = 38 ∨ (k.1 : Int) = 39 ∨ (k.1 : Int) = 126 ∨ (k.1 : Int) = 123 ∨ (k.1 : Int) = 125 ∨ (k.1 : Int) = 60 ∨ (k.1 : Int) = 62 ∨ (k.1 : Int) = 61) := by decide +kernel
theorem kfi_sg {c : Int32} : kFi 8 c ↔ kSg c.toInt := by
  by_cases h : 0 ≤ c.toInt ∧ c.toInt ≤ 255
  · have e1 : c = nI c.toInt.toNat := by rw [zle_eq, znI (by omega)]; omega
    have h8 := kfi8 ⟨c.toInt.toNat, by omega⟩
    dsimp only at h8
    rw [← e1, show ((c.toInt.toNat : Nat) : Int) = c.toInt by omega] at h8
    constructor
    · rintro ⟨_, j, hj, hz⟩
      exact h8.1 ⟨⟨j, hj⟩, zle_eq.2 hz⟩
    · intro hs
      obtain ⟨j, hz⟩ := h8.2 hs
      exact ⟨h, j.1, j.2, zle_eq.1 hz⟩
  · constructor
    · rintro ⟨hh, _⟩; exact absurd hh h
    · intro hs; unfold kSg at hs; omega
theorem kfx_step {i : Nat} {x : Int32} {a r b : Int} (h : ∀ j : Nat, a ≤ (j : Int) → (j : Int) < x.toInt → ¬ (zsb i j).toInt = b) (h0 : 0 ≤ x.toInt) (hr : r = x.toInt + 1) (hx : ¬ (zsb i x.toNatClampNeg).toInt = b) : ∀ j : Nat, a ≤ (j : Int) → (j : Int) < r → ¬ (zsb i j).toInt = b := fun j ha hj => by
  rcases Int.lt_or_le (j : Int) x.toInt with c | c
  · exact h j ha c
  · have e2 : j = x.toNatClampNeg := by rw [zcl]; omega
    rw [e2]; exact hx
theorem kfi_y {i : Nat} {c r x : Int32} (h0 : 0 ≤ c.toInt) (h1 : c.toInt ≤ 255) (hr : 0 ≤ r.toInt) (hx : r.toInt < x.toInt) (hn : x.toInt ≤ (zsn i : Int)) (hz : (zsb i r.toNatClampNeg).toInt = c.toInt8.toInt32.toInt) : kFi i c := ⟨⟨h0, h1⟩, r.toNatClampNeg, by rw [zcl]; omega, hz⟩
theorem kfi_n {i : Nat} {c : Int32} {a x : Int} (h : ∀ j : Nat, a ≤ (j : Int) → (j : Int) < x → ¬ (zsb i j).toInt = c.toInt8.toInt32.toInt) (ha : a ≤ 0) (hx : (zsn i : Int) ≤ x) : ¬ kFi i c := fun ⟨_, j, hj, hz⟩ => h j (by omega) (by omega) hz
theorem kfi_o {i : Nat} {c : Int32} (h : c.toInt < 0 ∨ 255 < c.toInt) : ¬ kFi i c := fun ⟨hh, _⟩ => by omega
theorem kfi_0 {i : Nat} {c : Int32} (h : zsn i = 0) : ¬ kFi i c := fun ⟨_, j, hj, _⟩ => by omega
theorem kgo_w {f : Nat → Int32} {e p : Int} {i : Nat} (l : List Int) (hn : zsn i = l.length) (hb : ∀ j : Nat, j < l.length → (zsb i j).toInt = l.getD j 0) : kGo f e p i ↔ kW f e p l := by
  rw [kW_iff]; unfold kGo; rw [hn]
  exact ⟨fun h j hj => (h j hj).trans (hb j hj), fun h j hj => (h j hj).trans (hb j hj).symm⟩
theorem kgB {l : List Int} {i n : Nat} (h : ∀ m : Fin n, (zsb i m.1).toInt = l.getD m.1 0) : ∀ m : Nat, m < n → (zsb i m).toInt = l.getD m 0 := fun m hm => h ⟨m, hm⟩
theorem kgw_black {f : Nat → Int32} {e p : Int} : kGo f e p 0 ↔ kW f e p kb_black := kgo_w kb_black (by decide) (kgB (n := 7) (by decide))
theorem kgw_blue {f : Nat → Int32} {e p : Int} : kGo f e p 1 ↔ kW f e p kb_blue := kgo_w kb_blue (by decide) (kgB (n := 6) (by decide))
theorem kgw_cyan {f : Nat → Int32} {e p : Int} : kGo f e p 2 ↔ kW f e p kb_cyan := kgo_w kb_cyan (by decide) (kgB (n := 6) (by decide))
theorem kgw_green {f : Nat → Int32} {e p : Int} : kGo f e p 3 ↔ kW f e p kb_green := kgo_w kb_green (by decide) (kgB (n := 7) (by decide))
theorem kgw_magenta {f : Nat → Int32} {e p : Int} : kGo f e p 4 ↔ kW f e p kb_magenta := kgo_w kb_magenta (by decide) (kgB (n := 9) (by decide))
theorem kgw_red {f : Nat → Int32} {e p : Int} : kGo f e p 5 ↔ kW f e p kb_red := kgo_w kb_red (by decide) (kgB (n := 5) (by decide))
theorem kgw_white {f : Nat → Int32} {e p : Int} : kGo f e p 6 ↔ kW f e p kb_white := kgo_w kb_white (by decide) (kgB (n := 7) (by decide))
theorem kgw_yellow {f : Nat → Int32} {e p : Int} : kGo f e p 7 ↔ kW f e p kb_yellow := kgo_w kb_yellow (by decide) (kgB (n := 8) (by decide))
theorem kgw_gen {f : Nat → Int32} {e p : Int} : kGo f e p 9 ↔ kW f e p k_gen := kgo_w k_gen (by decide) (kgB (n := 7) (by decide))
theorem kgw_am {f : Nat → Int32} {e p : Int} : kGo f e p 10 ↔ kW f e p k_am := kgo_w k_am (by decide) (kgB (n := 5) (by decide))
theorem kgw_ap {f : Nat → Int32} {e p : Int} : kGo f e p 11 ↔ kW f e p k_ap := kgo_w k_ap (by decide) (kgB (n := 3) (by decide))
theorem kCo_go {f : Nat → Int32} {e p r : Int} {i : Nat} (h : kGo f e p i) (hi : i < 8) (hr : r = (zsn i : Int)) : kCo f e p r := by
  subst hr
  rcases (show i = 0 ∨ i = 1 ∨ i = 2 ∨ i = 3 ∨ i = 4 ∨ i = 5 ∨ i = 6 ∨ i = 7 by omega) with c | c | c | c | c | c | c | c <;> subst c
  · exact kCo_black (by decide) (kgw_black.1 h)
  · exact kCo_blue (by decide) (kgw_blue.1 h)
  · exact kCo_cyan (by decide) (kgw_cyan.1 h)
  · exact kCo_green (by decide) (kgw_green.1 h)
  · exact kCo_magenta (by decide) (kgw_magenta.1 h)
  · exact kCo_red (by decide) (kgw_red.1 h)
  · exact kCo_white (by decide) (kgw_white.1 h)
  · exact kCo_yellow (by decide) (kgw_yellow.1 h)
theorem kCo_no {f : Nat → Int32} {e p r x : Int} (h : ∀ i : Nat, (i : Int) < x → ¬ kGo f e p i) (hx : 8 ≤ x) (hr : r = 0) : kCo f e p r :=
  kCo_0 hr ⟨fun c => h 0 (by omega) (kgw_black.2 c), fun c => h 1 (by omega) (kgw_blue.2 c), fun c => h 2 (by omega) (kgw_cyan.2 c), fun c => h 3 (by omega) (kgw_green.2 c), fun c => h 4 (by omega) (kgw_magenta.2 c), fun c => h 5 (by omega) (kgw_red.2 c), fun c => h 6 (by omega) (kgw_white.2 c), fun c => h 7 (by omega) (kgw_yellow.2 c)⟩
theorem kNo_step {f : Nat → Int32} {e p r : Int} {i : Nat} {x : Int} (h : ∀ i : Nat, (i : Int) < x → ¬ kGo f e p i) (hr : r = x + 1) (hi : (i : Int) = x) (hn : ¬ kGo f e p i) : ∀ i : Nat, (i : Int) < r → ¬ kGo f e p i := fun j hj => by
  rcases Int.lt_or_le (j : Int) x with c | c
  · exact h j c
  · rw [show j = i by omega]; exact hn
theorem kGo_end {f : Nat → Int32} {e p : Int} {i : Nat} (h : kGo f e p i) (hi : i < 8) (h0 : 0 ≤ p) : p + (zsn i : Int) ≤ e := by
  have hz : ∀ i : Fin 8, 0 < zsn i.1 ∧ ¬ (zsb i.1 (zsn i.1 - 1)).toInt = 0 := by decide +kernel
  have h2 := hz ⟨i, hi⟩
  dsimp only at h2
  have h3 := h (zsn i - 1) (by omega)
  rcases Int.lt_or_le (p + ((zsn i - 1 : Nat) : Int)) e with c | c
  · omega
  · exfalso
    have : ych f e (p + ((zsn i - 1 : Nat) : Int)) = 0 := by unfold ych; rw [if_neg (by omega)]
    rw [this] at h3
    exact h2.2 (h3.symm.trans rfl)
theorem kCo_end {f : Nat → Int32} {e p r : Int} (h : kCo f e p r) (h0 : 0 ≤ p) : r = 0 ∨ p + r ≤ e := by
  rcases h with ⟨a, h⟩ | ⟨a, h⟩ | ⟨a, h⟩ | ⟨a, h⟩ | ⟨a, h⟩ | ⟨a, h⟩ | ⟨a, h⟩ | ⟨a, h⟩ | ⟨a, _⟩
  · right; have := kGo_end (kgw_black.2 h) (by decide) h0; rw [show zsn 0 = 7 by decide] at this; omega
  · right; have := kGo_end (kgw_blue.2 h) (by decide) h0; rw [show zsn 1 = 6 by decide] at this; omega
  · right; have := kGo_end (kgw_cyan.2 h) (by decide) h0; rw [show zsn 2 = 6 by decide] at this; omega
  · right; have := kGo_end (kgw_green.2 h) (by decide) h0; rw [show zsn 3 = 7 by decide] at this; omega
  · right; have := kGo_end (kgw_magenta.2 h) (by decide) h0; rw [show zsn 4 = 9 by decide] at this; omega
  · right; have := kGo_end (kgw_red.2 h) (by decide) h0; rw [show zsn 5 = 5 by decide] at this; omega
  · right; have := kGo_end (kgw_white.2 h) (by decide) h0; rw [show zsn 6 = 7 by decide] at this; omega
  · right; have := kGo_end (kgw_yellow.2 h) (by decide) h0; rw [show zsn 7 = 8 by decide] at this; omega
  · exact Or.inl a
theorem kCl_end {f : Nat → Int32} {e p r : Int} (h : kCl f e p r) (h0 : 0 ≤ p) : r = 0 ∨ p + r ≤ e := by
  have hc : ¬ ych f e p = 0 → p < e := fun c => by
    rcases Int.lt_or_le p e with d | d
    · exact d
    · exact absurd (by unfold ych; rw [if_neg (by omega)]) c
  rcases h with ⟨a, q, hq, b⟩ | ⟨a, b⟩ | ⟨a, b⟩ | ⟨a, b⟩
  · rcases hq with ⟨c, _⟩ | ⟨c, d, _⟩
    · left; omega
    · right; omega
  · omega
  · exact kCo_end b h0
  · rcases b with ⟨b, c⟩ | ⟨b, c⟩
    · right
      have := hc (by unfold kSg at b; omega)
      omega
    · exact Or.inl c
theorem kRun_step {f : Nat → Int32} {e p r : Int} {x : Int} (h : ∀ j : Int, 0 ≤ j → j < x → ysm (ych f e (p + j)) = ysm (ych f e p)) (hr : r = x + 1) (hx : ysm (ych f e (p + x)) = ysm (ych f e p)) : ∀ j : Int, 0 ≤ j → j < r → ysm (ych f e (p + j)) = ysm (ych f e p) := fun j h0 hj => by
  rcases Int.lt_or_le j x with c | c
  · exact h j h0 c
  · rw [show j = x by omega]; exact hx
theorem kRun_one {f : Nat → Int32} {e p r : Int} (hr : r ≤ 1) : ∀ j : Int, 0 ≤ j → j < r → ysm (ych f e (p + j)) = ysm (ych f e p) := fun j h0 hj => by rw [show p + j = p by omega]
theorem kRun_i {f : Nat → Int32} {e p n : Int} (h1 : 1 ≤ n) (h : ∀ j : Int, 0 ≤ j → j < n → ysm (ych f e (p + j)) = ysm (ych f e p)) (hx : ¬ ysm (ych f e (p + n)) = ysm (ych f e p)) : kRun f e p n := ⟨h1, h, hx⟩
theorem kRun_64 {f : Nat → Int32} {e p n : Int} (h1 : 1 ≤ n) (h : ∀ j : Int, 0 ≤ j → j < n → ysm (ych f e (p + j)) = ysm (ych f e p)) (hp : e ≤ p + n) (h0 : ¬ ysm (ych f e p) = 0) : kRun f e p n := ⟨h1, h, fun c => h0 (by rw [← c]; unfold ych; rw [if_neg (by omega)]; rfl)⟩
def kDt (f : Nat → Int32) (e p : Int) : Prop := kRw (ysm (ych f e p)) ∨ (∃ r : Int, 0 < r ∧ kBr f e p r) ∨ kW f e p k_am ∨ kW f e p k_ap
def kMd (f : Nat → Int32) (e p k : Int) : Prop := (kPl (ysm (ych f e p)) ∧ k = 2) ∨ (¬ kPl (ysm (ych f e p)) ∧ ysm (ych f e p) = 64 ∧ k = 6) ∨ (¬ kPl (ysm (ych f e p)) ∧ ¬ ysm (ych f e p) = 64 ∧ kDt f e p ∧ k = 5) ∨ (¬ kPl (ysm (ych f e p)) ∧ ¬ ysm (ych f e p) = 64 ∧ ¬ kDt f e p ∧ k = 1)
theorem kBr_0 {f : Nat → Int32} {e p r c : Int} (hr : r = 0) (hc : c = ysm (ych f e (p + 1))) (h : ¬ ych f e p = 91 ∨ (¬ c = 104 ∧ ¬ c = 109 ∧ ¬ c = 115)) : kBr f e p r := Or.inl ⟨fun ⟨a, b⟩ => by unfold kHms at b; omega, hr⟩
theorem kBr_y {f : Nat → Int32} {e p r c : Int} (h91 : ych f e p = 91) (hc : c = ysm (ych f e (p + 1))) (hh : c = 104 ∨ c = 109 ∨ c = 115) (hR : kRun f e (p + 1) r) (h93 : ych f e (p + 1 + r) = 93) : kBr f e p r := Or.inr ⟨⟨h91, by unfold kHms; omega⟩, r, hR, Or.inl ⟨h93, rfl⟩⟩
theorem kBr_n {f : Nat → Int32} {e p r n c : Int} (h91 : ych f e p = 91) (hc : c = ysm (ych f e (p + 1))) (hh : c = 104 ∨ c = 109 ∨ c = 115) (hR : kRun f e (p + 1) n) (h93 : ¬ ych f e (p + 1 + n) = 93) (hr : r = 0) : kBr f e p r := Or.inr ⟨⟨h91, by unfold kHms; omega⟩, n, hR, Or.inr ⟨h93, hr⟩⟩
theorem kDt_n {f : Nat → Int32} {e p r : Int} (h1 : ¬ kRw (ysm (ych f e p))) (h2 : kBr f e p r) (hr : r ≤ 0) (h3 : ¬ kW f e p k_am) (h4 : ¬ kW f e p k_ap) : ¬ kDt f e p := by
  rintro (h | ⟨q, hq, hb⟩ | h | h)
  · exact h1 h
  · have := kBr_det h2 hb; omega
  · exact h3 h
  · exact h4 h

theorem yS_plb {f : Nat → Int32} {e to : Int} : ∀ (n : Nat) (a : Int), a + n ≤ e → yP f a (a + n) → yS f e to (a + n) → yS f e to a
  | 0, a, _, _, h => by rw [show a + ((0 : Nat) : Int) = a by omega] at h; exact h
  | n + 1, a, he, hP, h => by
    have h1 : yS f e to (a + 1) := yS_plb n (a + 1) (by omega) (fun j h0 h1 => hP j (by omega) (by omega)) (by rw [show a + 1 + (n : Int) = a + ((n + 1 : Nat) : Int) by omega]; exact h)
    have hp := hP a (by omega) (by omega)
    unfold ypl at hp
    exact yS_back (by omega) hp.2.2.2.2 (Or.inr (Or.inr ⟨Or.inl hp.1, fun c => by unfold ypair at c; omega, rfl⟩)) h1
theorem kW_yP {f : Nat → Int32} {e p : Int} {l : List Int} (h : kW f e p l) (hl : ∀ x ∈ l, ypl x ∧ x ≠ 0) : yP f p (p + l.length) := fun j h0 h1 => by
  have h2 := (kW_iff l p).1 h (j - p).toNat (by omega)
  rw [show p + (((j - p).toNat : Nat) : Int) = j by omega] at h2
  have h3 : l.getD (j - p).toNat 0 ∈ l := by
    rw [List.getD_eq_getElem?_getD, List.getElem?_eq_getElem (by omega)]
    exact List.getElem_mem _
  exact (ypl_of h2 (hl _ h3).1 (hl _ h3).2).2
theorem kCo_yP {f : Nat → Int32} {e p r : Int} (h : kCo f e p r) : yP f p (p + r) := by
  rcases h with ⟨a, h⟩ | ⟨a, h⟩ | ⟨a, h⟩ | ⟨a, h⟩ | ⟨a, h⟩ | ⟨a, h⟩ | ⟨a, h⟩ | ⟨a, h⟩ | ⟨a, _⟩
  · subst a; exact kW_yP h (by unfold ypl; decide)
  · subst a; exact kW_yP h (by unfold ypl; decide)
  · subst a; exact kW_yP h (by unfold ypl; decide)
  · subst a; exact kW_yP h (by unfold ypl; decide)
  · subst a; exact kW_yP h (by unfold ypl; decide)
  · subst a; exact kW_yP h (by unfold ypl; decide)
  · subst a; exact kW_yP h (by unfold ypl; decide)
  · subst a; exact kW_yP h (by unfold ypl; decide)
  · exact yP_end (by omega)
theorem ych_f {f : Nat → Int32} {e p : Int} (h : p < e) : ych f e p = (f p.toNat).toInt := by unfold ych; rw [if_pos h]
theorem yS_cl {f : Nat → Int32} {e to p r q : Int} (h0 : 0 ≤ p) (he : p < e) (h59 : ¬ ych f e p = 59) (hc : kCl f e p r) (hr0 : 0 ≤ r) (hq : q = p + (if 1 < r then r else 1)) (h : yS f e to q) : yS f e to p := by
  rw [ych_f he] at h59
  rcases hc with ⟨a, x, hx, b⟩ | ⟨a, b⟩ | ⟨a, b⟩ | ⟨a, b⟩
  · rw [ych_f he] at a
    have hnp : ¬ ypair f e p := fun c => by unfold ypair at c; omega
    rcases id hx with ⟨c, _⟩ | ⟨c, d, _⟩
    · subst c
      have hr : r = 0 := by omega
      subst hr
      rw [if_neg (by decide)] at hq
      exact yS_back he h59 (Or.inr (Or.inr ⟨Or.inr hx, hnp, hq⟩)) h
    · rw [if_pos (by omega)] at hq
      exact yS_back he h59 (Or.inl ⟨a, by rw [show q = x by omega]; exact hx, by omega⟩) h
  · rw [ych_f he] at a
    rcases b with ⟨b, c⟩ | ⟨b, c⟩
    · subst c
      rw [if_pos (by decide)] at hq
      exact yS_back he h59 (Or.inr (Or.inl ⟨Or.inl (by omega), by unfold ypair; exact ⟨by omega, b⟩, hq⟩)) h
    · subst c
      rw [if_neg (by decide)] at hq
      exact yS_back he h59 (Or.inr (Or.inr ⟨Or.inl (by omega), fun c => by unfold ypair at c; omega, hq⟩)) h
  · rw [ych_f he] at a
    have hnp : ¬ ypair f e p := fun c => by unfold ypair at c; omega
    rcases kCo_end b h0 with c | c
    · subst c
      rw [if_neg (by decide)] at hq
      exact yS_back he h59 (Or.inr (Or.inr ⟨Or.inl (by omega), hnp, hq⟩)) h
    · by_cases h1 : 1 < r
      · rw [if_pos h1] at hq
        have := kCo_yP b
        exact yS_plb r.toNat p (by omega) (by rw [show p + ((r.toNat : Nat) : Int) = p + r by omega]; exact this) (by rw [show p + ((r.toNat : Nat) : Int) = q by omega]; exact h)
      · rw [if_neg h1] at hq
        exact yS_back he h59 (Or.inr (Or.inr ⟨Or.inl (by omega), hnp, hq⟩)) h
  · rw [ych_f he] at a b
    have hnp : ¬ ypair f e p := fun c => by unfold ypair at c; omega
    have hr : ¬ 1 < r := by rcases b with ⟨_, c⟩ | ⟨_, c⟩ <;> omega
    rw [if_neg hr] at hq
    exact yS_back he h59 (Or.inr (Or.inr ⟨Or.inl (by omega), hnp, hq⟩)) h
theorem yS_clc {f : Nat → Int32} {e x1 p r q : Int} (hS : ∀ to : Int, yS f e to p → yS f e to x1) (h0 : 0 ≤ p) (he : p < e) (h59 : ¬ ych f e p = 59) (hc : kCl f e p r) (hr0 : 0 ≤ r) (hq : q = p + (if 1 < r then r else 1)) : ∀ to : Int, yS f e to q → yS f e to x1 := fun to h => hS to (yS_cl h0 he h59 hc hr0 hq h)
def kKd (f : Nat → Int32) (e to : Int) : Nat → Int → Int → Int → Prop
  | 0, _, _, _ => False
  | n + 1, p, k, kp => (to ≤ p ∧ k = 1 ∧ kp = to) ∨ (p < to ∧ ∃ r : Int, kCl f e p r ∧ ((0 < r ∧ kKd f e to n (p + r) k kp) ∨ (r = 0 ∧ ∃ m : Int, kMd f e p m ∧ (¬ m = 1 ∧ k = m ∧ kp = p ∨ m = 1 ∧ kKd f e to n (p + 1) k kp))))
def kK (f : Nat → Int32) (e to p k kp : Int) : Prop := ∃ n, kKd f e to n p k kp
theorem kK_end {f : Nat → Int32} {e to p k kp : Int} (h : to ≤ p) (hk : k = 1) (hkp : kp = to) : kK f e to p k kp := ⟨1, Or.inl ⟨h, hk, hkp⟩⟩
theorem kK_cl {f : Nat → Int32} {e to p r k kp : Int} (h : p < to) (hc : kCl f e p r) (hr : 0 < r) (hn : kK f e to (p + r) k kp) : kK f e to p k kp := by
  obtain ⟨n, hn⟩ := hn; exact ⟨n + 1, Or.inr ⟨h, r, hc, Or.inl ⟨hr, hn⟩⟩⟩
theorem kK_md {f : Nat → Int32} {e to p r k kp : Int} (h : p < to) (hc : kCl f e p r) (hr : r = 0) (hm : kMd f e p k) (h1 : ¬ k = 1) (hkp : kp = p) : kK f e to p k kp := ⟨1, Or.inr ⟨h, r, hc, Or.inr ⟨hr, k, hm, Or.inl ⟨h1, rfl, hkp⟩⟩⟩⟩
theorem kK_1 {f : Nat → Int32} {e to p r m k kp : Int} (h : p < to) (hc : kCl f e p r) (hr : r = 0) (hm : kMd f e p m) (h1 : m = 1) (hn : kK f e to (p + 1) k kp) : kK f e to p k kp := by
  obtain ⟨n, hn⟩ := hn; exact ⟨n + 1, Or.inr ⟨h, r, hc, Or.inr ⟨hr, m, hm, Or.inr ⟨h1, hn⟩⟩⟩⟩
theorem kMd_det {f : Nat → Int32} {e p k q : Int} (h : kMd f e p k) (g : kMd f e p q) : k = q := by
  rcases h with ⟨a, b⟩ | ⟨a, a2, b⟩ | ⟨a, a2, a3, b⟩ | ⟨a, a2, a3, b⟩ <;> rcases g with ⟨c, d⟩ | ⟨c, c2, d⟩ | ⟨c, c2, c3, d⟩ | ⟨c, c2, c3, d⟩ <;> first | (exact b.trans d.symm) | exact absurd a c | exact absurd c a | exact absurd a2 c2 | exact absurd c2 a2 | exact absurd a3 c3 | exact absurd c3 a3
theorem kKd_det {f : Nat → Int32} {e to : Int} : ∀ (n m : Nat) (p k kp q qp : Int), kKd f e to n p k kp → kKd f e to m p q qp → k = q ∧ kp = qp
  | 0, _, _, _, _, _, _, h, _ => h.elim
  | _ + 1, 0, _, _, _, _, _, _, h => h.elim
  | n + 1, m + 1, p, k, kp, q, qp, h, g => by
    rcases h with ⟨a, b, c⟩ | ⟨a, r, hc, h⟩ <;> rcases g with ⟨a', b', c'⟩ | ⟨a', r', hc', g⟩
    · omega
    · omega
    · omega
    · have hr := kCl_det hc hc'
      subst hr
      rcases h with ⟨h0, h⟩ | ⟨h0, x, hx, h⟩ <;> rcases g with ⟨g0, g⟩ | ⟨g0, y, hy, g⟩
      · exact kKd_det n m _ _ _ _ _ h g
      · omega
      · omega
      · have hm := kMd_det hx hy
        subst hm
        rcases h with ⟨h1, h2, h3⟩ | ⟨h1, h⟩ <;> rcases g with ⟨g1, g2, g3⟩ | ⟨g1, g⟩
        · omega
        · omega
        · omega
        · exact kKd_det n m _ _ _ _ _ h g
theorem kK_det {f : Nat → Int32} {e to p k kp q qp : Int} (h : kK f e to p k kp) (g : kK f e to p q qp) : k = q ∧ kp = qp := by
  obtain ⟨n, h⟩ := h; obtain ⟨m, g⟩ := g; exact kKd_det n m _ _ _ _ _ h g
theorem kzm1 {x r : Int32} (h0 : 0 ≤ x.toInt) (h1 : x.toInt ≤ 100) (hr : r.toInt = 0) : (x + zmax 1 r).toInt = x.toInt + 1 := by
  have h : (zmax 1 r).toInt = 1 := by rw [qmax]; simp only [Int32.reduceToInt]; omega
  rw [zadd1 (by omega) (by omega), h]
theorem kzm2 {x r : Int32} (h0 : 0 ≤ x.toInt) (h1 : x.toInt ≤ 100) (hr : 0 < r.toInt) (h2 : r.toInt ≤ 100) : (x + zmax 1 r).toInt = x.toInt + r.toInt := by
  have h : (zmax 1 r).toInt = r.toInt := by rw [qmax]; simp only [Int32.reduceToInt]; omega
  rw [zadd1 (by omega) (by omega), h]

theorem ysm_lt {f : Nat → Int32} {e p : Int} (h : ¬ ysm (ych f e p) = 0) : p < e := by
  rcases Int.lt_or_le p e with d | d
  · exact d
  · exact absurd (by unfold ych; rw [if_neg (by omega)]; rfl) h
theorem kCl_0 {f : Nat → Int32} {e p : Int} (h34 : ¬ ych f e p = 34) (h92 : ¬ ych f e p = 92) (h95 : ¬ ych f e p = 95) (h42 : ¬ ych f e p = 42) (h91 : ¬ ych f e p = 91) (hs : ¬ kSg (ych f e p)) : kCl f e p 0 := Or.inr (Or.inr (Or.inr ⟨⟨h34, h92, h95, h42, h91⟩, Or.inr ⟨hs, rfl⟩⟩))
theorem kCl_low {f : Nat → Int32} {e p c : Int} (h : ysm (ych f e p) = c) (hc : c = 48 ∨ c = 35 ∨ c = 63 ∨ c = 64 ∨ (97 ≤ c ∧ c ≤ 122)) : kCl f e p 0 := by
  have h2 : ych f e p = c ∨ (65 ≤ ych f e p ∧ ych f e p ≤ 90) := by unfold ysm at h; split at h <;> omega
  refine kCl_0 ?_ ?_ ?_ ?_ ?_ ?_
  · omega
  · omega
  · omega
  · omega
  · omega
  · unfold kSg; omega
theorem kBr_co {f : Nat → Int32} {e p r : Int} (h : kBr f e p r) (hr : 0 < r) : ych f e p = 91 ∧ kCo f e p 0 := by
  rcases h with ⟨_, a⟩ | ⟨⟨a, b⟩, n, hn, c⟩
  · omega
  · rcases c with ⟨c, d⟩ | ⟨c, d⟩
    · refine ⟨a, kCo_0 rfl ?_⟩
      have h2 : ∀ x : Int, kHms (ysm (ych f e (p + 1))) → ¬ ysm (ych f e (p + 1)) = x ∨ ¬ ysm (ych f e (p + 1 + 1)) = 97 ∨ (¬ x = 98 ∧ ¬ x = 99 ∧ ¬ x = 103 ∧ ¬ x = 114 ∧ ¬ x = 119 ∧ ¬ x = 121 ∧ ¬ x = 109) := fun x hx => by
        unfold kHms at hx
        by_cases hm : ysm (ych f e (p + 1)) = 109
        · have h3 : ¬ ysm (ych f e (p + 1 + 1)) = 97 := by
            by_cases hn1 : n = 1
            · subst hn1; rw [c]; decide
            · have := hn.2.1 1 (by decide) (by have := hn.1; omega)
              omega
          omega
        · omega
      have hb := b
      unfold kHms at hb
      have m2 := h2 109 b
      refine ⟨?_, ?_, ?_, ?_, ?_, ?_, ?_, ?_⟩
      · intro k; simp only [kb_black, kW] at k; omega
      · intro k; simp only [kb_blue, kW] at k; omega
      · intro k; simp only [kb_cyan, kW] at k; omega
      · intro k; simp only [kb_green, kW] at k; omega
      · intro k; simp only [kb_magenta, kW] at k; omega
      · intro k; simp only [kb_red, kW] at k; omega
      · intro k; simp only [kb_white, kW] at k; omega
      · intro k; simp only [kb_yellow, kW] at k; omega
    · omega
theorem kDt_cl {f : Nat → Int32} {e p : Int} (h : kDt f e p) : kCl f e p 0 := by
  rcases h with h | ⟨r, hr, h⟩ | h | h
  · exact kCl_low rfl (by unfold kRw at h; omega)
  · have := kBr_co h hr
    exact Or.inr (Or.inr (Or.inl ⟨this.1, this.2⟩))
  · simp only [k_am, kW] at h; exact kCl_low h.1 (by omega)
  · simp only [k_ap, kW] at h; exact kCl_low h.1 (by omega)
theorem kMd_cl {f : Nat → Int32} {e p k : Int} (h : kMd f e p k) (h1 : ¬ k = 1) : kCl f e p 0 := by
  rcases h with ⟨a, b⟩ | ⟨a, a2, b⟩ | ⟨a, a2, a3, b⟩ | ⟨a, a2, a3, b⟩
  · exact kCl_low rfl (by unfold kPl at a; omega)
  · exact kCl_low a2 (by omega)
  · exact kDt_cl a3
  · exact absurd b h1
theorem kK_m {f : Nat → Int32} {e to p k : Int} (h : p < to) (hm : kMd f e p k) (h1 : ¬ k = 1) : ∃ kp : Int, kK f e to p k kp := ⟨p, kK_md h (kMd_cl hm h1) rfl hm h1 rfl⟩
theorem kDt_64 {f : Nat → Int32} {e p : Int} (h : ysm (ych f e p) = 64) : ¬ kDt f e p := by
  have h2 : ych f e p = 64 := by unfold ysm at h; split at h <;> omega
  rintro (k | ⟨r, hr, k⟩ | k | k)
  · unfold kRw at k; omega
  · have := (kBr_co k hr).1; omega
  · simp only [k_am, kW] at k; omega
  · simp only [k_ap, kW] at k; omega
theorem kK_q {f : Nat → Int32} {e to p q k kp : Int} (h : p < to) (hc : ych f e p = 34) (hq : yQ f e p q) (hpq : p < q) (hn : kK f e to q k kp) : kK f e to p k kp :=
  kK_cl h (r := q - p) (Or.inl ⟨hc, q, hq, rfl⟩) (by omega) (by rw [show p + (q - p) = q by omega]; exact hn)
theorem kK_p {f : Nat → Int32} {e to p k kp : Int} (h : p < to) (hc : ych f e p = 92 ∨ ych f e p = 95 ∨ ych f e p = 42) (he : p + 1 < e) (hn : kK f e to (p + 2) k kp) : kK f e to p k kp :=
  kK_cl h (r := 2) (Or.inr (Or.inl ⟨hc, Or.inl ⟨he, rfl⟩⟩)) (by decide) hn
theorem ycol_91 {f : Nat → Int32} {e p : Int} (h : 0 < ycol f e p) : ych f e p = 91 := by
  rcases kCo_ycol (f := f) (e := e) (p := p) with k | k | k | k | k | k | k | k | k
  · exact (kbi_black.1 k.2).1
  · exact (kbi_blue.1 k.2).1
  · exact (kbi_cyan.1 k.2).1
  · exact (kbi_green.1 k.2).1
  · exact (kbi_magenta.1 k.2).1
  · exact (kbi_red.1 k.2).1
  · exact (kbi_white.1 k.2).1
  · exact (kbi_yellow.1 k.2).1
  · omega
theorem kK_c {f : Nat → Int32} {e to p r k kp : Int} (h : p < to) (hc : r = ycol f e p) (hr : 0 < r) (hn : kK f e to (p + r) k kp) : kK f e to p k kp := by
  subst hc
  exact kK_cl h (Or.inr (Or.inr (Or.inl ⟨ycol_91 hr, kCo_ycol⟩))) hr hn
theorem kK_o {f : Nat → Int32} {e to p r k kp : Int} (h : p < to) (hq : ¬ ych f e p = 34 ∨ yQ f e p p) (hp : ¬ ((ych f e p = 92 ∨ ych f e p = 95 ∨ ych f e p = 42) ∧ p + 1 < e)) (hr : r = ycol f e p) (hr0 : r = 0) (hm : kMd f e p 1) (hn : kK f e to (p + 1) k kp) : kK f e to p k kp := by
  by_cases h34 : ych f e p = 34
  · rcases hq with c | c
    · exact absurd h34 c
    · exact kK_1 h (r := 0) (Or.inl ⟨h34, p, c, by omega⟩) rfl hm rfl hn
  by_cases hpr : ych f e p = 92 ∨ ych f e p = 95 ∨ ych f e p = 42
  · exact kK_1 h (r := 0) (Or.inr (Or.inl ⟨hpr, Or.inr ⟨fun c => hp ⟨hpr, c⟩, rfl⟩⟩)) rfl hm rfl hn
  by_cases h91 : ych f e p = 91
  · exact kK_1 h (r := 0) (Or.inr (Or.inr (Or.inl ⟨h91, by have := kCo_ycol (f := f) (e := e) (p := p); rw [← hr, hr0] at this; exact this⟩))) rfl hm rfl hn
  by_cases hs : kSg (ych f e p)
  · exact kK_cl h (r := 1) (Or.inr (Or.inr (Or.inr ⟨⟨h34, by omega, by omega, by omega, h91⟩, Or.inl ⟨hs, rfl⟩⟩))) (by decide) hn
  · exact kK_1 h (r := 0) (kCl_0 h34 (by omega) (by omega) (by omega) h91 hs) rfl hm rfl hn
theorem kMd_2 {f : Nat → Int32} {e p c : Int} (hc : c = ysm (ych f e p)) (h : kPl c) : kMd f e p 2 := by subst hc; exact Or.inl ⟨h, rfl⟩
theorem kMd_5 {f : Nat → Int32} {e p c : Int} (hc : c = ysm (ych f e p)) (h : ¬ kPl c) (hD : kDt f e p) : kMd f e p 5 := by subst hc; exact Or.inr (Or.inr (Or.inl ⟨h, fun q => kDt_64 q hD, hD, rfl⟩))
theorem kMd_6 {f : Nat → Int32} {e p c : Int} (hc : c = ysm (ych f e p)) (h : c = 64) : kMd f e p 6 := by subst hc; exact Or.inr (Or.inl ⟨fun q => by unfold kPl at q; omega, h, rfl⟩)
theorem kMd_1 {f : Nat → Int32} {e p c r : Int} (hc : c = ysm (ych f e p)) (h : ¬ kPl c) (h64 : ¬ c = 64) (h1 : ¬ kRw c) (h2 : kBr f e p r) (hr : r ≤ 0) (h3 : ¬ ySt f e p 418443653229) (h4 : ¬ ySt f e p 6369136) : kMd f e p 1 := by
  subst hc; exact Or.inr (Or.inr (Or.inr ⟨h, h64, kDt_n h1 h2 hr (fun k => h3 (kw_am.2 k)) (fun k => h4 (kw_ap.2 k)), rfl⟩))
theorem kDt_1 {f : Nat → Int32} {e p c : Int} (hc : c = ysm (ych f e p)) (h : kRw c) : kDt f e p := by subst hc; exact Or.inl h
theorem kDt_2 {f : Nat → Int32} {e p r : Int} (h : kBr f e p r) (hr : 0 < r) : kDt f e p := Or.inr (Or.inl ⟨r, hr, h⟩)
theorem kDt_3 {f : Nat → Int32} {e p : Int} (h : ySt f e p 418443653229) : kDt f e p := Or.inr (Or.inr (Or.inl (kw_am.1 h)))
theorem kDt_4 {f : Nat → Int32} {e p : Int} (h : ySt f e p 6369136) : kDt f e p := Or.inr (Or.inr (Or.inr (kw_ap.1 h)))
theorem kK_out {f : Nat → Int32} {e to p x k : Int} {A C : Prop} (hN : A) (hK : ∀ k kp : Int, kK f e to p k kp → kK f e to x k kp) (h : p < to) (hm : kMd f e p k) (h1 : ¬ k = 1) : C ∨ (A ∧ ∃ kp : Int, kK f e to x k kp) := by
  obtain ⟨kp, hk⟩ := kK_m h hm h1; exact Or.inr ⟨hN, kp, hK _ _ hk⟩
theorem ysm_34 {c : Int} : ysm c = 34 ↔ c = 34 := by unfold ysm; split <;> omega
theorem kRun_i0 {f : Nat → Int32} {e p n : Int} (h0 : 0 ≤ n) (h : ∀ j : Int, 0 ≤ j → j < n → ysm (ych f e (p + j)) = ysm (ych f e p)) (hx : ¬ ysm (ych f e (p + n)) = ysm (ych f e p)) : kRun f e p n := by
  refine ⟨?_, h, hx⟩
  rcases Int.lt_or_le 0 n with c | c
  · omega
  · exfalso; have e0 : n = 0 := by omega
    subst e0; exact hx (by rw [Int.add_zero])
theorem kK_outE {f : Nat → Int32} {e to p x k r : Int} {A C : Prop} (hN : A) (hK : ∀ k kp : Int, kK f e to p k kp → kK f e to x k kp) (h : p < to) (hm : kMd f e p k) (h1 : ¬ k = 1) (hr : r = k) : C ∨ (A ∧ ∃ kp : Int, kK f e to x r kp) := by
  subst hr; exact kK_out hN hK h hm h1
theorem kK_endE {f : Nat → Int32} {e to p x r : Int} {A C : Prop} (hN : A) (hK : ∀ k kp : Int, kK f e to p k kp → kK f e to x k kp) (h : to ≤ p) (hr : r = 1) : C ∨ (A ∧ ∃ kp : Int, kK f e to x r kp) := Or.inr ⟨hN, to, hK _ _ (kK_end h hr rfl)⟩
