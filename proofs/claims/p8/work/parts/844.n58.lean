/-! the reference's names -/
def nby (w : Int64) (x : Int32) : Int := (((w >>> (x.toInt64 &&& 63)) &&& 255).toInt32).toInt
def nml (w : Int64) (L : Int) : Nat → Int → List Int
  | 0, _ => []
  | j + 1, n => if 0 < nby w (nI (8 * j)) ∧ n < L then nby w (nI (8 * j)) :: nml w L j (n + 1) else nml w L j n
def nmT (L m : Int) : List Int := if 0 < m ∧ 8 < L then [m] else []
def nmR (w : Int64) (L m : Int) : List Int := nml w L 8 0 ++ nmT L m
theorem nml_a {x : Int32} (h0 : 0 ≤ x.toInt) (h8 : x.toInt % 8 = 0) (h1 : x.toInt ≤ 56) : nI (8 * (x.toInt / 8).toNat) = x := by
  rw [zle_eq, znI (by omega)]; omega
theorem nml_y {w : Int64} {x : Int32} {L n m y : Int} {T : List Int} (h0 : ¬ x.toInt < 0) (h8 : x.toInt % 8 = 0) (h1 : x.toInt ≤ 56) (hc : ¬ (((w >>> (x.toInt64 &&& 63)) &&& 255).toInt32).toInt ≤ 0) (hn : ¬ L ≤ n) (hy : y = x.toInt - 8) (hm : m = n + 1) : nml w L (x.toInt / 8 + 1).toNat n ++ T = [(((w >>> (x.toInt64 &&& 63)) &&& 255).toInt32).toInt] ++ (nml w L (y / 8 + 1).toNat m ++ T) := by
  have e := nml_a (x := x) (by omega) h8 h1
  have hc : 0 < nby w x := Int.lt_of_not_ge hc
  show _ = [nby w x] ++ _
  rw [show (x.toInt / 8 + 1).toNat = (x.toInt / 8).toNat + 1 by omega, show (y / 8 + 1).toNat = (x.toInt / 8).toNat by omega]
  show (if 0 < nby w (nI (8 * (x.toInt / 8).toNat)) ∧ n < L then nby w (nI (8 * (x.toInt / 8).toNat)) :: nml w L (x.toInt / 8).toNat (n + 1) else nml w L (x.toInt / 8).toNat n) ++ T = _
  rw [e, if_pos ⟨hc, by omega⟩, hm]; rfl
theorem nml_n {w : Int64} {x : Int32} {L n y : Int} {T : List Int} (h0 : ¬ x.toInt < 0) (h8 : x.toInt % 8 = 0) (h1 : x.toInt ≤ 56) (hc : (((w >>> (x.toInt64 &&& 63)) &&& 255).toInt32).toInt ≤ 0 ∨ L ≤ n) (hy : y = x.toInt - 8) : nml w L (x.toInt / 8 + 1).toNat n ++ T = nml w L (y / 8 + 1).toNat n ++ T := by
  have e := nml_a (x := x) (by omega) h8 h1
  have hc : nby w x ≤ 0 ∨ L ≤ n := hc
  rw [show (x.toInt / 8 + 1).toNat = (x.toInt / 8).toNat + 1 by omega, show (y / 8 + 1).toNat = (x.toInt / 8).toNat by omega]
  show (if 0 < nby w (nI (8 * (x.toInt / 8).toNat)) ∧ n < L then nby w (nI (8 * (x.toInt / 8).toNat)) :: nml w L (x.toInt / 8).toNat (n + 1) else nml w L (x.toInt / 8).toNat n) ++ T = _
  rw [e, if_neg (by omega)]
theorem nm_e1 {w : Int64} {x L n m : Int} (h0 : x < 0) (h1 : -8 ≤ x) (h : m ≤ 0 ∨ L ≤ 8) : nml w L (x / 8 + 1).toNat n ++ nmT L m = [] := by
  rw [show (x / 8 + 1).toNat = 0 by omega]
  unfold nmT
  rw [if_neg (by omega)]; rfl
theorem nm_e2 {w : Int64} {x L n m : Int} (h0 : x < 0) (h1 : -8 ≤ x) (h : ¬ m ≤ 0) (h2 : ¬ L ≤ 8) : nml w L (x / 8 + 1).toNat n ++ nmT L m = [m] ++ [] := by
  rw [show (x / 8 + 1).toNat = 0 by omega]
  unfold nmT
  rw [if_pos (by omega)]; rfl
def mwR (m : Int) : Int64 := if m = 1 then 20936275320205945 else if m = 2 then 5072568799037846137 else if m = 3 then 332347368296 else if m = 4 then 281059420524 else if m = 5 then 5071225 else if m = 6 then 1249209957 else if m = 7 then 1249209465 else if m = 8 then 71972502729588 else if m = 9 then 6009332923015979621 else if m = 10 then 22345874896217458 else if m = 11 then 5651866235372201330 else 4928454654504887666
def dwR (m : Int) : Int64 := if m = 0 then 91763828351353 else if m = 1 then 85140988780921 else if m = 2 then 23772976631800185 else if m = 3 then 6297550079258748001 else if m = 4 then 6082240431186534777 else if m = 5 then 77457208402297 else 6008211425668129145
theorem nm_mm0 : ∀ i : Fin 12, ∀ j : Fin 3, nmR (mwR ((i.1 : Int) + 1)) (if (j.1 : Int) + 3 = 3 then 3 else if (j.1 : Int) + 3 = 4 then 9 else 1) (if (i.1 : Int) + 1 = 9 then 114 else 0) = nmC (mnI ((i.1 : Int) + 1)) ((j.1 : Int) + 3) := by decide +kernel
theorem nm_dd0 : ∀ i : Fin 7, ∀ j : Fin 2, nmR (dwR (i.1 : Int)) (if (j.1 : Int) + 3 = 3 then 3 else 9) (if (i.1 : Int) = 3 then 121 else 0) = nmC (wdI (i.1 : Int)) ((j.1 : Int) + 3) := by decide +kernel
theorem nm_mm {m n L q : Int} (h1 : 1 ≤ m) (h2 : m ≤ 12) (h3 : 3 ≤ n) (h5 : n ≤ 5) (hL : (n = 3 ∧ L = 3) ∨ (n = 4 ∧ L = 9) ∨ (n = 5 ∧ L = 1)) (hq : (m = 9 ∧ q = 114) ∨ (¬ m = 9 ∧ q = 0)) : nmR (mwR m) L q = nmC (mnI m) n := by
  have a := nm_mm0 ⟨(m - 1).toNat, by omega⟩ ⟨(n - 3).toNat, by omega⟩
  dsimp only at a
  rw [show (((m - 1).toNat : Nat) : Int) + 1 = m by omega, show (((n - 3).toNat : Nat) : Int) + 3 = n by omega] at a
  have e1 : (if n = 3 then (3 : Int) else if n = 4 then 9 else 1) = L := by
    rcases hL with h | h | h
    · rw [if_pos h.1, h.2]
    · rw [if_neg (by omega), if_pos h.1, h.2]
    · rw [if_neg (by omega), if_neg (by omega), h.2]
  have e2 : (if m = 9 then (114 : Int) else 0) = q := by
    rcases hq with h | h
    · rw [if_pos h.1, h.2]
    · rw [if_neg h.1, h.2]
  rw [e1, e2] at a
  exact a
theorem nm_dd {m n L q : Int} (h1 : 0 ≤ m) (h2 : m ≤ 6) (h3 : 3 ≤ n) (h5 : n ≤ 4) (hL : (n = 3 ∧ L = 3) ∨ (n = 4 ∧ L = 9)) (hq : (m = 3 ∧ q = 121) ∨ (¬ m = 3 ∧ q = 0)) : nmR (dwR m) L q = nmC (wdI m) n := by
  have a := nm_dd0 ⟨m.toNat, by omega⟩ ⟨(n - 3).toNat, by omega⟩
  dsimp only at a
  rw [show ((m.toNat : Nat) : Int) = m by omega, show (((n - 3).toNat : Nat) : Int) + 3 = n by omega] at a
  have e1 : (if n = 3 then (3 : Int) else 9) = L := by
    rcases hL with h | h
    · rw [if_pos h.1, h.2]
    · rw [if_neg (by omega), h.2]
  have e2 : (if m = 3 then (121 : Int) else 0) = q := by
    rcases hq with h | h
    · rw [if_pos h.1, h.2]
    · rw [if_neg h.1, h.2]
  rw [e1, e2] at a
  exact a
theorem mwR_12 {m : Int} (h1 : ¬ m = 1) (h2 : ¬ m = 2) (h3 : ¬ m = 3) (h4 : ¬ m = 4) (h5 : ¬ m = 5) (h6 : ¬ m = 6) (h7 : ¬ m = 7) (h8 : ¬ m = 8) (h9 : ¬ m = 9) (h10 : ¬ m = 10) (h11 : ¬ m = 11) : 4928454654504887666 = mwR m := by
  unfold mwR
  rw [if_neg h1, if_neg h2, if_neg h3, if_neg h4, if_neg h5, if_neg h6, if_neg h7, if_neg h8, if_neg h9, if_neg h10, if_neg h11]
theorem dwR_6 {m : Int} (h0 : ¬ m = 0) (h1 : ¬ m = 1) (h2 : ¬ m = 2) (h3 : ¬ m = 3) (h4 : ¬ m = 4) (h5 : ¬ m = 5) : 6008211425668129145 = dwR m := by
  unfold dwR
  rw [if_neg h0, if_neg h1, if_neg h2, if_neg h3, if_neg h4, if_neg h5]
/-! one row of a date, of both sides -/
def okR (a b : Int) : Prop := (a = 121 ∧ (b = 2 ∨ b = 4)) ∨ (a = 109 ∧ 1 ≤ b ∧ b ≤ 5) ∨ (a = 100 ∧ 1 ≤ b ∧ b ≤ 4) ∨ (¬ a = 121 ∧ ¬ a = 109 ∧ ¬ a = 100 ∧ 1 ≤ b ∧ b ≤ 2)
section
variable {y m d N s t hd a c : Int}
theorem rv_y2 (ha : a = 121) (hc : c = 2) : fig (y % 100) 2 = dvE y m d N s t hd (rkR a) c := by
  subst ha; subst hc; rw [show rkR 121 = 20 by decide]; exact (dvD_1 rfl rfl).trans (dvE_d (by decide) (by decide))
theorem rv_y4 (ha : a = 121) (hc : c = 4) (hy : 1000 ≤ y) : fig y 1 = dvE y m d N s t hd (rkR a) c := by
  subst ha; subst hc; rw [show rkR 121 = 20 by decide, ← fig_4 hy]; exact (dvD_2 rfl (by decide)).trans (dvE_d (by decide) (by decide))
theorem rv_m (ha : a = 109) (hc : ¬ 3 ≤ c) : fig m c = dvE y m d N s t hd (rkR a) c := by
  subst ha; rw [show rkR 109 = 21 by decide]; exact (dvD_3 (by decide) rfl (by omega)).trans (dvE_d (by decide) (by decide))
theorem rv_mn {X : List Int} (ha : a = 109) (hc : 3 ≤ c) (hX : X = nmC (mnI m) c) : X = dvE y m d N s t hd (rkR a) c := by
  subst ha; rw [show rkR 109 = 21 by decide, hX]; exact (dvD_5 (by decide) rfl (by omega) rfl).trans (dvE_d (by decide) (by decide))
theorem rv_d (ha : a = 100) (hc : ¬ 3 ≤ c) : fig d c = dvE y m d N s t hd (rkR a) c := by
  subst ha; rw [show rkR 100 = 22 by decide]; exact (dvD_4 (by decide) (by decide) (by omega)).trans (dvE_d (by decide) (by decide))
theorem rv_dn {X : List Int} (ha : a = 100) (hc : 3 ≤ c) (hX : X = nmC (wdI ((N + 6) % 7)) c) : X = dvE y m d N s t hd (rkR a) c := by
  subst ha; rw [show rkR 100 = 22 by decide, hX]; exact (dvD_6 (by decide) (by decide) (by omega) rfl rfl).trans (dvE_d (by decide) (by decide))
theorem rv_h0 (ha : a = 104) (h : hd = 0) : fig (s / 3600) c = dvE y m d N s t hd (rkR a) c := by
  subst ha; rw [show rkR 104 = 23 by decide]; exact (dvT_23a rfl h).trans (dvE_t (by decide))
theorem rv_h1 {v : Int} (ha : a = 104) (h : ¬ hd = 0) (h0 : 0 ≤ s) (h1 : s < 86400) (hv : (¬ s / 3600 % 12 = 0 ∧ v = s / 3600 % 12) ∨ (s / 3600 % 12 = 0 ∧ v = 12)) : fig v c = dvE y m d N s t hd (rkR a) c := by
  subst ha; rw [show rkR 104 = 23 by decide]
  have e : v = (s / 3600 + 11) % 12 + 1 := by
    rw [h12_e h0 h1]
    rcases hv with ⟨p, q⟩ | ⟨p, q⟩
    · rw [if_neg p, q]
    · rw [if_pos p, q]
  rw [e]; exact (dvT_23b rfl h).trans (dvE_t (by decide))
theorem rv_n (ha : a = 110) : fig (s / 60 % 60) c = dvE y m d N s t hd (rkR a) c := by
  subst ha; rw [show rkR 110 = 24 by decide]; exact (dvT_24 rfl).trans (dvE_t (by decide))
theorem rv_s (h1 : ¬ a = 100) (h2 : ¬ a = 104) (h3 : ¬ a = 109) (h4 : ¬ a = 110) (h5 : ¬ a = 121) : fig (s % 60) c = dvE y m d N s t hd (rkR a) c := by
  have e : rkR a = 25 := by unfold rkR; rw [if_neg h5, if_neg h3, if_neg h1, if_neg h2, if_neg h4]
  rw [e]; exact (dvT_25 rfl).trans (dvE_t (by decide))
end
theorem sec_v {J : Int64} {r : Int32} {P : Int} (hr : r.toInt = 10 ^ P.toNat) (h0 : 0 ≤ J.toInt) (h1 : J.toInt < dtP P) : ((J / r.toInt64).toInt32).toInt = J.toInt / 10 ^ P.toNat ∧ 0 ≤ J.toInt / 10 ^ P.toNat ∧ J.toInt / 10 ^ P.toNat < 86400 := by
  have p := p10 P.toNat
  have e : (r.toInt64).toInt = 10 ^ P.toNat := by rw [zi64]; exact hr
  have d := zl_dn (x := J) rfl e h0 (by omega)
  have b0 := Int.ediv_nonneg h0 (Int.le_of_lt p)
  have b1 : J.toInt / 10 ^ P.toNat < 86400 := Int.ediv_lt_of_lt_mul p h1
  exact ⟨by rw [zl_i32 (by omega) (by omega), d], b0, b1⟩
