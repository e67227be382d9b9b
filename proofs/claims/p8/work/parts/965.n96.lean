/-! a power's places, a stroke's -/
theorem rvs_cut {K A B Q : Nat → Int32} {x e : Int} {R S : List (Int × Int × Int × Int32)} (h0 : 0 ≤ x) (hx : x ≤ e) (h : rvs K A B Q x e = R ++ S) : ∃ y : Int, (x ≤ y ∧ y ≤ e) ∧ rvs K A B Q x y = R ∧ rvs K A B Q y e = S := by
  have l := rvs_len (K := K) (A := A) (B := B) (Q := Q) hx
  rw [h, List.length_append] at l
  have hy : x ≤ x + R.length ∧ x + R.length ≤ e := by omega
  have e2 := rvs_app (K := K) (A := A) (B := B) (Q := Q) h0 hy.1 hy.2
  rw [h] at e2
  have l2 := rvs_len (K := K) (A := A) (B := B) (Q := Q) hy.1
  have := List.append_inj e2 (by omega)
  exact ⟨x + R.length, hy, this.1.symm, this.2.symm⟩
theorem rx_7 {k a b : Int} {q : Int32} (h : 0 ≤ k ∧ k ≤ 7) : ∃ c : Int × Int, rxF k a b q = [c] ∧ c.1 ≤ 6 ∧ ((k = 0 ∨ k = 1) → c.1 ≤ 1) := by
  have h : k = 0 ∨ k = 1 ∨ k = 2 ∨ k = 3 ∨ k = 4 ∨ k = 5 ∨ k = 6 ∨ k = 7 := by omega
  rcases h with h | h | h | h | h | h | h | h <;> subst h
  · exact ⟨(0, 0), rfl, by decide, fun _ => by decide⟩
  · exact ⟨(1, a), rfl, show (1 : Int) ≤ 6 by decide, fun _ => show (1 : Int) ≤ 1 by decide⟩
  · exact ⟨(2, a), rfl, show (2 : Int) ≤ 6 by decide, fun q => by omega⟩
  · exact ⟨(3, a), rfl, show (3 : Int) ≤ 6 by decide, fun q => by omega⟩
  · exact ⟨(4, 46), rfl, by decide, fun q => by omega⟩
  · exact ⟨(6, 44), rfl, by decide, fun q => by omega⟩
  · exact ⟨(5, 44), rfl, by decide, fun q => by omega⟩
  · exact ⟨(1, 37), rfl, by decide, fun q => by omega⟩
theorem cK_2z {k : Int} (hk : 7 ≤ k) : ∀ R : List (Int × Int × Int × Int32), rWA 2 R → cK k (fR R) = 0
  | [], _ => rfl
  | p :: R, h => by
    have hp := h.1
    unfold rIt at hp
    obtain ⟨c, ec, hc, _⟩ := rx_7 (k := p.1) (a := p.2.1) (b := p.2.2.1) (q := p.2.2.2) (by omega)
    show cK k (rxF p.1 p.2.1 p.2.2.1 p.2.2.2 ++ fR R) = 0
    rw [ec, cK_a, cK_2z hk R h.2]
    show (if c.1 = k then 1 else 0) + 0 + 0 = (0 : Int)
    rw [if_neg (by omega)]; rfl
theorem cK_1z {k : Int} (hk : 2 ≤ k) : ∀ R : List (Int × Int × Int × Int32), rWA 1 R → cK k (fR R) = 0
  | [], _ => rfl
  | p :: R, h => by
    have hp := h.1
    unfold rIt at hp
    have hp : p.1 = 0 ∨ p.1 = 1 := by omega
    obtain ⟨c, ec, _, hc⟩ := rx_7 (k := p.1) (a := p.2.1) (b := p.2.2.1) (q := p.2.2.2) (by omega)
    have hc := hc hp
    show cK k (rxF p.1 p.2.1 p.2.2.1 p.2.2.2 ++ fR R) = 0
    rw [ec, cK_a, cK_1z hk R h.2]
    show (if c.1 = k then 1 else 0) + 0 + 0 = (0 : Int)
    rw [if_neg (by omega)]; rfl
theorem cK_4z {k : Int} (hk : 10 ≤ k) : ∀ R : List (Int × Int × Int × Int32), rW4 R → cK k (fR R) = 0
  | [], _ => rfl
  | p :: R, h => by
    have hz : ∃ c : Int × Int, rxF p.1 p.2.1 p.2.2.1 p.2.2.2 = [c] ∧ c.1 ≤ 9 := by
      rcases h.1 with w | w
      · exact ⟨(9, p.2.1), by rw [w]; rfl, show (9 : Int) ≤ 9 by decide⟩
      · obtain ⟨c, ec, hc, _⟩ := rx_7 (k := p.1) (a := p.2.1) (b := p.2.2.1) (q := p.2.2.2) (by omega)
        exact ⟨c, ec, by omega⟩
    obtain ⟨c, ec, hc⟩ := hz
    show cK k (rxF p.1 p.2.1 p.2.2.1 p.2.2.2 ++ fR R) = 0
    rw [ec, cK_a, cK_4z hk R h.2]
    show (if c.1 = k then 1 else 0) + 0 + 0 = (0 : Int)
    rw [if_neg (by omega)]; rfl
theorem gvF_fl2 : ∀ (l : List (Int × Int)) (a : Int), gvF a (fl l) = gvF a l
  | [], _ => rfl
  | p :: l, a => by
    by_cases c : p.1 = 0
    · rw [fl_0 c]
      show _ = gvF (if p.1 = 12 then 10 * a + p.2 - 48 else a) l
      rw [if_neg (by omega)]; exact gvF_fl2 l a
    · rw [fl_1 c]
      exact gvF_fl2 l _
theorem rs_fR {K A B Q : Nat → Int32} {x e : Int} : rs K A B Q x e = fl (fR (rvs K A B Q x e)) := (rv_all _ _).1.symm
theorem ok_pw {K A B Q : Nat → Int32} {x e k : Int} (h : rOk k (rvs K A B Q x e)) (hk : k = 2 ∨ k = 3) (h0 : 0 ≤ x) (hx : x ≤ e) : pwo K B x e (cK 8 (rs K A B Q x e)) := by
  rcases h with ⟨w, h⟩ | ⟨w, R1, R2, a, b, q, er, h1, h2, h3⟩ | ⟨w, _⟩
  · have w : k = 2 := by omega
    subst w
    intro j p q z
    have hi := (rWA_s h0).2 h j p q
    unfold rIt at hi
    dsimp only at hi
    omega
  · have hc : cK 8 (rs K A B Q x e) = b := by
      rw [rs_fR, cK_fl (by decide), er, fR_a, cK_a, cK_2z (by decide) _ h1]
      show 0 + cK 8 (rxF 8 a b q ++ fR R2) = b
      rw [cK_a, cK_1z (by decide) _ h3]
      show 0 + ((0 + cK 8 (pkc 8 q b.toNat)) + 0) = b
      rw [pkc_1]; omega
    rw [hc]
    obtain ⟨y, hy, e1, e2⟩ := rvs_cut h0 hx er
    have ly : y < e := by
      rcases Int.lt_or_le y e with c | c
      · exact c
      · rw [rvs_x c] at e2; exact absurd e2.symm (List.cons_ne_nil _ _)
    rw [rvs_s (by omega) ly] at e2
    injection e2 with e2 e3
    injection e2 with k8 e2
    injection e2 with _ e2
    injection e2 with kb _
    rw [← e1] at h1
    rw [← e3] at h3
    have rest : ∀ j : Nat, y + 1 ≤ (j : Int) → (j : Int) < e → (K j).toInt = 0 ∨ (K j).toInt = 1 := fun j p q => by
      have hi := (rWA_s (by omega)).2 h3 j p q
      unfold rIt at hi
      dsimp only at hi
      omega
    intro j p q z
    rcases Int.lt_or_le (j : Int) y with c | c
    · have hi := (rWA_s h0).2 h1 j p c
      unfold rIt at hi
      dsimp only at hi
      omega
    · by_cases c2 : j = y.toNat
      · subst c2
        refine ⟨kb, by omega, by omega, fun i p2 q2 => ?_⟩
        have := rest i (by omega) q2
        omega
      · have := rest j (by omega) q
        omega
  · omega
theorem rW4_i {K A B Q : Nat → Int32} : ∀ (n i : Nat), rW4 (rv K A B Q i n) → ∀ j : Nat, i ≤ j → j < i + n → (K j).toInt = 9 ∨ (0 ≤ (K j).toInt ∧ (K j).toInt ≤ 6)
  | 0, _, _, j, p, q => by omega
  | n + 1, i, h, j, p, q => by
    by_cases c : j = i
    · subst c; exact h.1
    · exact rW4_i n (i + 1) h.2 j (by omega) (by omega)
theorem ok_st {K A B Q : Nat → Int32} {x e : Int} (h : rOk 4 (rvs K A B Q x e)) (h0 : 0 ≤ x) (hx : x ≤ e) : stF K A B Q x e (cK 11 (rs K A B Q x e)) (gvF 0 (rs K A B Q x e)) := by
  rcases h with ⟨w, _⟩ | ⟨w, _⟩ | ⟨_, R1, R2, d, b, q, er, h1, h2, h3⟩
  · omega
  · omega
  have hc : cK 11 (rs K A B Q x e) = cK 11 (pkc (if d = 1 then 12 else 11) q b.toNat) := by
    rw [rs_fR, cK_fl (by decide), er, fR_a, cK_a, cK_4z (by decide) _ h1]
    show 0 + cK 11 (rxF 10 d b q ++ fR R2) = _
    rw [cK_a, cK_1z (by decide) _ h3]
    show 0 + ((0 + cK 11 (pkc (if d = 1 then 12 else 11) q b.toNat)) + 0) = _
    omega
  have hg : gvF 0 (rs K A B Q x e) = gvF 0 (pkc (if d = 1 then 12 else 11) q b.toNat) := by
    rw [rs_fR, gvF_fl2, er, fR_a, gvF_app, gvF_0 _ _ (cK_4z (by decide) _ h1)]
    show gvF 0 (rxF 10 d b q ++ fR R2) = _
    rw [gvF_app, gvF_0 (fR R2) _ (cK_1z (by decide) _ h3)]
    rfl
  obtain ⟨y, hy, e1, e2⟩ := rvs_cut h0 hx er
  have ly : y < e := by
    rcases Int.lt_or_le y e with c | c
    · exact c
    · rw [rvs_x c] at e2; exact absurd e2.symm (List.cons_ne_nil _ _)
  rw [rvs_s (by omega) ly] at e2
  injection e2 with e2 e3
  injection e2 with k10 e2
  injection e2 with ka e2
  injection e2 with kb kq
  rw [← e1] at h1
  rw [← e3] at h3
  have rest : ∀ j : Nat, y + 1 ≤ (j : Int) → (j : Int) < e → (K j).toInt = 0 ∨ (K j).toInt = 1 := fun j p q => by
    have hi := (rWA_s (by omega)).2 h3 j p q
    unfold rIt at hi
    dsimp only at hi
    omega
  refine ⟨fun j p q2 => ?_, y.toNat, by omega, by omega, k10⟩
  rcases Int.lt_or_le (j : Int) y with c | c
  · unfold rvs at h1
    have hi := rW4_i _ _ h1 j (by omega) (by omega)
    exact ⟨by omega, fun z => by omega⟩
  · by_cases c2 : j = y.toNat
    · subst c2
      refine ⟨by omega, fun _ => ?_⟩
      rw [hc, hg, ka, kb, kq]
      rcases h2 with ⟨d1, g1, g2, g3⟩ | ⟨d0, b1, b3⟩
      · rw [if_pos d1]
        exact Or.inl ⟨d1, pkc_0 (by decide) _, rfl, g1, g2, g3⟩
      · rw [if_neg (by omega)]
        refine Or.inr ⟨by omega, ?_, gvF_0 _ _ (pkc_0 (by decide) _), ?_, ?_⟩
        · rw [pkc_1]; omega
        · rw [pkc_1]; omega
        · rw [pkc_1]; omega
    · have := rest j (by omega) q2
      exact ⟨by omega, fun z => by omega⟩
theorem secX_r {K A B Q : Nat → Int32} {x e k pc : Int} {L : List (Int × Int)} (h : secX K A B Q x e k L pc) (hx : 0 ≤ x ∧ x ≤ e ∧ e ≤ 64) : rscP k K A B Q x e := by
  have ho : ¬ k = 0 → rOk k (rvs K A B Q x e) := fun z => h.2.1.resolve_left z
  refine ⟨hx, fun z => ok_pw (ho (by omega)) z hx.1 hx.2.1, fun z => ?_, fun z => ?_⟩
  · subst z; exact ok_st (ho (by decide)) hx.1 hx.2.1
  · subst z
    obtain ⟨h1, h2⟩ := ok_dt (ho (by decide)) hx.1
    refine ⟨?_, h2⟩
    rw [← pm_z (K := K) (A := A) (B := B) (Q := Q) (B2 := fun _ => 0) (Q2 := fun _ => 0) (e := e) _ x 0 hx.1 rfl, rs_fR, pmA_fl]
    exact ok_pm _ 0 h1 (Int.le_refl _) (by decide)
