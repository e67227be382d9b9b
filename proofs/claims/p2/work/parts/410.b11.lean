theorem yS_self {f : Nat → Int32} {e to : Int} : ∀ (n : Nat) (p : Int), yT f e to n p → yS f e to to
  | 0, _, h => absurd h id
  | n + 1, p, h => by
    rcases h with ⟨h1, h2⟩ | ⟨h1, h2, h3⟩ | ⟨_, _, q, _, hT⟩
    · subst h2; exact yS_end h1
    · subst h3; exact yS_semi h1 h2
    · exact yS_self n q hT
theorem yS_to {f : Nat → Int32} {e to p : Int} (h : yS f e to p) : yS f e to to := by
  obtain ⟨n, hn⟩ := h; exact yS_self n p hn
def yK (sK sK' kd : Nat → Int32) (i : Nat) (a b : Int) : Prop := ∃ v : Int32, sK' = upd sK i v ∧ (v.toInt = 4 → ∃ q : Nat, a ≤ (q : Int) ∧ (q : Int) < b ∧ (kd q).toInt = 10)
theorem upd_upd {f : Nat → Int32} {i : Nat} {v w : Int32} : upd (upd f i v) i w = upd f i w := funext fun n => by
  by_cases e : n = i
  · subst e; rw [pk_us, pk_us]
  · rw [pk_un e, pk_un e, pk_un e]
/-- the state of a section that is being read -/
def yR (kd0 fi0 se0 sK0 kd fi se sK : Nat → Int32) (i : Nat) (a b pt : Int) : Prop := yG kd fi se a b pt ∧ yF kd0 kd a ∧ yF fi0 fi a ∧ yF se0 se a ∧ yK sK0 sK kd i a b
theorem yR_0 {kd fi se sK sK' : Nat → Int32} {i : Nat} {v : Int32} {a b pt : Int} (hb : b ≤ a) (hp : 0 ≤ pt) (e : sK' = upd sK i v) (hv : ¬ v.toInt = 4) : yR kd fi se sK kd fi se sK' i a b pt :=
  ⟨yG_nil hb hp, yF_refl, yF_refl, yF_refl, v, e, fun h => absurd h hv⟩
theorem yR_A {kd0 fi0 se0 sK0 kd fi se sK kd' fi' se' : Nat → Int32} {i : Nat} {a b b' c pt : Int} (h : yR kd0 fi0 se0 sK0 kd fi se sK i a b pt) (hA : yA kd fi se kd' fi' se' b b') (h0 : 0 ≤ a) (h1 : a ≤ b) (h2 : b ≤ b') (hc : c = b') : yR kd0 fi0 se0 sK0 kd' fi' se' sK i a c pt := by
  subst hc
  obtain ⟨g, k1, k2, k3, v, e, hv⟩ := h
  refine ⟨yG_A g hA h0 h1 h2, yF_trans k1 (yF_A hA h1).1, yF_trans k2 (yF_A hA h1).2.1, yF_trans k3 (yF_A hA h1).2.2, v, e, fun hq => ?_⟩
  obtain ⟨q, q1, q2, q3⟩ := hv hq
  exact ⟨q, q1, by omega, by rw [(hA.1 q q2).1]; exact q3⟩
theorem yR_H {kd0 fi0 se0 sK0 kd fi se sK kd' fi' se' sK' : Nat → Int32} {i : Nat} {x : Int32} {a b b' pt pt' : Int} (h : yR kd0 fi0 se0 sK0 kd fi se sK i a b pt) (hH : yH kd fi se kd' fi' se' a b b' pt pt') (h2 : b ≤ b') (h1 : a ≤ b) (hx : x.toInt = b) (h0 : 0 ≤ b) (hs : sK' = sK ∨ sK' = upd sK i 3 ∨ sK' = upd sK i 4 ∧ b' = b + 1 ∧ (kd' x.toNatClampNeg).toInt = 10) : yR kd0 fi0 se0 sK0 kd' fi' se' sK' i a b' pt' := by
  obtain ⟨g, k1, k2, k3, v, e, hv⟩ := h
  obtain ⟨h3, f1, f2, f3, hq⟩ := hH
  refine ⟨h3 g, yF_trans k1 f1, yF_trans k2 f2, yF_trans k3 f3, ?_⟩
  rcases hs with c | c | ⟨c, d, d2⟩
  · refine ⟨v, c.trans e, fun h4 => ?_⟩
    obtain ⟨q, q1, q2, q3⟩ := hv h4
    exact ⟨q, q1, by omega, hq q q1 q2 q3⟩
  · exact ⟨3, by rw [c, e, upd_upd], fun h4 => absurd h4 (by decide)⟩
  · refine ⟨4, by rw [c, e, upd_upd], fun _ => ⟨x.toNatClampNeg, ?_, ?_, d2⟩⟩
    · rw [← ztn]; omega
    · rw [← ztn]; omega
theorem yR_M {kd0 fi0 se0 sK0 kd fi se sK fi' : Nat → Int32} {i : Nat} {a b pt : Int} (h : yR kd0 fi0 se0 sK0 kd fi se sK i a b pt) (hM : yM fi fi' kd a) : yR kd0 fi0 se0 sK0 kd fi' se sK i a b pt := by
  obtain ⟨g, k1, k2, k3, k4⟩ := h
  exact ⟨yG_M g hM, k1, yF_trans k2 (yF_M hM), k3, k4⟩
theorem yR_c {kd0 fi0 se0 sK0 kd fi se sK : Nat → Int32} {i : Nat} {a b pt a' b' pt' : Int} (h : yR kd0 fi0 se0 sK0 kd fi se sK i a b pt) (ha : a' = a) (hb : b' = b) (hp : pt ≤ pt') : yR kd0 fi0 se0 sK0 kd fi se sK i a' b' pt' := by
  subst ha; subst hb
  exact ⟨⟨h.1.1, Int.le_trans h.1.2 hp⟩, h.2⟩
theorem yS_c {f : Nat → Int32} {e to p e' p' : Int} (he : e' = e) (hp : p' = p) (h : yS f e to p) : yS f e' to p' := by subst he; subst hp; exact h
theorem yS_y {f : Nat → Int32} {e to a b e' b' : Int} (hY : yP f a b) (hS : yS f e to a) (h1 : a ≤ b) (h2 : b ≤ e) (he : e' = e) (hb : b' = b) : yS f e' to b' := by subst he; subst hb; exact yS_pl h1 h2 hY hS
