/-! what kinds may stand where -/
theorem ok_wk {K A B Q : Nat → Int32} {x e k : Int} (h : rOk k (rvs K A B Q x e)) (hk : k = 1 ∨ k = 6) (h0 : 0 ≤ x) : wk K x e := by
  have hW : rWA k (rvs K A B Q x e) := by
    rcases h with ⟨_, h⟩ | ⟨q, _⟩ | ⟨q, _⟩
    · exact h
    · omega
    · omega
  intro j p q
  have hi := (rWA_s h0).2 hW j p q
  unfold rIt at hi
  dsimp only at hi
  omega
theorem ok_dt {K A B Q : Nat → Int32} {x e : Int} (h : rOk 5 (rvs K A B Q x e)) (h0 : 0 ≤ x) : rWA 5 (rvs K A B Q x e) ∧ dtK K A B x e := by
  have hW : rWA 5 (rvs K A B Q x e) := by
    rcases h with ⟨_, h⟩ | ⟨q, _⟩ | ⟨q, _⟩
    · exact h
    · omega
    · omega
  refine ⟨hW, fun j p q => ?_⟩
  have hi := (rWA_s h0).2 hW j p q
  unfold rIt at hi
  dsimp only at hi
  rcases hi with w | w | w | ⟨_, w⟩ | w
  · exact ⟨by omega, fun z => by omega, fun z => by omega, fun z => by omega⟩
  · exact ⟨by omega, fun z => by omega, fun z => by omega, fun z => by omega⟩
  · omega
  · rcases w with ⟨w, w2, _⟩ | ⟨w, w2, w3, _⟩ | w | w | ⟨w, w2, w3⟩
    · exact ⟨by omega, fun _ => w2, fun z => by omega, fun z => by omega⟩
    · exact ⟨by omega, fun z => by omega, fun _ => ⟨w2, w3⟩, fun z => by omega⟩
    · exact ⟨by omega, fun z => by omega, fun z => by omega, fun z => by omega⟩
    · exact ⟨by omega, fun z => by omega, fun z => by omega, fun z => by omega⟩
    · exact ⟨by omega, fun z => by omega, fun z => by omega, fun _ => ⟨w2, w3⟩⟩
  · omega
theorem ok_pm : ∀ (R : List (Int × Int × Int × Int32)) (a : Int), rWA 5 R → 0 ≤ a → a ≤ 3 → 0 ≤ pmA a (fR R) ∧ pmA a (fR R) ≤ 3
  | [], _, _, h0, h3 => ⟨h0, h3⟩
  | (k, a1, b, q) :: R, a, h, h0, h3 => by
    have hi := h.1
    obtain ⟨c, ec, _⟩ := rx5 hi
    have hs : (¬ c.1 = 29) ∨ (c.1 = 29 ∧ 1 ≤ c.2 ∧ c.2 ≤ 3) := by
      by_cases z : k = 15
      · subst z
        have e2 : [(29, a1)] = [c] := ec
        injection e2 with e2 _
        unfold rIt at hi
        dsimp only at hi
        refine Or.inr ?_
        rw [← e2]
        exact ⟨rfl, by show 1 ≤ a1; omega, by show a1 ≤ 3; omega⟩
      · refine Or.inl (fun w => ?_)
        unfold rIt at hi
        dsimp only at hi
        have hk : k = 0 ∨ k = 1 ∨ k = 11 ∨ k = 12 ∨ k = 13 ∨ k = 14 := by omega
        rcases hk with y | y | y | y | y | y <;> subst y
        · have e2 : [((0 : Int), (0 : Int))] = [c] := ec
          injection e2 with e2 _
          rw [← e2] at w; exact absurd w (by decide)
        · have e2 : [((1 : Int), a1)] = [c] := ec
          injection e2 with e2 _
          rw [← e2] at w; exact absurd w (show ¬ (1 : Int) = 29 by decide)
        · have e2 : [(rkR a1, b)] = [c] := ec
          injection e2 with e2 _
          have e : rkR a1 ≤ 25 := by unfold rkR; (repeat' split) <;> omega
          rw [← e2] at w
          have w : rkR a1 = 29 := w
          omega
        · have e2 : [(rkA a1, b)] = [c] := ec
          injection e2 with e2 _
          have e : rkA a1 ≤ 28 := by unfold rkA; (repeat' split) <;> omega
          rw [← e2] at w
          have w : rkA a1 = 29 := w
          omega
        · have e2 : [((30 : Int), (2 : Int))] = [c] := ec
          injection e2 with e2 _
          rw [← e2] at w; exact absurd w (by decide)
        · have e2 : [((30 : Int), (1 : Int))] = [c] := ec
          injection e2 with e2 _
          rw [← e2] at w; exact absurd w (by decide)
    show 0 ≤ pmA a (rxF k a1 b q ++ fR R) ∧ pmA a (rxF k a1 b q ++ fR R) ≤ 3
    rw [ec]
    show 0 ≤ pmA (if c.1 = 29 ∧ a < c.2 then c.2 else a) (fR R) ∧ pmA (if c.1 = 29 ∧ a < c.2 then c.2 else a) (fR R) ≤ 3
    refine ok_pm R _ h.2 ?_ ?_
    · split <;> omega
    · split <;> omega
