theorem sec_P {S K M K2 A B Q : Nat → Int32} {x e pc n : Int} {L : List (Int × Int)} (hE : secE S K M L pc) (hX : secX K2 A B Q x e (S 0).toInt L pc) (hit : itO (exC L)) (hn : (S 2).toInt ≤ n ∧ n ≤ 64) (h0 : 0 ≤ x) : secP S K M n := by
  obtain ⟨a, b, c, d⟩ := hE
  have ho : ¬ (S 0).toInt = 0 → rOk (S 0).toInt (rvs K2 A B Q x e) := fun z => hX.2.1.resolve_left z
  have l1 := exC_len L
  have l2 := csL (K := K) (M := M) b.2.1
  rw [a] at l2
  have l6 := cK_le (k := 6) L
  have g6 := cK_0 (k := 6) L
  have bd : 0 ≤ (S 1).toInt ∧ (S 1).toInt ≤ (S 2).toInt ∧ (S 2).toInt ≤ n ∧ n ≤ 64 := ⟨b.1, b.2.1, hn.1, hn.2⟩
  have ws : wsO S K M n := ⟨bd, by rw [a]; exact hit⟩
  refine ⟨?_, fun z => ⟨⟨bd, by rw [a]; exact hit, ?_, ?_, ?_⟩, ?_, ?_, ?_, ?_⟩, fun z => ?_, fun z => ⟨ws, ?_⟩, fun _ => ws⟩
  · rcases hX.2.1 with w | ⟨w, _⟩ | ⟨w, _⟩ | ⟨w, _⟩ <;> omega
  · rw [a, cK_exC (by decide) (by decide) (by decide)]; exact c.1.1.symm
  · rw [a, cK_exC (by decide) (by decide) (by decide)]; exact c.1.2.1.symm
  · rw [a, cK_exC (by decide) (by decide) (by decide)]; exact c.2.1.1.symm
  · have := c.1.2.2.1; omega
  · have := c.1.2.2.1; omega
  · have := c.1.2.2.2; omega
  · have := c.1.2.2.2; omega
  · have hX4 := hX
    rw [z] at hX4
    obtain ⟨s1, _, s3, s4⟩ := sec4 hX4
    have e11 := c.2.1.2.2
    have e12 := c.2.2.1
    refine ⟨⟨⟨bd.1, bd.2.1, bd.2.2.1, bd.2.2.2, by omega, by omega⟩, by rw [a]; exact hit, ?_, ?_, ?_⟩, by omega, by omega⟩
    · rw [a, cK_exC (by decide) (by decide) (by decide)]; exact c.1.1.symm
    · rw [a, cK_exC (by decide) (by decide) (by decide)]; exact c.2.1.2.1.symm
    · rw [a, e11]; exact s3
  · have h := ho (by omega)
    rw [z] at h
    obtain ⟨hW, _⟩ := ok_dt h h0
    have hp := ok_pm _ 0 hW (Int.le_refl _) (by decide)
    have e1 : pmA 0 (fR (rvs K2 A B Q x e)) = pmA 0 L := by
      rw [← pmA_fl (fR (rvs K2 A B Q x e)), ← rs_fR, ← (secX_c hX).1, pmA_fl, pm_xC]
    rw [e1] at hp
    have := c.2.2.2.1
    omega
