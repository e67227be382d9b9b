theorem sec_R {S K M K2 A B Q : Nat → Int32} {x e pc : Int} {L : List (Int × Int)} (hE : secE S K M L pc) (hX : secX K2 A B Q x e (S 0).toInt L pc) (h0 : 0 ≤ x) : secR S K M (S 0).toInt K2 A B Q x e := by
  obtain ⟨a, b, c, d⟩ := hE
  obtain ⟨r1, r2, r3, r4⟩ := secX_c hX
  have ho : ¬ (S 0).toInt = 0 → rOk (S 0).toInt (rvs K2 A B Q x e) := fun z => hX.2.1.resolve_left z
  unfold secR
  rw [a]
  refine ⟨⟨rfl, h0⟩, Or.inr r1, fun z => ?_, fun z => ⟨?_, ?_, ?_⟩, fun z => ⟨?_, ?_, ?_⟩, fun z => ⟨?_, ?_, ?_⟩, fun z => ok_wk (ho (by omega)) z h0⟩
  · have hW : rWA 2 (rvs K2 A B Q x e) := by
      have h := ho (by omega)
      rw [z] at h
      rcases h with ⟨_, h⟩ | ⟨q, _⟩ | ⟨q, _⟩
      · exact h
      · omega
      · omega
    rw [cK_exC (by decide) (by decide) (by decide), cK_exC (by decide) (by decide) (by decide)]
    have z7 := cK_2z (k := 7) (by decide) _ hW
    have z8 := cK_2z (k := 8) (by decide) _ hW
    rw [hX.1, cK_xR (by decide) (by decide)] at z7 z8
    exact ⟨z7, z8⟩
  · rw [cK_exC (by decide) (by decide) (by decide)]; exact c.2.2.2.2.1
  · rw [r2]; exact c.1.2.2.2
  · rw [r3]; exact c.1.2.2.1
  · rw [← r1, gvF_fl2, gv_xC]; exact c.2.2.1
  · rw [← r1, cK_fl (by decide), cK_exC (by decide) (by decide) (by decide)]; exact c.2.1.2.2
  · rw [z] at hX
    rw [c.2.1.2.2]; exact (sec4 hX).2.1
  · rw [pm_xC]; exact c.2.2.2.1
  · rw [r4]; exact c.2.2.2.2.2
  · have h := ho (by omega)
    rw [z] at h
    exact (ok_dt h h0).2
