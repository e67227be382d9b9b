/-! the code of both sides: joined -/
theorem kRLn_16 {f : Nat → Int32} {e to kd : Int} (hk : kd = 1 ∨ kd = 6) : ∀ (n : Nat) (p la pt pa co pe : Int) (L : List (Int × Int)) (pc res : Int) (M : List (Int × Int)) (q : Int), kRLn f e to n p kd la pt pa co pe L pc res M q → res = -1 ∨ res = kd
  | 0, _, _, _, _, _, _, _, _, _, _, _, h => h.elim
  | n + 1, p, la, pt, pa, co, pe, L, pc, res, M, q, h => by
    rcases h with ⟨_, h, _⟩ | ⟨_, r, kd', la', pt', pa', co', pe', c, hi, _, ⟨_, h⟩ | ⟨h0, h⟩⟩
    · exact Or.inr h
    · exact Or.inl h
    · have ek : kd' = kd := by
        obtain ⟨c2, _, hi⟩ := hi
        rcases hi with ⟨_, _, h, _⟩ | ⟨_, hi⟩
        · exact h
        · rcases hi with ⟨w, _⟩ | ⟨w, _⟩ | ⟨w, _, h⟩ | ⟨w, _, h⟩ | ⟨w, _⟩
          · omega
          · omega
          · omega
          · omega
          · omega
      rw [ek] at h
      exact kRLn_16 hk n _ _ _ _ _ _ _ _ _ _ _ h
theorem kLs_3 {f : Nat → Int32} {e k pc : Int} {L : List (Int × Int)} (h : kLs f e 3 k L pc) : k = 1 ∨ k = 6 := by
  obtain ⟨n1, p, to, _, _, h⟩ := h
  rcases h with ⟨_, ⟨_, h⟩ | ⟨h, _⟩⟩ | ⟨_, K, kp, hK, ⟨_, _, h⟩ | ⟨hn, L0, ⟨n, hr⟩, _⟩⟩
  · exact absurd h n1
  · exact absurd rfl h
  · exact absurd h n1
  · have r := kK_rng hK
    have k1 : K = 1 ∨ K = 6 := by
      rcases r with r | r | r | r
      · exact Or.inl r
      · exact absurd ⟨rfl, Or.inl r⟩ hn
      · exact absurd ⟨rfl, Or.inr r⟩ hn
      · exact Or.inr r
    have := (kRLn_16 k1 n _ _ _ _ _ _ _ _ _ _ _ hr).resolve_left n1
    rw [this]; exact k1
/-- one section of both codes -/
def lwE (S K M : Nat → Int32) (n k x e : Int) (K2 A B Q : Nat → Int32) : Prop := (S 0).toInt = k ∧ (0 ≤ x ∧ x ≤ e ∧ e ≤ 64) ∧ (S 2).toInt ≤ n ∧ ∃ (L : List (Int × Int)) (pc : Int), secE S K M L pc ∧ itO (exC L) ∧ secX K2 A B Q x e k L pc
def lwQ (I2 S0 S1 S2 S3 K M s37 s38 s39 K2 A B Q : Nat → Int32) : Prop := (I2 4).toInt ≤ 64 ∧ ((I2 1).toInt = 4 → (S3 0).toInt = 1 ∨ (S3 0).toInt = 6) ∧ ∀ j : Nat, (j : Int) < (I2 1).toInt → lwE (sS4 j S0 S1 S2 S3) K M (I2 4).toInt (s37 j).toInt (s38 j).toInt (s39 j).toInt K2 A B Q
theorem lwQ_j {f I2 S0 S1 S2 S3 K M s37 s38 s39 K2 A B Q : Nat → Int32} {e n m : Int} (hI : rdI f e (I2 1).toInt (I2 4).toInt S0 S1 S2 S3 K M) (h4 : (I2 4).toInt ≤ 64) (hS : rdS f e n m 0 0 s37 s38 s39 K2 A B Q) (hn : n = (I2 1).toInt) (hm : m ≤ 64) (hy : ∀ p, 0 ≤ ych f e p ∧ ych f e p < 256) : lwQ I2 S0 S1 S2 S3 K M s37 s38 s39 K2 A B Q := by
  refine ⟨h4, fun h => ?_, fun j hj => ?_⟩
  · obtain ⟨L, pc, k, _⟩ := hI 3 (by rw [h]; decide)
    exact kLs_3 k
  · obtain ⟨L, pc, k1, hE, le⟩ := hI j hj
    obtain ⟨L2, pc2, a, b, k2, ⟨d1, d2⟩, ⟨b1, b2, b3⟩, hX⟩ := hS j (by omega)
    rw [Nat.zero_add] at k2 d1 d2 hX
    rw [Int.zero_add] at d1 d2
    rw [Int.zero_add, Int.zero_add] at hX
    obtain ⟨ek, eL, ep⟩ := kLs_det k1 k2
    subst eL; subst ep; subst d1; subst d2
    exact ⟨ek, ⟨b1, b2, by omega⟩, le, L, pc, hE, kLs_m hy k1, hX⟩
theorem lwQ_f {I2 S0 S1 S2 S3 K M s37 s38 s39 K2 A B Q t37 t38 t39 K3 A3 B3 Q3 : Nat → Int32} (h : lwQ I2 S0 S1 S2 S3 K M s37 s38 s39 K2 A B Q) (h4 : (I2 1).toInt ≤ 4) (e1 : yF s37 t37 5) (e2 : yF s38 t38 5) (e3 : yF s39 t39 5) (e4 : yF K2 K3 160) (e5 : yF A A3 160) (e6 : yF B B3 160) (e7 : yF Q Q3 160) : lwQ I2 S0 S1 S2 S3 K M t37 t38 t39 K3 A3 B3 Q3 := by
  obtain ⟨a, b, c⟩ := h
  refine ⟨a, b, fun j hj => ?_⟩
  obtain ⟨q1, q2, q3, L, pc, q4, q5, q6⟩ := c j hj
  rw [e1 j (by omega), e2 j (by omega), e3 j (by omega)]
  refine ⟨q1, q2, q3, L, pc, q4, q5, secX_g q6 (fun R hR => ?_)⟩
  rw [← hR]
  exact rvs_g q2.1 (fun i _ w => ⟨e4 i (by omega), e5 i (by omega), e6 i (by omega), e7 i (by omega)⟩)
theorem lwE_P {S K M K2 A B Q : Nat → Int32} {n k x e : Int} (h : lwE S K M n k x e K2 A B Q) (hn : n ≤ 64) : secP S K M n ∧ secR S K M k K2 A B Q x e ∧ rscP k K2 A B Q x e := by
  obtain ⟨q1, q2, q3, L, pc, q4, q5, q6⟩ := h
  have q7 := q6
  rw [← q1] at q7
  refine ⟨sec_P q4 q7 q5 ⟨q3, hn⟩ q2.1, ?_, secX_r q6 q2⟩
  rw [← q1]; exact sec_R q4 q7 q2.1
theorem lwQ_0 {I2 S0 S1 S2 S3 K M s37 s38 s39 K2 A B Q : Nat → Int32} (h1 : (I2 1).toInt = 1) (h4 : (I2 4).toInt = 0) (hS : ∀ k, (S0 k).toInt = 0) (e1 : (s37 0).toInt = 0) (e2 : (s38 0).toInt = 0) (e3 : (s39 0).toInt = 0) : lwQ I2 S0 S1 S2 S3 K M s37 s38 s39 K2 A B Q := by
  refine ⟨by omega, fun h => by omega, fun j hj => ?_⟩
  have : j = 0 := by omega
  subst this
  show lwE S0 K M _ _ _ _ _ _ _ _
  refine ⟨by rw [hS, e1], by omega, by rw [hS, h4]; decide, [], 0, ⟨?_, by rw [hS, hS]; decide, ?_, by decide⟩, ?_, ?_⟩
  · rw [hS, hS]; rfl
  · unfold sCt
    simp only [hS]
    decide
  · exact True.intro
  · rw [e1, e2, e3]
    exact ⟨rfl, Or.inl rfl, rfl⟩
