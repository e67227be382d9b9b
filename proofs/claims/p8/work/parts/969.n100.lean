/-! marks of the items -/
theorem itO_a : ∀ A B : List (Int × Int), itO A → itO B → itO (A ++ B)
  | [], _, _, h => h
  | _ :: A, B, h, k => ⟨h.1, itO_a A B h.2 k⟩
theorem itO_nr : ∀ L : List (Int × Int), itO L → itO (nrL L)
  | [], h => h
  | p :: r, h => by
    refine ⟨?_, itO_nr r h.2⟩
    show 0 ≤ (if p.1 = 2 ∧ a2 r = true then (9, p.2) else p).2 ∧ (if p.1 = 2 ∧ a2 r = true then (9, p.2) else p).2 < 256
    split
    · exact h.1
    · exact h.1
theorem itO_mn : ∀ (L : List (Int × Int)) (g : Int), itO L → itO (mnG g L)
  | [], _, h => h
  | p :: r, g, h => by
    refine ⟨?_, itO_mn r _ h.2⟩
    show 0 ≤ (if p.1 = 21 ∧ p.2 ≤ 2 ∧ (g = 23 ∨ g = 26 ∨ nxK r = 25 ∨ nxK r = 28) then (24, p.2) else p).2 ∧ (if p.1 = 21 ∧ p.2 ≤ 2 ∧ (g = 23 ∨ g = 26 ∨ nxK r = 25 ∨ nxK r = 28) then (24, p.2) else p).2 < 256
    split
    · exact h.1
    · exact h.1
theorem itO_C : ∀ L : List (Int × Int), itO L → itO (exC L)
  | [], h => h
  | p :: r, h => by
    show itO (if p.1 = 15 then (0, 0) :: (1, p.2) :: exC r else p :: exC r)
    split
    · exact ⟨by decide, h.1, itO_C r h.2⟩
    · exact ⟨h.1, itO_C r h.2⟩
theorem itO_ch {k : Int} {f : Nat → Int32} {e : Int} (hy : ∀ p, 0 ≤ ych f e p ∧ ych f e p < 256) : ∀ (n : Nat) (p : Int), itO (chL k f e p n)
  | 0, _ => True.intro
  | n + 1, p => ⟨hy p, itO_ch hy n (p + 1)⟩
theorem kDa_m {f : Nat → Int32} {e p la r la' : Int} (h : kDa f e p la r la') (hr : 0 < r) : r ≤ 5 ∧ (ych f e p = 91 → 2 ≤ r) := by
  rcases h with ⟨w, n, _, hn, _⟩ | ⟨w, n, _, hn, _⟩ | ⟨w, hn, _⟩ | ⟨w, hn, _⟩ | ⟨w, hn, _⟩ | ⟨_, hn⟩
  · refine ⟨by omega, fun z => ?_⟩
    rw [z] at w
    exact absurd w (by unfold kRw; decide)
  · omega
  · refine ⟨by omega, fun z => ?_⟩
    rw [z] at w
    exact absurd w (by decide)
  · rcases hn with ⟨_, _, n, _, hn⟩ | ⟨_, hn⟩
    · omega
    · omega
  · omega
  · omega
theorem itO_it {f : Nat → Int32} {e p kd la pt pa co pe r kd' la' pt' pa' co' pe' c : Int} (hy : ∀ p, 0 ≤ ych f e p ∧ ych f e p < 256) (hi : kIt f e p kd la pt pa co pe r kd' la' pt' pa' co' pe') (hc : kCl f e p c) (hr : 0 < r) : itO (itL f e p kd la pt r c) := by
  have y0 := hy p
  have ys : 0 ≤ ysm (ych f e p) ∧ ysm (ych f e p) < 256 := by unfold ysm; split <;> omega
  unfold itL
  split
  · unfold cmL
    split
    · generalize (c - 2).toNat = m
      cases m with
      | zero => exact ⟨by decide, True.intro⟩
      | succ m => exact ⟨hy _, itO_ch hy _ _⟩
    split
    · exact ⟨hy _, True.intro⟩
    split
    · exact ⟨by decide, True.intro⟩
    split
    · exact ⟨by decide, True.intro⟩
    · exact ⟨hy _, True.intro⟩
  rename_i nc
  split
  · unfold nuL
    split
    · exact ⟨ys, True.intro⟩
    split
    · exact ⟨by decide, True.intro⟩
    split
    · split
      · exact ⟨by decide, True.intro⟩
      · exact ⟨by decide, True.intro⟩
    split
    · exact ⟨by decide, True.intro⟩
    split
    · exact ⟨hy _, itO_ch hy _ _⟩
    · exact ⟨by decide, itO_ch hy _ _⟩
  split
  · rename_i k2 k5
    have hD : r ≤ 5 ∧ (ych f e p = 91 → 2 ≤ r) := by
      obtain ⟨c2, hc2, h⟩ := hi
      have ec := kCl_det hc hc2
      subst ec
      rcases h with ⟨z, _⟩ | ⟨_, ⟨z, _⟩ | ⟨_, z, _⟩ | ⟨z, _⟩ | ⟨z, _⟩ | ⟨z, _⟩⟩
      · exact absurd z nc
      · omega
      · exact kDa_m z hr
      · omega
      · omega
      · omega
    unfold daL
    split
    · exact ⟨⟨by show 0 ≤ r; omega, by show r < 256; omega⟩, True.intro⟩
    split
    · rename_i z
      have := hD.2 z
      exact ⟨⟨by show 0 ≤ r - 2; omega, by show r - 2 < 256; omega⟩, True.intro⟩
    split
    · refine ⟨?_, True.intro⟩
      show 0 ≤ (if r = 5 then (2 : Int) else 1) ∧ (if r = 5 then (2 : Int) else 1) < 256
      split <;> decide
    split
    · exact ⟨⟨by show 0 ≤ r - 1; omega, by show r - 1 < 256; omega⟩, True.intro⟩
    · exact ⟨hy _, True.intro⟩
  split
  · exact ⟨by decide, True.intro⟩
  · exact ⟨hy _, True.intro⟩
theorem kRLn_m {f : Nat → Int32} {e to : Int} (hy : ∀ p, 0 ≤ ych f e p ∧ ych f e p < 256) : ∀ (n : Nat) (p kd la pt pa co pe : Int) (L : List (Int × Int)) (pc res : Int) (M : List (Int × Int)) (q : Int), itO L → ¬ res = -1 → kRLn f e to n p kd la pt pa co pe L pc res M q → itO M
  | 0, _, _, _, _, _, _, _, _, _, _, _, _, _, _, h => h.elim
  | n + 1, p, kd, la, pt, pa, co, pe, L, pc, res, M, q, hL, hres, h => by
    rcases h with ⟨_, _, h2, _⟩ | ⟨_, r, kd1, la1, pt1, pa1, co1, pe1, c1, hi, hc, h⟩
    · rw [h2]; exact hL
    · rcases h with ⟨_, h⟩ | ⟨h0, h⟩
      · exact absurd h hres
      · refine kRLn_m hy n _ _ _ _ _ _ _ _ _ _ _ _ ?_ hres h
        unfold stL
        refine itO_a _ _ ?_ (itO_it hy hi hc h0)
        split
        · exact itO_nr L hL
        · exact hL
theorem kLs_m {f : Nat → Int32} {e : Int} {j : Nat} {k pc : Int} {L : List (Int × Int)} (hy : ∀ p, 0 ≤ ych f e p ∧ ych f e p < 256) (h : kLs f e j k L pc) : itO (exC L) := by
  obtain ⟨n1, p, to, _, _, h⟩ := h
  refine itO_C L ?_
  rcases h with ⟨_, h⟩ | ⟨_, K, kp, _, h⟩
  · rcases h with ⟨_, h⟩ | ⟨_, _, h, _⟩
    · exact absurd h n1
    · rw [h]; exact True.intro
  · rcases h with ⟨_, _, h⟩ | ⟨_, L0, ⟨m, hR⟩, hl⟩
    · exact absurd h n1
    · have h0 := kRLn_m hy m _ _ _ _ _ _ _ [] _ _ _ _ (show itO [] from True.intro) n1 hR
      rw [hl]
      split
      · exact itO_mn L0 0 h0
      · exact h0
