/-! what the class shows of a value by a section; which section, which sign -/
def secP (I K M : Nat → Int32) (n : Int) : Prop := (0 ≤ (I 0).toInt ∧ (I 0).toInt ≤ 6) ∧ (((I 0).toInt = 2 ∨ (I 0).toInt = 3) → nsO I K M n ∧ 0 ≤ (I 7).toInt ∧ (I 7).toInt ≤ 64 ∧ 0 ≤ (I 8).toInt ∧ (I 8).toInt ≤ 64) ∧ ((I 0).toInt = 4 → fsO I K M n ∧ 0 ≤ (I 12).toInt ∧ (I 12).toInt ≤ 999) ∧ ((I 0).toInt = 5 → wsO I K M n ∧ 0 ≤ (I 13).toInt ∧ (I 13).toInt ≤ 3) ∧ (((I 0).toInt = 1 ∨ (I 0).toInt = 6) → wsO I K M n)
def cNum (I K M : Nat → Int32) (v s b : Int) (T : List Int) : Prop := ∃ (I0 I4 : Nat → Int32) (J4 : Nat → Int64) (G0 G3 : Nat → Int32) (H3 : Nat → Int64) (G4 : Nat → Int32) (H4 : Nat → Int64), nTk (I 0).toInt v s (I 3).toInt (I 4).toInt (2 * (I 8).toInt - 3 * (I 7).toInt) I0 I4 J4 G0 G3 H3 G4 H4 ∧ T = sgn b (dgN G3 H3) ++ nrun (nEv (dgD G3 H3) (dgW G3) (G3 3).toInt (I 3).toInt (I 6).toInt (G0 2).toInt (dgD G4 H4) (dgW G4) (I 9).toInt) (I 3).toInt 0 (I 9).toInt (cs K M (I 1).toInt (I 2).toInt)
def cFra (I K M : Nat → Int32) (v s b : Int) (T : List Int) : Prop := ∃ (I3 : Nat → Int32) (J3 : Nat → Int64) (I7 : Nat → Int32) (J7 : Nat → Int64), fdP v s (I 3).toInt (I 10).toInt (I 12).toInt (I 11).toInt b (cs K M (I 1).toInt (I 2).toInt) I3 J3 I7 J7 T
def cSec (I K M : Nat → Int32) (v s b : Int) (TX T : List Int) : Prop := ((I 0).toInt = 0 ∧ gnP b v s T) ∨ (((I 0).toInt = 2 ∨ (I 0).toInt = 3) ∧ cNum I K M v s b T) ∨ ((I 0).toInt = 4 ∧ cFra I K M v s b T) ∨ ((I 0).toInt = 5 ∧ ddP v s (I 13).toInt (I 14).toInt b (cs K M (I 1).toInt (I 2).toInt) T) ∨ (((I 0).toInt = 1 ∨ (I 0).toInt = 6) ∧ T = wrun TX (cs K M (I 1).toInt (I 2).toInt))
def bR (ng n k0 k1 k2 b : Int) : Prop := ∃ m : Int, ((kTt n k0 k1 k2 ∧ m = n - 1) ∨ (¬ kTt n k0 k1 k2 ∧ m = n)) ∧ ((¬ ng = 0 ∧ m < 2 ∧ b = 1) ∨ ((ng = 0 ∨ 2 ≤ m) ∧ b = 0))
def dsP (C V : Nat → Int32) (W : Nat → Int64) (S0 S1 S2 S3 wd K M : Nat → Int32) (T : List Int) : Prop :=
  ∃ sx b : Int, kTr (C 1).toInt (S0 0).toInt (S1 0).toInt (S2 0).toInt (V 0).toInt (V 1).toInt (W 2).toInt sx ∧ bR (V 1).toInt (C 1).toInt (S0 0).toInt (S1 0).toInt (S2 0).toInt b ∧
   ((sx = -1 ∧ ((¬ (V 0).toInt = 0 ∧ T = txs wd 0 (V 5).toInt) ∨ ((V 0).toInt = 0 ∧ gnP b (W 2).toInt (V 3).toInt T)))
    ∨ (sx = 0 ∧ cSec S0 K M (W 2).toInt (V 3).toInt b (txs wd 0 (V 5).toInt) T) ∨ (sx = 1 ∧ cSec S1 K M (W 2).toInt (V 3).toInt b (txs wd 0 (V 5).toInt) T) ∨ (sx = 2 ∧ cSec S2 K M (W 2).toInt (V 3).toInt b (txs wd 0 (V 5).toInt) T) ∨ (sx = 3 ∧ cSec S3 K M (W 2).toInt (V 3).toInt b (txs wd 0 (V 5).toInt) T))
theorem kTr_lt {n k0 k1 k2 it ng z r : Int} (h : kTr n k0 k1 k2 it ng z r) (h1 : 1 ≤ n) : r < n := by
  rcases h with ⟨_, ⟨_, h⟩ | ⟨_, h⟩⟩ | ⟨_, m, hm, h⟩
  · omega
  · omega
  · rcases hm with ⟨_, hm⟩ | ⟨_, hm⟩ <;> omega
theorem kTr_b2 {n k0 k1 k2 it ng z r : Int} (h : kTr n k0 k1 k2 it ng z r) (h1 : 1 ≤ n) (h4 : n ≤ 4) : -1 ≤ r ∧ r ≤ 3 := by
  rcases h with ⟨_, ⟨_, h⟩ | ⟨_, h⟩⟩ | ⟨_, m, _, h⟩
  · omega
  · omega
  · omega
theorem lkC_0 {c : Nat} {f : Nat → Int32} {n : Int} (h : n = 0) : lkC c f n [] := by
  subst h
  exact ⟨Or.inl ⟨rfl, by decide⟩, by omega, fun i hi => absurd hi (Nat.not_lt_zero _)⟩
theorem pC_L {c d : Nat} {f g : Nat → Int32} {n m : Int} {X : List Int} (h : pC c f n d g m X) (hn : n = 0) : lkC d g m X := h [] (lkC_0 hn)
theorem bR_0 {ng n k0 k1 k2 : Int} (h : ng = 0) : bR ng n k0 k1 k2 (0 : Int32).toInt := by
  by_cases t : kTt n k0 k1 k2
  · exact ⟨n - 1, Or.inl ⟨t, rfl⟩, Or.inr ⟨Or.inl h, by decide⟩⟩
  · exact ⟨n, Or.inr ⟨t, rfl⟩, Or.inr ⟨Or.inl h, by decide⟩⟩
theorem bR_1 {ng n k0 k1 k2 m : Int} (h : ((n = 4 ∨ (n = 1 ∧ k0 = 6) ∨ (n = 2 ∧ k1 = 6) ∨ (n = 3 ∧ k2 = 6)) ∧ m = n - 1) ∨ (¬ (n = 4 ∨ (n = 1 ∧ k0 = 6) ∨ (n = 2 ∧ k1 = 6) ∨ (n = 3 ∧ k2 = 6)) ∧ m = n)) (h2 : (2 : Int32).toInt ≤ m) : bR ng n k0 k1 k2 (0 : Int32).toInt := ⟨m, h, Or.inr ⟨Or.inr h2, by decide⟩⟩
theorem bR_2 {ng n k0 k1 k2 m : Int} (hg : ¬ ng = 0) (h : ((n = 4 ∨ (n = 1 ∧ k0 = 6) ∨ (n = 2 ∧ k1 = 6) ∨ (n = 3 ∧ k2 = 6)) ∧ m = n - 1) ∨ (¬ (n = 4 ∨ (n = 1 ∧ k0 = 6) ∨ (n = 2 ∧ k1 = 6) ∨ (n = 3 ∧ k2 = 6)) ∧ m = n)) (h2 : ¬ (2 : Int32).toInt ≤ m) : bR ng n k0 k1 k2 (1 : Int32).toInt := ⟨m, h, Or.inl ⟨hg, Int.lt_of_not_ge h2, by decide⟩⟩
