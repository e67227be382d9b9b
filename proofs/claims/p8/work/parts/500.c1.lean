/-! deterministic runs: qG (nothing grows), qN (a row grows: n its length now, NF in the end) -/
def qG {κ : Type} (A : (κ → Prop) → Prop) (V : κ → Prop) : Prop := ∃ e : κ → Prop, A e ∧ ∀ Z, e Z → V Z
def qA1 {υ : Type} (P : υ → Prop) (e : (υ → Prop) → Prop) : Prop := ∃ u, P u ∧ e = fun Z => Z u
def qA2 {ρ υ : Type} (P : ρ → υ → Prop) (e : (ρ → υ → Prop) → Prop) : Prop := ∃ r u, P r u ∧ e = fun Z => Z r u
def qA3 {ρ τ υ : Type} (P : ρ → τ → υ → Prop) (e : (ρ → τ → υ → Prop) → Prop) : Prop := ∃ r t u, P r t u ∧ e = fun Z => Z r t u
section
variable {κ : Type} {A : (κ → Prop) → Prop} {X Y : κ → Prop}
theorem qG_ret1 {υ : Type} {P : υ → Prop} {u : υ} (h : P u) : qG (qA1 P) (fun Z => Z u) := ⟨_, ⟨u, h, rfl⟩, fun _ h => h⟩
theorem qG_ret2 {ρ υ : Type} {P : ρ → υ → Prop} {r : ρ} {u : υ} (h : P r u) : qG (qA2 P) (fun Z => Z r u) := ⟨_, ⟨r, u, h, rfl⟩, fun _ h => h⟩
theorem qG_ret3 {ρ τ υ : Type} {P : ρ → τ → υ → Prop} {r : ρ} {t : τ} {u : υ} (h : P r t u) : qG (qA3 P) (fun Z => Z r t u) := ⟨_, ⟨r, t, u, h, rfl⟩, fun _ h => h⟩
theorem qG_ite {c : Prop} (h1 : c → qG A X) (h2 : ¬ c → qG A Y) : qG A (fun Z => (c → X Z) ∧ (¬ c → Y Z)) := by
  by_cases hc : c
  · obtain ⟨e, he, hv⟩ := h1 hc; exact ⟨e, he, fun Z hz => ⟨fun _ => hv Z hz, fun n => absurd hc n⟩⟩
  · obtain ⟨e, he, hv⟩ := h2 hc; exact ⟨e, he, fun Z hz => ⟨fun n => absurd n hc, fun _ => hv Z hz⟩⟩
theorem qG_ite' {c : Prop} (h1 : ¬ c → qG A X) (h2 : c → qG A Y) : qG A (fun Z => (¬ c → X Z) ∧ (c → Y Z)) := by
  by_cases hc : c
  · obtain ⟨e, he, hv⟩ := h2 hc; exact ⟨e, he, fun Z hz => ⟨fun n => absurd hc n, fun _ => hv Z hz⟩⟩
  · obtain ⟨e, he, hv⟩ := h1 hc; exact ⟨e, he, fun Z hz => ⟨fun _ => hv Z hz, fun n => absurd n hc⟩⟩
theorem qG_and {Q : Prop} (h : Q) (h2 : qG A X) : qG A (fun Z => Q ∧ X Z) := by
  obtain ⟨e, he, hv⟩ := h2; exact ⟨e, he, fun Z hz => ⟨h, hv Z hz⟩⟩
theorem qG_ex {X : κ → Nat → Prop} (N : Nat) (h : qG A (fun Z => X Z N)) : qG A (fun Z => ∃ N, X Z N) := by
  obtain ⟨e, he, hv⟩ := h; exact ⟨e, he, fun Z hz => ⟨N, hv Z hz⟩⟩
theorem qG_all {α : Type} {t : α} {X : α → κ → Prop} (h : qG A (X t)) : qG A (fun Z => ∀ y, y = t → X y Z) := by
  obtain ⟨e, he, hv⟩ := h; exact ⟨e, he, fun Z hz y hy => by subst hy; exact hv Z hz⟩
theorem qG_opt {o : Option Nat} {Y : Nat → κ → Prop} (h1 : o = none → qG A X) (h2 : ∀ j, o = some j → qG A (Y j)) : qG A (fun Z => (o = none → X Z) ∧ (∀ j : Nat, o = some j → Y j Z)) := by
  cases o with
  | none => obtain ⟨e, he, hv⟩ := h1 rfl; exact ⟨e, he, fun Z hz => ⟨fun _ => hv Z hz, fun j hj => (by cases hj)⟩⟩
  | some j => obtain ⟨e, he, hv⟩ := h2 j rfl; exact ⟨e, he, fun Z hz => ⟨fun hj => (by cases hj), fun i hi => (by cases hi; exact hv Z hz)⟩⟩
theorem qG_no (h : False) : qG A (fun _ => False) := h.elim
theorem qG_4 {s : Nat} {X0 X1 X2 X3 : κ → Prop} (h : s < 4) (h0 : s = 0 → qG A X0) (h1 : s = 1 → qG A X1) (h2 : s = 2 → qG A X2) (h3 : s = 3 → qG A X3) :
    qG A (fun Z => s < 4 ∧ (s = 0 → X0 Z) ∧ (s = 1 → X1 Z) ∧ (s = 2 → X2 Z) ∧ (s = 3 → X3 Z)) := by
  rcases (show s = 0 ∨ s = 1 ∨ s = 2 ∨ s = 3 by omega) with e | e | e | e
  · obtain ⟨x, he, hv⟩ := h0 e; exact ⟨x, he, fun Z hz => ⟨h, fun _ => hv Z hz, fun n => by omega, fun n => by omega, fun n => by omega⟩⟩
  · obtain ⟨x, he, hv⟩ := h1 e; exact ⟨x, he, fun Z hz => ⟨h, fun n => by omega, fun _ => hv Z hz, fun n => by omega, fun n => by omega⟩⟩
  · obtain ⟨x, he, hv⟩ := h2 e; exact ⟨x, he, fun Z hz => ⟨h, fun n => by omega, fun n => by omega, fun _ => hv Z hz, fun n => by omega⟩⟩
  · obtain ⟨x, he, hv⟩ := h3 e; exact ⟨x, he, fun Z hz => ⟨h, fun n => by omega, fun n => by omega, fun n => by omega, fun _ => hv Z hz⟩⟩
theorem qG_c1 {υ : Type} {Q : υ → Prop} {C : (υ → Prop) → Prop} {R : υ → κ → Prop} (h : qG (qA1 Q) C) (h2 : ∀ u, Q u → qG A (R u)) : qG A (fun Z => C (fun u => R u Z)) := by
  obtain ⟨e, ⟨u, hq, rfl⟩, hv⟩ := h; obtain ⟨e2, he, hw⟩ := h2 u hq
  exact ⟨e2, he, fun Z hz => hv (fun u => R u Z) (hw Z hz)⟩
theorem qG_c2 {ρ υ : Type} {Q : ρ → υ → Prop} {C : (ρ → υ → Prop) → Prop} {R : ρ → υ → κ → Prop} (h : qG (qA2 Q) C) (h2 : ∀ r u, Q r u → qG A (R r u)) : qG A (fun Z => C (fun r u => R r u Z)) := by
  obtain ⟨e, ⟨r, u, hq, rfl⟩, hv⟩ := h; obtain ⟨e2, he, hw⟩ := h2 r u hq
  exact ⟨e2, he, fun Z hz => hv (fun r u => R r u Z) (hw Z hz)⟩
theorem qG_w1 {υ : Type} {Q : υ → Prop} {C : (υ → Prop) → Prop} (h : qG (qA1 Q) C) {Z : υ → Prop} (h2 : ∀ u, Q u → Z u) : C Z := by
  obtain ⟨e, ⟨u, hq, rfl⟩, hv⟩ := h; exact hv Z (h2 u hq)
theorem qG_w2 {ρ υ : Type} {Q : ρ → υ → Prop} {C : (ρ → υ → Prop) → Prop} (h : qG (qA2 Q) C) {Z : ρ → υ → Prop} (h2 : ∀ r u, Q r u → Z r u) : C Z := by
  obtain ⟨e, ⟨r, u, hq, rfl⟩, hv⟩ := h; exact hv Z (h2 r u hq)
theorem qG_w3 {ρ τ υ : Type} {Q : ρ → τ → υ → Prop} {C : (ρ → τ → υ → Prop) → Prop} (h : qG (qA3 Q) C) {Z : ρ → τ → υ → Prop} (h2 : ∀ r t u, Q r t u → Z r t u) : C Z := by
  obtain ⟨e, ⟨r, t, u, hq, rfl⟩, hv⟩ := h; exact hv Z (h2 r t u hq)
theorem qG_mono {A' : (κ → Prop) → Prop} (h : qG A X) (ha : ∀ e, A e → A' e) : qG A' X := by
  obtain ⟨e, he, hv⟩ := h; exact ⟨e, ha e he, hv⟩
end
def qN {κ : Type} (n : Nat) (B : Nat → (κ → Prop) → Prop) (V : Nat → κ → Prop) : Prop := ∃ (NF : Nat) (e : κ → Prop), n ≤ NF ∧ B NF e ∧ ∀ Z, e Z → V NF Z
def qB1 {υ : Type} (P : Nat → υ → Prop) (NF : Nat) (e : (υ → Prop) → Prop) : Prop := ∃ u, P NF u ∧ e = fun Z => Z u
def qB2 {ρ υ : Type} (P : Nat → ρ → υ → Prop) (NF : Nat) (e : (ρ → υ → Prop) → Prop) : Prop := ∃ r u, P NF r u ∧ e = fun Z => Z r u
section
variable {κ : Type} {n : Nat} {B : Nat → (κ → Prop) → Prop} {X Y : Nat → κ → Prop}
theorem qN_ret1 {υ : Type} {P : Nat → υ → Prop} {u : υ} (h : P n u) : qN n (qB1 P) (fun NF Z => n = NF ∧ Z u) := ⟨n, _, Nat.le_refl n, ⟨u, h, rfl⟩, fun _ h => ⟨rfl, h⟩⟩
theorem qN_ret2 {ρ υ : Type} {P : Nat → ρ → υ → Prop} {r : ρ} {u : υ} (h : P n r u) : qN n (qB2 P) (fun NF Z => n = NF ∧ Z r u) := ⟨n, _, Nat.le_refl n, ⟨r, u, h, rfl⟩, fun _ h => ⟨rfl, h⟩⟩
theorem qN_ite {c : Prop} (h1 : c → qN n B X) (h2 : ¬ c → qN n B Y) : qN n B (fun NF Z => (c → X NF Z) ∧ (¬ c → Y NF Z)) := by
  by_cases hc : c
  · obtain ⟨N, e, hl, he, hv⟩ := h1 hc; exact ⟨N, e, hl, he, fun Z hz => ⟨fun _ => hv Z hz, fun n => absurd hc n⟩⟩
  · obtain ⟨N, e, hl, he, hv⟩ := h2 hc; exact ⟨N, e, hl, he, fun Z hz => ⟨fun n => absurd n hc, fun _ => hv Z hz⟩⟩
theorem qN_ite' {c : Prop} (h1 : ¬ c → qN n B X) (h2 : c → qN n B Y) : qN n B (fun NF Z => (¬ c → X NF Z) ∧ (c → Y NF Z)) := by
  by_cases hc : c
  · obtain ⟨N, e, hl, he, hv⟩ := h2 hc; exact ⟨N, e, hl, he, fun Z hz => ⟨fun n => absurd hc n, fun _ => hv Z hz⟩⟩
  · obtain ⟨N, e, hl, he, hv⟩ := h1 hc; exact ⟨N, e, hl, he, fun Z hz => ⟨fun _ => hv Z hz, fun n => absurd n hc⟩⟩
theorem qN_and {Q : Prop} (h : Q) (h2 : qN n B X) : qN n B (fun NF Z => Q ∧ X NF Z) := by
  obtain ⟨N, e, hl, he, hv⟩ := h2; exact ⟨N, e, hl, he, fun Z hz => ⟨h, hv Z hz⟩⟩
theorem qN_ex {X : Nat → κ → Nat → Prop} (N : Nat) (h : qN n B (fun NF Z => X NF Z N)) : qN n B (fun NF Z => ∃ N, X NF Z N) := by
  obtain ⟨M, e, hl, he, hv⟩ := h; exact ⟨M, e, hl, he, fun Z hz => ⟨N, hv Z hz⟩⟩
theorem qN_all {α : Type} {t : α} {X : α → Nat → κ → Prop} (h : qN n B (X t)) : qN n B (fun NF Z => ∀ y, y = t → X y NF Z) := by
  obtain ⟨N, e, hl, he, hv⟩ := h; exact ⟨N, e, hl, he, fun Z hz y hy => by subst hy; exact hv Z hz⟩
theorem qN_opt {o : Option Nat} {Y : Nat → Nat → κ → Prop} (h1 : o = none → qN n B X) (h2 : ∀ j, o = some j → qN n B (Y j)) : qN n B (fun NF Z => (o = none → X NF Z) ∧ (∀ j : Nat, o = some j → Y j NF Z)) := by
  cases o with
  | none => obtain ⟨N, e, hl, he, hv⟩ := h1 rfl; exact ⟨N, e, hl, he, fun Z hz => ⟨fun _ => hv Z hz, fun j hj => (by cases hj)⟩⟩
  | some j => obtain ⟨N, e, hl, he, hv⟩ := h2 j rfl; exact ⟨N, e, hl, he, fun Z hz => ⟨fun hj => (by cases hj), fun i hi => (by cases hi; exact hv Z hz)⟩⟩
theorem qN_no (h : False) : qN n B (fun _ _ => False) := h.elim
theorem qN_4 {s : Nat} {X0 X1 X2 X3 : Nat → κ → Prop} (h : s < 4) (h0 : s = 0 → qN n B X0) (h1 : s = 1 → qN n B X1) (h2 : s = 2 → qN n B X2) (h3 : s = 3 → qN n B X3) :
    qN n B (fun NF Z => s < 4 ∧ (s = 0 → X0 NF Z) ∧ (s = 1 → X1 NF Z) ∧ (s = 2 → X2 NF Z) ∧ (s = 3 → X3 NF Z)) := by
  rcases (show s = 0 ∨ s = 1 ∨ s = 2 ∨ s = 3 by omega) with e | e | e | e
  · obtain ⟨N, x, hl, he, hv⟩ := h0 e; exact ⟨N, x, hl, he, fun Z hz => ⟨h, fun _ => hv Z hz, fun n => by omega, fun n => by omega, fun n => by omega⟩⟩
  · obtain ⟨N, x, hl, he, hv⟩ := h1 e; exact ⟨N, x, hl, he, fun Z hz => ⟨h, fun n => by omega, fun _ => hv Z hz, fun n => by omega, fun n => by omega⟩⟩
  · obtain ⟨N, x, hl, he, hv⟩ := h2 e; exact ⟨N, x, hl, he, fun Z hz => ⟨h, fun n => by omega, fun n => by omega, fun _ => hv Z hz, fun n => by omega⟩⟩
  · obtain ⟨N, x, hl, he, hv⟩ := h3 e; exact ⟨N, x, hl, he, fun Z hz => ⟨h, fun n => by omega, fun n => by omega, fun n => by omega, fun _ => hv Z hz⟩⟩
theorem qN_g1 {υ : Type} {Q : υ → Prop} {C : (υ → Prop) → Prop} {R : υ → Nat → κ → Prop} (h : qG (qA1 Q) C) (h2 : ∀ u, Q u → qN n B (R u)) : qN n B (fun NF Z => C (fun u => R u NF Z)) := by
  obtain ⟨e, ⟨u, hq, rfl⟩, hv⟩ := h; obtain ⟨N, e2, hl, he, hw⟩ := h2 u hq
  exact ⟨N, e2, hl, he, fun Z hz => hv (fun u => R u N Z) (hw Z hz)⟩
theorem qN_g2 {ρ υ : Type} {Q : ρ → υ → Prop} {C : (ρ → υ → Prop) → Prop} {R : ρ → υ → Nat → κ → Prop} (h : qG (qA2 Q) C) (h2 : ∀ r u, Q r u → qN n B (R r u)) : qN n B (fun NF Z => C (fun r u => R r u NF Z)) := by
  obtain ⟨e, ⟨r, u, hq, rfl⟩, hv⟩ := h; obtain ⟨N, e2, hl, he, hw⟩ := h2 r u hq
  exact ⟨N, e2, hl, he, fun Z hz => hv (fun r u => R r u N Z) (hw Z hz)⟩
theorem qN_c1 {υ : Type} {Q : Nat → υ → Prop} {C : Nat → (υ → Prop) → Prop} {R : υ → Nat → κ → Prop} (h : qN n (qB1 Q) C) (h2 : ∀ Nc u, n ≤ Nc → Q Nc u → qN Nc B (R u)) : qN n B (fun NF Z => ∃ Nc, n ≤ Nc ∧ Nc ≤ NF ∧ C Nc (fun u => R u NF Z)) := by
  obtain ⟨Nc, e, hl1, ⟨u, hq, rfl⟩, hv⟩ := h; obtain ⟨N, e2, hl, he, hw⟩ := h2 Nc u hl1 hq
  exact ⟨N, e2, Nat.le_trans hl1 hl, he, fun Z hz => ⟨Nc, hl1, hl, hv (fun u => R u N Z) (hw Z hz)⟩⟩
end
/-- a look's row -/
def qR (n : Nat) (f : Nat → Int32) : Prop := (n = 64 ∨ n = 128 ∨ n = 256 ∨ n = 512 ∨ n = 1024 ∨ n = 2048 ∨ n = 4096) ∧ ∀ i, i < n → zc (f i)
theorem qchar (x : Int32) : zc (x.toUInt32 % 65536).toInt32 := by
  refine ⟨(x.toUInt32 % 65536).toNat, ?_, ?_⟩
  · rw [UInt32.toNat_mod]; exact Nat.mod_lt _ (by decide)
  · rw [zle_eq]
    have h1 : (x.toUInt32 % 65536).toNat < 65536 := by rw [UInt32.toNat_mod]; exact Nat.mod_lt _ (by decide)
    rw [znI (by omega)]
    rw [show (x.toUInt32 % 65536).toInt32.toInt = (x.toUInt32 % 65536).toBitVec.toInt from rfl, BitVec.toInt_eq_toNat_of_lt (by show 2 * (x.toUInt32 % 65536).toNat < _; omega)]
    rfl
theorem qTens {j : Nat} (h : j < 19) : ¬ zTens j = 0 := by
  revert h; revert j; decide
theorem qsn : ∀ i, i < nZS → zsn i < 64 := by decide +kernel
theorem qsn' {i : Nat} (h : i < nZS) : (nI (zsn i)).toInt = zsn i := znI (by have := qsn i h; omega)
theorem qmax (x y : Int32) : (zmax x y).toInt = if x.toInt < y.toInt then y.toInt else x.toInt := by
  unfold zmax; simp only [zle_lt]; split <;> rfl
theorem qmin (x y : Int32) : (zmin x y).toInt = if y.toInt < x.toInt then y.toInt else x.toInt := by
  unfold zmin; simp only [zle_lt]; split <;> rfl
theorem qnI64 : (nI 64).toInt = 64 := rfl
theorem qnI4 : (nI 4).toInt = 4 := rfl
theorem qR_le {n : Nat} {f : Nat → Int32} (h : qR n f) : 64 ≤ n ∧ n ≤ 4096 := by have := h.1; omega
theorem qR_nI {n : Nat} {f : Nat → Int32} (h : qR n f) : (nI n).toInt = n := znI (by have := (qR_le h).2; omega)
theorem qu16 (w : UInt16) : zc w.toUInt32.toInt32 := by
  have h1 : w.toNat < 65536 := w.toNat_lt
  refine ⟨w.toNat, h1, ?_⟩
  rw [zle_eq, znI (by omega)]
  rw [show w.toUInt32.toInt32.toInt = w.toUInt32.toBitVec.toInt from rfl, BitVec.toInt_eq_toNat_of_lt (by show 2 * w.toUInt32.toNat < _; rw [UInt16.toNat_toUInt32]; omega)]
  show ((w.toUInt32.toNat : Nat) : Int) = _
  rw [UInt16.toNat_toUInt32]
theorem qnar (x : Int32) : zc (vp_nar .char x) := by rw [vp_nar_char]; exact qu16 _
theorem qR_upd {n : Nat} {f : Nat → Int32} (h : qR n f) {k : Nat} {x : Int32} (hx : zc x) : qR n (upd f k x) := by
  refine ⟨h.1, fun i hi => ?_⟩
  by_cases hk : i = k
  · subst hk; simp only [upd, Nat.beq_refl]; first | exact hx | (simp; exact hx)
  · have : upd f k x i = f i := by simp [upd, hk]
    rw [this]; exact h.2 i hi
theorem qnz : nZS = 36 := rfl
def qC (f : Nat → Int32) : Prop := ∀ i, zc (f i)
theorem qC_at {f : Nat → Int32} (h : qC f) (i : Nat) : 0 ≤ (f i).toInt ∧ (f i).toInt < 65536 := zc_iff.1 (h i)
/-- what a section that stands keeps -/
def qSO (I : Nat → Int32) : Prop := (0 ≤ (I 1).toInt ∧ (I 1).toInt ≤ 64) ∧ (0 ≤ (I 2).toInt ∧ (I 2).toInt ≤ 64) ∧ (-4200 ≤ (I 3).toInt ∧ (I 3).toInt ≤ 64) ∧ (0 ≤ (I 4).toInt ∧ (I 4).toInt ≤ 64) ∧ (0 ≤ (I 9).toInt ∧ (I 9).toInt ≤ 3) ∧ (0 ≤ (I 10).toInt ∧ (I 10).toInt ≤ 4200)
def qO4 (r : Option Nat) : Prop := ∀ j, r = some j → j < 4
theorem qO4_n : qO4 none := fun j h => by cases h
theorem qO4_s {j : Nat} (h : j < 4) : qO4 (some j) := fun i h2 => by cases h2; exact h
theorem qsh0 (x : Int32) : x >>> ((0 : Int32) &&& 31) = x := by
  have : ((0 : Int32) &&& 31) = 0 := rfl
  rw [this]
  apply Int32.toBitVec_inj.1
  rw [Int32.toBitVec_shiftRight, show (Int32.toBitVec 0).smod 32 = 0#32 by decide]
  show x.toBitVec.sshiftRight 0 = x.toBitVec
  exact BitVec.sshiftRight_zero
def qF (I : Nat → Int32) : Prop := qSO I ∧ (I 3).toInt = 0 ∧ (I 4).toInt = 0 ∧ (I 10).toInt = 0
theorem qF_i {I : Nat → Int32} {x : Int32} (h : (I 1).toInt = x.toInt ∧ (I 2).toInt = x.toInt ∧ (I 3).toInt = 0 ∧ (I 4).toInt = 0 ∧ (I 9).toInt = 0 ∧ (I 10).toInt = 0) (h0 : 0 ≤ x.toInt) (h1 : x.toInt ≤ 64) : qF I := by
  unfold qF qSO; omega
theorem qF_so {I : Nat → Int32} (h : qF I) : qSO I := h.1
theorem qC_z {f : Nat → Int32} (h : qC f) (i : Nat) : zc (f i) := h i
theorem qG_some {κ : Type} {A : (κ → Prop) → Prop} {X : κ → Prop} {Y : Nat → κ → Prop} {j : Nat} (h : qG A (Y j)) : qG A (fun Z => (some j = none → X Z) ∧ (∀ i : Nat, some j = some i → Y i Z)) := by
  obtain ⟨e, he, hv⟩ := h; exact ⟨e, he, fun Z hz => ⟨fun hj => (by cases hj), fun i hi => (by cases hi; exact hv Z hz)⟩⟩
def qSR (I : Nat → Int32) (p : Int) : Prop := -64 * p ≤ (I 3).toInt ∧ (I 3).toInt ≤ p ∧ 0 ≤ (I 4).toInt ∧ (I 4).toInt ≤ p ∧ 0 ≤ (I 10).toInt ∧ (I 10).toInt ≤ 64 * p
theorem qSR_0 {I : Nat → Int32} {a : Int32} {p : Int} (h : qF I) (hp : 0 ≤ p) : qSR (zu I 0 a) p := by
  obtain ⟨_, h3, h4, h10⟩ := h
  unfold qSR; simp only [zu_n, ne_eq, Nat.reduceEqDiff, not_false_eq_true, reduceCtorEq, h3, h4, h10]; omega
theorem qSO_0 {I : Nat → Int32} {a : Int32} (h : qSO I) : qSO (zu I 0 a) := by
  unfold qSO at h ⊢; simp only [zu_n, ne_eq, Nat.reduceEqDiff, not_false_eq_true, reduceCtorEq]; exact h
theorem qSO_2 {I : Nat → Int32} {a : Int32} (h : qSO I) (h0 : 0 ≤ a.toInt) (h1 : a.toInt ≤ 64) : qSO (zu I 2 a) := by
  unfold qSO at h ⊢; simp only [zu_s, zu_n, ne_eq, Nat.reduceEqDiff, not_false_eq_true, reduceCtorEq]; omega
theorem qSO_1 {I : Nat → Int32} (h : qSO I) : 0 ≤ (I 1).toInt ∧ (I 1).toInt ≤ 64 := h.1
theorem qS_step {I G : Nat → Int32} {p : Int} {C : Prop} (ho : qSO I) (hr : qSR I p) (hp : p ≤ 63) (h : (I 3).toInt - 64 ≤ (G 3).toInt ∧ (G 3).toInt ≤ (I 3).toInt + 1 ∧ (I 4).toInt ≤ (G 4).toInt ∧ (G 4).toInt ≤ (I 4).toInt + 1 ∧ (I 10).toInt ≤ (G 10).toInt ∧ (G 10).toInt ≤ (I 10).toInt + 64 ∧ (G 1).toInt = (I 1).toInt ∧ (G 2).toInt = (I 2).toInt ∧ 0 ≤ (G 9).toInt ∧ (G 9).toInt ≤ 3 ∧ C) : qSO G ∧ ∀ q : Int, p + 1 ≤ q → qSR G q := by
  obtain ⟨a1, a2, a3, a4, a5, a6, a7, a8, a9, a10, _⟩ := h
  unfold qSO qSR at *
  refine ⟨by omega, fun q hq => by omega⟩
theorem qri {I0 I2 I3 f1 : Nat → Int32} {x1 : Int32} (hc : qC f1) (h0 : 0 ≤ x1.toInt) (h1 : x1.toInt ≤ 64) (h2 : (I0 1).toInt ≤ 64) (hs : qSO I2) (h3 : 0 ≤ (I3 4).toInt) (h4 : (I3 4).toInt ≤ 64) : qC f1 ∧ 0 ≤ x1.toInt ∧ x1.toInt ≤ 64 ∧ (I0 1).toInt ≤ 64 ∧ 0 ≤ (I2 1).toInt ∧ (I2 1).toInt ≤ 64 ∧ 0 ≤ (I2 2).toInt ∧ (I2 2).toInt ≤ 64 ∧ -4200 ≤ (I2 3).toInt ∧ (I2 3).toInt ≤ 64 ∧ 0 ≤ (I2 4).toInt ∧ (I2 4).toInt ≤ 64 ∧ 0 ≤ (I2 9).toInt ∧ (I2 9).toInt ≤ 3 ∧ 0 ≤ (I2 10).toInt ∧ (I2 10).toInt ≤ 4200 ∧ 0 ≤ (I3 4).toInt ∧ (I3 4).toInt ≤ 64 := by
  unfold qSO at hs; refine ⟨hc, ?_⟩; omega
