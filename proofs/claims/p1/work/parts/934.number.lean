set_option maxHeartbeats 20000000 in
set_option maxRecDepth 100000 in
theorem pc_num {xs : Nat → Int32} (h : ((xs (0 : Int32).toNatClampNeg) &&& (7 : Int32)) = (3 : Int32)) (g : ¬ (xs ((0 : Int32) + (2 : Int32)).toNatClampNeg) < 0 ∧ ¬ (99999999 : Int32) < (xs ((0 : Int32) + (2 : Int32)).toNatClampNeg) ∧ ¬ (xs ((0 : Int32) + (3 : Int32)).toNatClampNeg) < 0 ∧ ¬ (999999999 : Int32) < (xs ((0 : Int32) + (3 : Int32)).toNatClampNeg) ∧ ¬ (xs ((0 : Int32) + (4 : Int32)).toNatClampNeg) < (-350 : Int32) ∧ (xs ((0 : Int32) + (4 : Int32)).toNatClampNeg) ≤ (300 : Int32)) : lw_pure 5 xs 2 := by
  obtain ⟨a1, a2, a3, a4, a5, a6⟩ := g
  unfold lw_pure
  refine And.intro (fun _ => True.intro) (fun _ => And.intro (fun c => absurd c (by decide +kernel)) ?_)
  refine And.intro (fun c => absurd (c.symm.trans h) (by decide +kernel)) (fun _ => ?_)
  refine And.intro (fun c => absurd (c.symm.trans h) (by decide +kernel)) (fun _ => ?_)
  refine And.intro (fun c => absurd (c.symm.trans h) (by decide +kernel)) (fun _ => ?_)
  refine And.intro (fun _ => ?_) (fun c => absurd h c)
  repeat' first
    | refine mn_0 a1 a2 a3 a4 a5 a6 (fun I f e => ?_)
    | exact True.intro
    | refine And.intro ?_ ?_
    | (refine fun c => absurd c ?_; assumption)
    | (refine fun c => absurd ?_ c; assumption)
    | (refine fun c => absurd ?_ c; exact e)
    | (unfold zb; decide +kernel)
    | refine Or.inl ?_
    | (refine fun c => absurd c ?_; decide +kernel)
    | (refine fun c => absurd ?_ c; decide +kernel)
    | (refine fun (y : Int32) (hy : y = _) => ?_; cases hy)
    | (refine fun (y : Int64) (hy : y = _) => ?_; cases hy)
    | (refine fun (y : Nat) (hy : y = _) => ?_; cases hy)
    | (refine fun (y : Nat) (hy : _ = some y) => ?_; cases hy)
    | intro _
    | refine Exists.intro 64 (And.intro (by decide) (And.intro (by decide) ?_))
    | refine Exists.intro 600 ?_
    | decide +kernel
    | (unfold zb; decide +kernel)
set_option maxHeartbeats 20000000 in
set_option maxRecDepth 100000 in
theorem pc_nbad {xs : Nat → Int32} (h : ((xs (0 : Int32).toNatClampNeg) &&& (7 : Int32)) = (3 : Int32)) (b : ¬ (¬ (xs ((0 : Int32) + (2 : Int32)).toNatClampNeg) < 0 ∧ ¬ (99999999 : Int32) < (xs ((0 : Int32) + (2 : Int32)).toNatClampNeg) ∧ ¬ (xs ((0 : Int32) + (3 : Int32)).toNatClampNeg) < 0 ∧ ¬ (999999999 : Int32) < (xs ((0 : Int32) + (3 : Int32)).toNatClampNeg) ∧ ¬ (xs ((0 : Int32) + (4 : Int32)).toNatClampNeg) < (-350 : Int32) ∧ (xs ((0 : Int32) + (4 : Int32)).toNatClampNeg) ≤ (300 : Int32))) : lw_pure 5 xs 2 := by
  unfold lw_pure
  refine And.intro (fun _ => True.intro) (fun _ => And.intro (fun c => absurd c (by decide +kernel)) ?_)
  refine And.intro (fun c => absurd (c.symm.trans h) (by decide +kernel)) (fun _ => ?_)
  refine And.intro (fun c => absurd (c.symm.trans h) (by decide +kernel)) (fun _ => ?_)
  refine And.intro (fun c => absurd (c.symm.trans h) (by decide +kernel)) (fun _ => ?_)
  refine And.intro (fun _ => ?_) (fun c => absurd h c)
  repeat' first
    | exact nd_bad b
    | refine mn_bad b (fun I f e => ?_)
    | exact True.intro
    | refine And.intro ?_ ?_
    | (refine fun c => absurd ?_ c; exact e)
    | (unfold zb; decide +kernel)
    | refine Or.inr ?_
    | (refine fun c => absurd c ?_; decide +kernel)
    | (refine fun c => absurd ?_ c; decide +kernel)
    | (refine fun (y : Int32) (hy : y = _) => ?_; cases hy)
    | (refine fun (y : Int64) (hy : y = _) => ?_; cases hy)
    | (refine fun (y : Nat) (hy : y = _) => ?_; cases hy)
    | (refine fun (y : Nat) (hy : _ = some y) => ?_; cases hy)
    | intro _
    | refine Exists.intro 64 (And.intro (by decide) (And.intro (by decide) ?_))
    | refine Exists.intro 600 ?_
    | decide +kernel
    | (unfold zb; decide +kernel)
