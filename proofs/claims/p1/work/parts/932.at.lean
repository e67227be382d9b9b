set_option maxHeartbeats 20000000 in
set_option maxRecDepth 100000 in
theorem pc_at0 {xs : Nat → Int32} (h : ((xs (0 : Int32).toNatClampNeg) &&& (7 : Int32)) = (6 : Int32)) (e : (xs ((0 : Int32) + (1 : Int32)).toNatClampNeg) = 0) : lw_pure 5 xs 2 := by
  unfold lw_pure
  refine And.intro (fun _ => True.intro) (fun _ => And.intro (fun c => absurd c (by decide +kernel)) ?_)
  refine And.intro (fun c => absurd (c.symm.trans h) (by decide +kernel)) (fun _ => ?_)
  refine And.intro (fun c => absurd (c.symm.trans h) (by decide +kernel)) (fun _ => ?_)
  refine And.intro (fun c => absurd (c.symm.trans h) (by decide +kernel)) (fun _ => ?_)
  refine And.intro (fun c => absurd (c.symm.trans h) (by decide +kernel)) (fun _ => ?_)
  refine And.intro (fun c => absurd (c.symm.trans h) (by decide +kernel)) (fun _ => ?_)
  refine And.intro (fun c => absurd (c.symm.trans h) (by decide +kernel)) (fun _ => ?_)
  refine And.intro (fun _ => ?_) (fun c => absurd h c)
  repeat' first
    | exact True.intro
    | refine And.intro ?_ ?_
    | (refine fun c => absurd c ?_; rw [e]; decide +kernel)
    | (refine fun c => absurd ?_ c; rw [e]; decide +kernel)
    | (rw [e]; decide +kernel)
    | (refine fun c => absurd c ?_; decide +kernel)
    | (refine fun c => absurd ?_ c; decide +kernel)
    | (refine fun (y : Int32) (hy : y = _) => ?_; cases hy)
    | (refine fun (y : Int64) (hy : y = _) => ?_; cases hy)
    | (refine fun (y : Nat) (hy : y = _) => ?_; cases hy)
    | (refine fun (y : Nat) (hy : _ = some y) => ?_; cases hy)
    | intro _
    | refine Exists.intro 64 (And.intro (by decide) (And.intro (by decide) ?_))
    | refine Exists.intro 600 ?_
    | decide +kernel
    | (unfold zb; decide +kernel)
set_option maxHeartbeats 20000000 in
set_option maxRecDepth 100000 in
theorem pc_atn {xs : Nat → Int32} (h : ((xs (0 : Int32).toNatClampNeg) &&& (7 : Int32)) = (6 : Int32)) (e : (xs ((0 : Int32) + (1 : Int32)).toNatClampNeg) < 0) : lw_pure 5 xs 2 := by
  unfold lw_pure
  refine And.intro (fun _ => True.intro) (fun _ => And.intro (fun c => absurd c (by decide +kernel)) ?_)
  refine And.intro (fun c => absurd (c.symm.trans h) (by decide +kernel)) (fun _ => ?_)
  refine And.intro (fun c => absurd (c.symm.trans h) (by decide +kernel)) (fun _ => ?_)
  refine And.intro (fun c => absurd (c.symm.trans h) (by decide +kernel)) (fun _ => ?_)
  refine And.intro (fun c => absurd (c.symm.trans h) (by decide +kernel)) (fun _ => ?_)
  refine And.intro (fun c => absurd (c.symm.trans h) (by decide +kernel)) (fun _ => ?_)
  refine And.intro (fun c => absurd (c.symm.trans h) (by decide +kernel)) (fun _ => ?_)
  refine And.intro (fun _ => ?_) (fun c => absurd h c)
  repeat' first
    | exact True.intro
    | refine And.intro ?_ ?_
    | (refine fun c => absurd c ?_; exact not_not_intro e)
    | (refine fun c => absurd ?_ c; exact e)
    | (refine fun c => absurd c ?_; decide +kernel)
    | (refine fun c => absurd ?_ c; decide +kernel)
    | (refine fun (y : Int32) (hy : y = _) => ?_; cases hy)
    | (refine fun (y : Int64) (hy : y = _) => ?_; cases hy)
    | (refine fun (y : Nat) (hy : y = _) => ?_; cases hy)
    | (refine fun (y : Nat) (hy : _ = some y) => ?_; cases hy)
    | intro _
    | refine Exists.intro 64 (And.intro (by decide) (And.intro (by decide) ?_))
    | refine Exists.intro 600 ?_
    | decide +kernel
    | (unfold zb; decide +kernel)
set_option maxHeartbeats 20000000 in
set_option maxRecDepth 100000 in
theorem pc_atp {xs : Nat → Int32} (h : ((xs (0 : Int32).toNatClampNeg) &&& (7 : Int32)) = (6 : Int32)) (e : ¬ (xs ((0 : Int32) + (1 : Int32)).toNatClampNeg) < 0) (e1 : ∀ n : Int32, n = 1 → n ≤ (xs ((0 : Int32) + (1 : Int32)).toNatClampNeg)) (e2 : ∀ n : Int32, n = 1 → ¬ (xs ((0 : Int32) + (1 : Int32)).toNatClampNeg) < n) : lw_pure 5 xs 2 := by
  unfold lw_pure
  refine And.intro (fun _ => True.intro) (fun _ => And.intro (fun c => absurd c (by decide +kernel)) ?_)
  refine And.intro (fun c => absurd (c.symm.trans h) (by decide +kernel)) (fun _ => ?_)
  refine And.intro (fun c => absurd (c.symm.trans h) (by decide +kernel)) (fun _ => ?_)
  refine And.intro (fun c => absurd (c.symm.trans h) (by decide +kernel)) (fun _ => ?_)
  refine And.intro (fun c => absurd (c.symm.trans h) (by decide +kernel)) (fun _ => ?_)
  refine And.intro (fun c => absurd (c.symm.trans h) (by decide +kernel)) (fun _ => ?_)
  refine And.intro (fun c => absurd (c.symm.trans h) (by decide +kernel)) (fun _ => ?_)
  refine And.intro (fun _ => ?_) (fun c => absurd h c)
  repeat' first
    | exact True.intro
    | refine And.intro ?_ ?_
    | (refine fun c => absurd c ?_; exact e)
    | exact fun c => absurd (e1 _ (by decide +kernel)) c
    | exact fun c => absurd c (e2 _ (by decide +kernel))
    | (refine fun c => absurd c ?_; decide +kernel)
    | (refine fun c => absurd ?_ c; decide +kernel)
    | (refine fun (y : Int32) (hy : y = _) => ?_; cases hy)
    | (refine fun (y : Int64) (hy : y = _) => ?_; cases hy)
    | (refine fun (y : Nat) (hy : y = _) => ?_; cases hy)
    | (refine fun (y : Nat) (hy : _ = some y) => ?_; cases hy)
    | intro _
    | refine Exists.intro 64 (And.intro (by decide) (And.intro (by decide) ?_))
    | refine Exists.intro 600 ?_
    | decide +kernel
    | (unfold zb; decide +kernel)
