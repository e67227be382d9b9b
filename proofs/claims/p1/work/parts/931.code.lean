set_option maxHeartbeats 20000000 in
set_option maxRecDepth 100000 in
theorem pc_code {xs : Nat → Int32} (h : ((xs (0 : Int32).toNatClampNeg) &&& (7 : Int32)) = (2 : Int32)) : lw_pure 5 xs 2 := by
  unfold lw_pure
  refine And.intro (fun _ => True.intro) (fun _ => And.intro (fun c => absurd c (by decide +kernel)) ?_)
  refine And.intro (fun c => absurd (c.symm.trans h) (by decide +kernel)) (fun _ => ?_)
  refine And.intro (fun c => absurd (c.symm.trans h) (by decide +kernel)) (fun _ => ?_)
  refine And.intro (fun _ => ?_) (fun c => absurd h c)
  repeat' first
    | exact True.intro
    | refine And.intro ?_ ?_
    | (refine fun c => absurd c ?_; decide +kernel)
    | (refine fun c => absurd ?_ c; decide +kernel)
    | (refine fun (y : Int32) (hy : y = _) => ?_; cases hy)
    | (refine fun (y : Int64) (hy : y = _) => ?_; cases hy)
    | (refine fun (y : Nat) (hy : y = _) => ?_; cases hy)
    | (refine fun (y : Nat) (hy : _ = some y) => ?_; cases hy)
    | intro _
    | refine Exists.intro 64 (And.intro (by decide) (And.intro (by decide) ?_))
    | refine Exists.intro 600 ?_
    | decide +kernel
    | (unfold zb; decide +kernel)
