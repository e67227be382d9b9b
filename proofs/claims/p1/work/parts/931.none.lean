set_option maxHeartbeats 20000000 in
set_option maxRecDepth 100000 in
theorem pc_none {xs : Nat → Int32} (h0 : ¬ ((xs (0 : Int32).toNatClampNeg) &&& (7 : Int32)) = (0 : Int32)) (h1 : ¬ ((xs (0 : Int32).toNatClampNeg) &&& (7 : Int32)) = (1 : Int32)) (h2 : ¬ ((xs (0 : Int32).toNatClampNeg) &&& (7 : Int32)) = (2 : Int32)) (h3 : ¬ ((xs (0 : Int32).toNatClampNeg) &&& (7 : Int32)) = (3 : Int32)) (h4 : ¬ ((xs (0 : Int32).toNatClampNeg) &&& (7 : Int32)) = (4 : Int32)) (h5 : ¬ ((xs (0 : Int32).toNatClampNeg) &&& (7 : Int32)) = (5 : Int32)) (h6 : ¬ ((xs (0 : Int32).toNatClampNeg) &&& (7 : Int32)) = (6 : Int32)) (h7 : ¬ ((xs (0 : Int32).toNatClampNeg) &&& (7 : Int32)) = (7 : Int32)) : lw_pure 5 xs 2 := by
  unfold lw_pure
  refine And.intro (fun _ => True.intro) (fun _ => And.intro (fun c => absurd c (by decide +kernel)) ?_)
  refine And.intro (fun c => absurd c h0) (fun _ => ?_)
  refine And.intro (fun c => absurd c h1) (fun _ => ?_)
  refine And.intro (fun c => absurd c h2) (fun _ => ?_)
  refine And.intro (fun c => absurd c h3) (fun _ => ?_)
  refine And.intro (fun c => absurd c h4) (fun _ => ?_)
  refine And.intro (fun c => absurd c h5) (fun _ => ?_)
  refine And.intro (fun c => absurd c h6) (fun _ => ?_)
  refine And.intro (fun c => absurd c h7) (fun _ => ?_)
  repeat' first
    | exact True.intro
    | refine And.intro ?_ ?_
    | (refine fun c => absurd c ?_; decide +kernel)
    | (refine fun c => absurd ?_ c; decide +kernel)
    | (refine fun (y : Int32) (hy : y = _) => ?_; cases hy)
    | (refine fun (y : Int64) (hy : y = _) => ?_; cases hy)
    | (refine fun (y : Nat) (hy : y = _) => ?_; cases hy)
    | (refine fun (y : Nat) (hy : _ = some y) => ?_; cases hy)
    | intro _
    | refine Exists.intro 64 (And.intro (by decide) (And.intro (by decide) ?_))
    | refine Exists.intro 600 ?_
    | decide +kernel
    | (unfold zb; decide +kernel)
