set_option maxHeartbeats 20000000 in
set_option maxRecDepth 100000 in
theorem pc_ab0 {xs : Nat → Int32} (h : ((xs (0 : Int32).toNatClampNeg) &&& (7 : Int32)) = (7 : Int32)) (e : (xs ((0 : Int32) + (1 : Int32)).toNatClampNeg) = 0) : lw_pure 5 xs 2 := by
  unfold lw_pure
  refine And.intro (fun _ => True.intro) (fun _ => And.intro (fun c => absurd c (by decide +kernel)) ?_)
  refine And.intro (fun c => absurd (c.symm.trans h) (by decide +kernel)) (fun _ => ?_)
  refine And.intro (fun c => absurd (c.symm.trans h) (by decide +kernel)) (fun _ => ?_)
  refine And.intro (fun c => absurd (c.symm.trans h) (by decide +kernel)) (fun _ => ?_)
  refine And.intro (fun c => absurd (c.symm.trans h) (by decide +kernel)) (fun _ => ?_)
  refine And.intro (fun c => absurd (c.symm.trans h) (by decide +kernel)) (fun _ => ?_)
  refine And.intro (fun c => absurd (c.symm.trans h) (by decide +kernel)) (fun _ => ?_)
  refine And.intro (fun c => absurd (c.symm.trans h) (by decide +kernel)) (fun _ => ?_)
  refine And.intro (fun _ => ?_) (fun c => absurd h c)
  refine And.intro (fun c => absurd c (by decide +kernel)) ?_
  refine Or.inl ?_
  repeat' first
    | exact True.intro
    | refine And.intro ?_ ?_
    | (refine fun c => absurd c ?_; rw [e]; decide +kernel)
    | (refine fun c => absurd ?_ c; rw [e]; decide +kernel)
    | (rw [e]; decide +kernel)
    | (refine fun c => absurd c ?_; decide +kernel)
    | (refine fun c => absurd ?_ c; decide +kernel)
    | (refine fun (y : Int32) (hy : y = _) => ?_; cases hy)
    | (refine fun (y : Int64) (hy : y = _) => ?_; cases hy)
    | (refine fun (y : Nat) (hy : y = _) => ?_; cases hy)
    | (refine fun (y : Nat) (hy : _ = some y) => ?_; cases hy)
    | intro _
    | refine Exists.intro 64 (And.intro (by decide) (And.intro (by decide) ?_))
    | refine Exists.intro 600 ?_
    | decide +kernel
    | (unfold zb; decide +kernel)
set_option maxHeartbeats 20000000 in
set_option maxRecDepth 100000 in
theorem pc_ab1 {xs : Nat → Int32} (h : ((xs (0 : Int32).toNatClampNeg) &&& (7 : Int32)) = (7 : Int32)) (e : (xs ((0 : Int32) + (1 : Int32)).toNatClampNeg) = 1) : lw_pure 5 xs 2 := by
  unfold lw_pure
  refine And.intro (fun _ => True.intro) (fun _ => And.intro (fun c => absurd c (by decide +kernel)) ?_)
  refine And.intro (fun c => absurd (c.symm.trans h) (by decide +kernel)) (fun _ => ?_)
  refine And.intro (fun c => absurd (c.symm.trans h) (by decide +kernel)) (fun _ => ?_)
  refine And.intro (fun c => absurd (c.symm.trans h) (by decide +kernel)) (fun _ => ?_)
  refine And.intro (fun c => absurd (c.symm.trans h) (by decide +kernel)) (fun _ => ?_)
  refine And.intro (fun c => absurd (c.symm.trans h) (by decide +kernel)) (fun _ => ?_)
  refine And.intro (fun c => absurd (c.symm.trans h) (by decide +kernel)) (fun _ => ?_)
  refine And.intro (fun c => absurd (c.symm.trans h) (by decide +kernel)) (fun _ => ?_)
  refine And.intro (fun _ => ?_) (fun c => absurd h c)
  refine And.intro (fun c => absurd c (by decide +kernel)) ?_
  refine Or.inl ?_
  repeat' first
    | exact True.intro
    | refine And.intro ?_ ?_
    | (refine fun c => absurd c ?_; rw [e]; decide +kernel)
    | (refine fun c => absurd ?_ c; rw [e]; decide +kernel)
    | (rw [e]; decide +kernel)
    | (refine fun c => absurd c ?_; decide +kernel)
    | (refine fun c => absurd ?_ c; decide +kernel)
    | (refine fun (y : Int32) (hy : y = _) => ?_; cases hy)
    | (refine fun (y : Int64) (hy : y = _) => ?_; cases hy)
    | (refine fun (y : Nat) (hy : y = _) => ?_; cases hy)
    | (refine fun (y : Nat) (hy : _ = some y) => ?_; cases hy)
    | intro _
    | refine Exists.intro 64 (And.intro (by decide) (And.intro (by decide) ?_))
    | refine Exists.intro 600 ?_
    | decide +kernel
    | (unfold zb; decide +kernel)
set_option maxHeartbeats 20000000 in
set_option maxRecDepth 100000 in
theorem pc_ab2 {xs : Nat → Int32} (h : ((xs (0 : Int32).toNatClampNeg) &&& (7 : Int32)) = (7 : Int32)) (e : (xs ((0 : Int32) + (1 : Int32)).toNatClampNeg) = 2) : lw_pure 5 xs 2 := by
  unfold lw_pure
  refine And.intro (fun _ => True.intro) (fun _ => And.intro (fun c => absurd c (by decide +kernel)) ?_)
  refine And.intro (fun c => absurd (c.symm.trans h) (by decide +kernel)) (fun _ => ?_)
  refine And.intro (fun c => absurd (c.symm.trans h) (by decide +kernel)) (fun _ => ?_)
  refine And.intro (fun c => absurd (c.symm.trans h) (by decide +kernel)) (fun _ => ?_)
  refine And.intro (fun c => absurd (c.symm.trans h) (by decide +kernel)) (fun _ => ?_)
  refine And.intro (fun c => absurd (c.symm.trans h) (by decide +kernel)) (fun _ => ?_)
  refine And.intro (fun c => absurd (c.symm.trans h) (by decide +kernel)) (fun _ => ?_)
  refine And.intro (fun c => absurd (c.symm.trans h) (by decide +kernel)) (fun _ => ?_)
  refine And.intro (fun _ => ?_) (fun c => absurd h c)
  refine And.intro (fun c => absurd c (by decide +kernel)) ?_
  refine Or.inl ?_
  repeat' first
    | exact True.intro
    | refine And.intro ?_ ?_
    | (refine fun c => absurd c ?_; rw [e]; decide +kernel)
    | (refine fun c => absurd ?_ c; rw [e]; decide +kernel)
    | (rw [e]; decide +kernel)
    | (refine fun c => absurd c ?_; decide +kernel)
    | (refine fun c => absurd ?_ c; decide +kernel)
    | (refine fun (y : Int32) (hy : y = _) => ?_; cases hy)
    | (refine fun (y : Int64) (hy : y = _) => ?_; cases hy)
    | (refine fun (y : Nat) (hy : y = _) => ?_; cases hy)
    | (refine fun (y : Nat) (hy : _ = some y) => ?_; cases hy)
    | intro _
    | refine Exists.intro 64 (And.intro (by decide) (And.intro (by decide) ?_))
    | refine Exists.intro 600 ?_
    | decide +kernel
    | (unfold zb; decide +kernel)
set_option maxHeartbeats 20000000 in
set_option maxRecDepth 100000 in
theorem pc_ab3 {xs : Nat → Int32} (h : ((xs (0 : Int32).toNatClampNeg) &&& (7 : Int32)) = (7 : Int32)) (e : (xs ((0 : Int32) + (1 : Int32)).toNatClampNeg) = 3) : lw_pure 5 xs 2 := by
  unfold lw_pure
  refine And.intro (fun _ => True.intro) (fun _ => And.intro (fun c => absurd c (by decide +kernel)) ?_)
  refine And.intro (fun c => absurd (c.symm.trans h) (by decide +kernel)) (fun _ => ?_)
  refine And.intro (fun c => absurd (c.symm.trans h) (by decide +kernel)) (fun _ => ?_)
  refine And.intro (fun c => absurd (c.symm.trans h) (by decide +kernel)) (fun _ => ?_)
  refine And.intro (fun c => absurd (c.symm.trans h) (by decide +kernel)) (fun _ => ?_)
  refine And.intro (fun c => absurd (c.symm.trans h) (by decide +kernel)) (fun _ => ?_)
  refine And.intro (fun c => absurd (c.symm.trans h) (by decide +kernel)) (fun _ => ?_)
  refine And.intro (fun c => absurd (c.symm.trans h) (by decide +kernel)) (fun _ => ?_)
  refine And.intro (fun _ => ?_) (fun c => absurd h c)
  refine And.intro (fun c => absurd c (by decide +kernel)) ?_
  refine Or.inl ?_
  repeat' first
    | exact True.intro
    | refine And.intro ?_ ?_
    | (refine fun c => absurd c ?_; rw [e]; decide +kernel)
    | (refine fun c => absurd ?_ c; rw [e]; decide +kernel)
    | (rw [e]; decide +kernel)
    | (refine fun c => absurd c ?_; decide +kernel)
    | (refine fun c => absurd ?_ c; decide +kernel)
    | (refine fun (y : Int32) (hy : y = _) => ?_; cases hy)
    | (refine fun (y : Int64) (hy : y = _) => ?_; cases hy)
    | (refine fun (y : Nat) (hy : y = _) => ?_; cases hy)
    | (refine fun (y : Nat) (hy : _ = some y) => ?_; cases hy)
    | intro _
    | refine Exists.intro 64 (And.intro (by decide) (And.intro (by decide) ?_))
    | refine Exists.intro 600 ?_
    | decide +kernel
    | (unfold zb; decide +kernel)
set_option maxHeartbeats 20000000 in
set_option maxRecDepth 100000 in
theorem pc_ab4 {xs : Nat → Int32} (h : ((xs (0 : Int32).toNatClampNeg) &&& (7 : Int32)) = (7 : Int32)) (e : (xs ((0 : Int32) + (1 : Int32)).toNatClampNeg) = 4) : lw_pure 5 xs 2 := by
  unfold lw_pure
  refine And.intro (fun _ => True.intro) (fun _ => And.intro (fun c => absurd c (by decide +kernel)) ?_)
  refine And.intro (fun c => absurd (c.symm.trans h) (by decide +kernel)) (fun _ => ?_)
  refine And.intro (fun c => absurd (c.symm.trans h) (by decide +kernel)) (fun _ => ?_)
  refine And.intro (fun c => absurd (c.symm.trans h) (by decide +kernel)) (fun _ => ?_)
  refine And.intro (fun c => absurd (c.symm.trans h) (by decide +kernel)) (fun _ => ?_)
  refine And.intro (fun c => absurd (c.symm.trans h) (by decide +kernel)) (fun _ => ?_)
  refine And.intro (fun c => absurd (c.symm.trans h) (by decide +kernel)) (fun _ => ?_)
  refine And.intro (fun c => absurd (c.symm.trans h) (by decide +kernel)) (fun _ => ?_)
  refine And.intro (fun _ => ?_) (fun c => absurd h c)
  refine And.intro (fun c => absurd c (by decide +kernel)) ?_
  refine Or.inl ?_
  repeat' first
    | exact True.intro
    | refine And.intro ?_ ?_
    | (refine fun c => absurd c ?_; rw [e]; decide +kernel)
    | (refine fun c => absurd ?_ c; rw [e]; decide +kernel)
    | (rw [e]; decide +kernel)
    | (refine fun c => absurd c ?_; decide +kernel)
    | (refine fun c => absurd ?_ c; decide +kernel)
    | (refine fun (y : Int32) (hy : y = _) => ?_; cases hy)
    | (refine fun (y : Int64) (hy : y = _) => ?_; cases hy)
    | (refine fun (y : Nat) (hy : y = _) => ?_; cases hy)
    | (refine fun (y : Nat) (hy : _ = some y) => ?_; cases hy)
    | intro _
    | refine Exists.intro 64 (And.intro (by decide) (And.intro (by decide) ?_))
    | refine Exists.intro 600 ?_
    | decide +kernel
    | (unfold zb; decide +kernel)
set_option maxHeartbeats 20000000 in
set_option maxRecDepth 100000 in
theorem pc_ab5 {xs : Nat → Int32} (h : ((xs (0 : Int32).toNatClampNeg) &&& (7 : Int32)) = (7 : Int32)) (e : (xs ((0 : Int32) + (1 : Int32)).toNatClampNeg) = 5) : lw_pure 5 xs 2 := by
  unfold lw_pure
  refine And.intro (fun _ => True.intro) (fun _ => And.intro (fun c => absurd c (by decide +kernel)) ?_)
  refine And.intro (fun c => absurd (c.symm.trans h) (by decide +kernel)) (fun _ => ?_)
  refine And.intro (fun c => absurd (c.symm.trans h) (by decide +kernel)) (fun _ => ?_)
  refine And.intro (fun c => absurd (c.symm.trans h) (by decide +kernel)) (fun _ => ?_)
  refine And.intro (fun c => absurd (c.symm.trans h) (by decide +kernel)) (fun _ => ?_)
  refine And.intro (fun c => absurd (c.symm.trans h) (by decide +kernel)) (fun _ => ?_)
  refine And.intro (fun c => absurd (c.symm.trans h) (by decide +kernel)) (fun _ => ?_)
  refine And.intro (fun c => absurd (c.symm.trans h) (by decide +kernel)) (fun _ => ?_)
  refine And.intro (fun _ => ?_) (fun c => absurd h c)
  refine And.intro (fun c => absurd c (by decide +kernel)) ?_
  refine Or.inl ?_
  repeat' first
    | exact True.intro
    | refine And.intro ?_ ?_
    | (refine fun c => absurd c ?_; rw [e]; decide +kernel)
    | (refine fun c => absurd ?_ c; rw [e]; decide +kernel)
    | (rw [e]; decide +kernel)
    | (refine fun c => absurd c ?_; decide +kernel)
    | (refine fun c => absurd ?_ c; decide +kernel)
    | (refine fun (y : Int32) (hy : y = _) => ?_; cases hy)
    | (refine fun (y : Int64) (hy : y = _) => ?_; cases hy)
    | (refine fun (y : Nat) (hy : y = _) => ?_; cases hy)
    | (refine fun (y : Nat) (hy : _ = some y) => ?_; cases hy)
    | intro _
    | refine Exists.intro 64 (And.intro (by decide) (And.intro (by decide) ?_))
    | refine Exists.intro 600 ?_
    | decide +kernel
    | (unfold zb; decide +kernel)
set_option maxHeartbeats 20000000 in
set_option maxRecDepth 100000 in
theorem pc_abn {xs : Nat → Int32} (h : ((xs (0 : Int32).toNatClampNeg) &&& (7 : Int32)) = (7 : Int32)) (e : (xs ((0 : Int32) + (1 : Int32)).toNatClampNeg) < 0) : lw_pure 5 xs 2 := by
  unfold lw_pure
  refine And.intro (fun _ => True.intro) (fun _ => And.intro (fun c => absurd c (by decide +kernel)) ?_)
  refine And.intro (fun c => absurd (c.symm.trans h) (by decide +kernel)) (fun _ => ?_)
  refine And.intro (fun c => absurd (c.symm.trans h) (by decide +kernel)) (fun _ => ?_)
  refine And.intro (fun c => absurd (c.symm.trans h) (by decide +kernel)) (fun _ => ?_)
  refine And.intro (fun c => absurd (c.symm.trans h) (by decide +kernel)) (fun _ => ?_)
  refine And.intro (fun c => absurd (c.symm.trans h) (by decide +kernel)) (fun _ => ?_)
  refine And.intro (fun c => absurd (c.symm.trans h) (by decide +kernel)) (fun _ => ?_)
  refine And.intro (fun c => absurd (c.symm.trans h) (by decide +kernel)) (fun _ => ?_)
  refine And.intro (fun _ => ?_) (fun c => absurd h c)
  refine And.intro (fun c => absurd c (by decide +kernel)) ?_
  refine Or.inr ?_
  repeat' first
    | exact True.intro
    | refine And.intro ?_ ?_
    | (refine fun c => absurd c ?_; exact not_not_intro e)
    | (refine fun c => absurd ?_ c; exact e)
    | (refine fun c => absurd c ?_; exact e)
    | (refine fun c => absurd c ?_; decide +kernel)
    | (refine fun c => absurd ?_ c; decide +kernel)
    | (refine fun (y : Int32) (hy : y = _) => ?_; cases hy)
    | (refine fun (y : Int64) (hy : y = _) => ?_; cases hy)
    | (refine fun (y : Nat) (hy : y = _) => ?_; cases hy)
    | (refine fun (y : Nat) (hy : _ = some y) => ?_; cases hy)
    | intro _
    | refine Exists.intro 64 (And.intro (by decide) (And.intro (by decide) ?_))
    | refine Exists.intro 600 ?_
    | decide +kernel
    | (unfold zb; decide +kernel)
set_option maxHeartbeats 20000000 in
set_option maxRecDepth 100000 in
theorem pc_abp {xs : Nat → Int32} (h : ((xs (0 : Int32).toNatClampNeg) &&& (7 : Int32)) = (7 : Int32)) (e0 : ¬ (xs ((0 : Int32) + (1 : Int32)).toNatClampNeg) < 0) (e : ¬ (xs ((0 : Int32) + (1 : Int32)).toNatClampNeg) ≤ (5 : Int32)) : lw_pure 5 xs 2 := by
  unfold lw_pure
  refine And.intro (fun _ => True.intro) (fun _ => And.intro (fun c => absurd c (by decide +kernel)) ?_)
  refine And.intro (fun c => absurd (c.symm.trans h) (by decide +kernel)) (fun _ => ?_)
  refine And.intro (fun c => absurd (c.symm.trans h) (by decide +kernel)) (fun _ => ?_)
  refine And.intro (fun c => absurd (c.symm.trans h) (by decide +kernel)) (fun _ => ?_)
  refine And.intro (fun c => absurd (c.symm.trans h) (by decide +kernel)) (fun _ => ?_)
  refine And.intro (fun c => absurd (c.symm.trans h) (by decide +kernel)) (fun _ => ?_)
  refine And.intro (fun c => absurd (c.symm.trans h) (by decide +kernel)) (fun _ => ?_)
  refine And.intro (fun c => absurd (c.symm.trans h) (by decide +kernel)) (fun _ => ?_)
  refine And.intro (fun _ => ?_) (fun c => absurd h c)
  refine And.intro (fun c => absurd c (by decide +kernel)) ?_
  refine Or.inr ?_
  repeat' first
    | exact True.intro
    | refine And.intro ?_ ?_
    | (refine fun c => absurd c ?_; exact not_not_intro e)
    | (refine fun c => absurd ?_ c; exact e)
    | (refine fun c => absurd c ?_; exact e)
    | (refine fun c => absurd c ?_; exact e0)
    | (refine fun c => absurd c ?_; decide +kernel)
    | (refine fun c => absurd ?_ c; decide +kernel)
    | (refine fun (y : Int32) (hy : y = _) => ?_; cases hy)
    | (refine fun (y : Int64) (hy : y = _) => ?_; cases hy)
    | (refine fun (y : Nat) (hy : y = _) => ?_; cases hy)
    | (refine fun (y : Nat) (hy : _ = some y) => ?_; cases hy)
    | intro _
    | refine Exists.intro 64 (And.intro (by decide) (And.intro (by decide) ?_))
    | refine Exists.intro 600 ?_
    | decide +kernel
    | (unfold zb; decide +kernel)

