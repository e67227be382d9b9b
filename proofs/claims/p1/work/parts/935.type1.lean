set_option maxHeartbeats 20000000 in
set_option maxRecDepth 100000 in
theorem pt_zgzl {xs : Nat → Int32} (h : ((xs (0 : Int32).toNatClampNeg) &&& (7 : Int32)) = (0 : Int32)) {c0 : Int32} (hn0 : (((xs ((0 : Int32) + (1 : Int32)).toNatClampNeg).toUInt32 >>> ((24 : Int32).toUInt32 &&& Int32.toUInt32 31)).toInt32 &&& (255 : Int32)) = c0) (hm0 : (((xs ((0 : Int32) + (1 : Int32)).toNatClampNeg) >>> ((24 : Int32) &&& 31)) &&& (255 : Int32)) = c0) {c1 : Int32} (hn1 : (((xs ((0 : Int32) + (1 : Int32)).toNatClampNeg).toUInt32 >>> (((24 : Int32) + (-8 : Int32)).toUInt32 &&& Int32.toUInt32 31)).toInt32 &&& (255 : Int32)) = c1) (hm1 : (((xs ((0 : Int32) + (1 : Int32)).toNatClampNeg) >>> (((24 : Int32) + (-8 : Int32)) &&& 31)) &&& (255 : Int32)) = c1) {c2 : Int32} (hn2 : (((xs ((0 : Int32) + (1 : Int32)).toNatClampNeg).toUInt32 >>> ((((24 : Int32) + (-8 : Int32)) + (-8 : Int32)).toUInt32 &&& Int32.toUInt32 31)).toInt32 &&& (255 : Int32)) = c2) (hm2 : (((xs ((0 : Int32) + (1 : Int32)).toNatClampNeg) >>> ((((24 : Int32) + (-8 : Int32)) + (-8 : Int32)) &&& 31)) &&& (255 : Int32)) = c2) {c3 : Int32} (hn3 : (((xs ((0 : Int32) + (1 : Int32)).toNatClampNeg).toUInt32 >>> (((((24 : Int32) + (-8 : Int32)) + (-8 : Int32)) + (-8 : Int32)).toUInt32 &&& Int32.toUInt32 31)).toInt32 &&& (255 : Int32)) = c3) (hm3 : (((xs ((0 : Int32) + (1 : Int32)).toNatClampNeg) >>> (((((24 : Int32) + (-8 : Int32)) + (-8 : Int32)) + (-8 : Int32)) &&& 31)) &&& (255 : Int32)) = c3) (z0 : c0 = 0) (p1 : ¬ c1 = 0) (q1 : ¬ c1 ≤ 0) (r1 : ¬ c1 < 32) (s1 : c1 ≤ 126) (z2 : c2 = 0) (p3 : ¬ c3 = 0) (q3 : ¬ c3 ≤ 0) (r3 : c3 < 32) : lw_pure 5 xs 2 := by
  subst z0
  subst z2
  unfold lw_pure
  refine And.intro (fun _ => True.intro) (fun _ => And.intro (fun c => absurd c (by decide +kernel)) ?_)
  refine And.intro (fun _ => ?_) (fun c => absurd h c)
  refine And.intro (fun c => absurd c (by decide +kernel)) ?_
  refine Or.inr (Or.inl ?_)
  repeat' first
    | exact True.intro
    | refine And.intro ?_ ?_
    | (refine fun c => absurd c ?_; assumption)
    | (refine fun c => absurd ?_ c; assumption)
    | (refine fun (y : Int32) (hy : y = _) => ?_; rw [hn0] at hy; subst hy)
    | (refine fun (y : Int32) (hy : y = _) => ?_; rw [hn1] at hy; subst hy)
    | (refine fun (y : Int32) (hy : y = _) => ?_; rw [hn2] at hy; subst hy)
    | (refine fun (y : Int32) (hy : y = _) => ?_; rw [hn3] at hy; subst hy)
    | (refine fun (y : Int32) (hy : y = _) => ?_; rw [hm0] at hy; subst hy)
    | (refine fun (y : Int32) (hy : y = _) => ?_; rw [hm1] at hy; subst hy)
    | (refine fun (y : Int32) (hy : y = _) => ?_; rw [hm2] at hy; subst hy)
    | (refine fun (y : Int32) (hy : y = _) => ?_; rw [hm3] at hy; subst hy)
    | (refine fun c => absurd ?_ c; dsimp only; decide +kernel)
    | (refine fun c => absurd c ?_; dsimp only; decide +kernel)
    | (refine fun c => absurd c ?_; decide +kernel)
    | (refine fun c => absurd ?_ c; decide +kernel)
    | (refine fun (y : Int32) (hy : y = _) => ?_; cases hy)
    | (refine fun (y : Int64) (hy : y = _) => ?_; cases hy)
    | (refine fun (y : Nat) (hy : y = _) => ?_; cases hy)
    | (refine fun (y : Nat) (hy : _ = some y) => ?_; cases hy)
    | intro _
    | refine Exists.intro 64 (And.intro (by decide) (And.intro (by decide) ?_))
    | refine Exists.intro 600 ?_
    | decide +kernel
    | (unfold zb; decide +kernel)
set_option maxHeartbeats 20000000 in
set_option maxRecDepth 100000 in
theorem pt_zgzu {xs : Nat → Int32} (h : ((xs (0 : Int32).toNatClampNeg) &&& (7 : Int32)) = (0 : Int32)) {c0 : Int32} (hn0 : (((xs ((0 : Int32) + (1 : Int32)).toNatClampNeg).toUInt32 >>> ((24 : Int32).toUInt32 &&& Int32.toUInt32 31)).toInt32 &&& (255 : Int32)) = c0) (hm0 : (((xs ((0 : Int32) + (1 : Int32)).toNatClampNeg) >>> ((24 : Int32) &&& 31)) &&& (255 : Int32)) = c0) {c1 : Int32} (hn1 : (((xs ((0 : Int32) + (1 : Int32)).toNatClampNeg).toUInt32 >>> (((24 : Int32) + (-8 : Int32)).toUInt32 &&& Int32.toUInt32 31)).toInt32 &&& (255 : Int32)) = c1) (hm1 : (((xs ((0 : Int32) + (1 : Int32)).toNatClampNeg) >>> (((24 : Int32) + (-8 : Int32)) &&& 31)) &&& (255 : Int32)) = c1) {c2 : Int32} (hn2 : (((xs ((0 : Int32) + (1 : Int32)).toNatClampNeg).toUInt32 >>> ((((24 : Int32) + (-8 : Int32)) + (-8 : Int32)).toUInt32 &&& Int32.toUInt32 31)).toInt32 &&& (255 : Int32)) = c2) (hm2 : (((xs ((0 : Int32) + (1 : Int32)).toNatClampNeg) >>> ((((24 : Int32) + (-8 : Int32)) + (-8 : Int32)) &&& 31)) &&& (255 : Int32)) = c2) {c3 : Int32} (hn3 : (((xs ((0 : Int32) + (1 : Int32)).toNatClampNeg).toUInt32 >>> (((((24 : Int32) + (-8 : Int32)) + (-8 : Int32)) + (-8 : Int32)).toUInt32 &&& Int32.toUInt32 31)).toInt32 &&& (255 : Int32)) = c3) (hm3 : (((xs ((0 : Int32) + (1 : Int32)).toNatClampNeg) >>> (((((24 : Int32) + (-8 : Int32)) + (-8 : Int32)) + (-8 : Int32)) &&& 31)) &&& (255 : Int32)) = c3) (z0 : c0 = 0) (p1 : ¬ c1 = 0) (q1 : ¬ c1 ≤ 0) (r1 : ¬ c1 < 32) (s1 : c1 ≤ 126) (z2 : c2 = 0) (p3 : ¬ c3 = 0) (q3 : ¬ c3 ≤ 0) (r3 : ¬ c3 < 32) (s3 : ¬ c3 ≤ 126) : lw_pure 5 xs 2 := by
  subst z0
  subst z2
  unfold lw_pure
  refine And.intro (fun _ => True.intro) (fun _ => And.intro (fun c => absurd c (by decide +kernel)) ?_)
  refine And.intro (fun _ => ?_) (fun c => absurd h c)
  refine And.intro (fun c => absurd c (by decide +kernel)) ?_
  refine Or.inr (Or.inl ?_)
  repeat' first
    | exact True.intro
    | refine And.intro ?_ ?_
    | (refine fun c => absurd c ?_; assumption)
    | (refine fun c => absurd ?_ c; assumption)
    | (refine fun (y : Int32) (hy : y = _) => ?_; rw [hn0] at hy; subst hy)
    | (refine fun (y : Int32) (hy : y = _) => ?_; rw [hn1] at hy; subst hy)
    | (refine fun (y : Int32) (hy : y = _) => ?_; rw [hn2] at hy; subst hy)
    | (refine fun (y : Int32) (hy : y = _) => ?_; rw [hn3] at hy; subst hy)
    | (refine fun (y : Int32) (hy : y = _) => ?_; rw [hm0] at hy; subst hy)
    | (refine fun (y : Int32) (hy : y = _) => ?_; rw [hm1] at hy; subst hy)
    | (refine fun (y : Int32) (hy : y = _) => ?_; rw [hm2] at hy; subst hy)
    | (refine fun (y : Int32) (hy : y = _) => ?_; rw [hm3] at hy; subst hy)
    | (refine fun c => absurd ?_ c; dsimp only; decide +kernel)
    | (refine fun c => absurd c ?_; dsimp only; decide +kernel)
    | (refine fun c => absurd c ?_; decide +kernel)
    | (refine fun c => absurd ?_ c; decide +kernel)
    | (refine fun (y : Int32) (hy : y = _) => ?_; cases hy)
    | (refine fun (y : Int64) (hy : y = _) => ?_; cases hy)
    | (refine fun (y : Nat) (hy : y = _) => ?_; cases hy)
    | (refine fun (y : Nat) (hy : _ = some y) => ?_; cases hy)
    | intro _
    | refine Exists.intro 64 (And.intro (by decide) (And.intro (by decide) ?_))
    | refine Exists.intro 600 ?_
    | decide +kernel
    | (unfold zb; decide +kernel)
set_option maxHeartbeats 20000000 in
set_option maxRecDepth 100000 in
theorem pt_zgzz {xs : Nat → Int32} (h : ((xs (0 : Int32).toNatClampNeg) &&& (7 : Int32)) = (0 : Int32)) {c0 : Int32} (hn0 : (((xs ((0 : Int32) + (1 : Int32)).toNatClampNeg).toUInt32 >>> ((24 : Int32).toUInt32 &&& Int32.toUInt32 31)).toInt32 &&& (255 : Int32)) = c0) (hm0 : (((xs ((0 : Int32) + (1 : Int32)).toNatClampNeg) >>> ((24 : Int32) &&& 31)) &&& (255 : Int32)) = c0) {c1 : Int32} (hn1 : (((xs ((0 : Int32) + (1 : Int32)).toNatClampNeg).toUInt32 >>> (((24 : Int32) + (-8 : Int32)).toUInt32 &&& Int32.toUInt32 31)).toInt32 &&& (255 : Int32)) = c1) (hm1 : (((xs ((0 : Int32) + (1 : Int32)).toNatClampNeg) >>> (((24 : Int32) + (-8 : Int32)) &&& 31)) &&& (255 : Int32)) = c1) {c2 : Int32} (hn2 : (((xs ((0 : Int32) + (1 : Int32)).toNatClampNeg).toUInt32 >>> ((((24 : Int32) + (-8 : Int32)) + (-8 : Int32)).toUInt32 &&& Int32.toUInt32 31)).toInt32 &&& (255 : Int32)) = c2) (hm2 : (((xs ((0 : Int32) + (1 : Int32)).toNatClampNeg) >>> ((((24 : Int32) + (-8 : Int32)) + (-8 : Int32)) &&& 31)) &&& (255 : Int32)) = c2) {c3 : Int32} (hn3 : (((xs ((0 : Int32) + (1 : Int32)).toNatClampNeg).toUInt32 >>> (((((24 : Int32) + (-8 : Int32)) + (-8 : Int32)) + (-8 : Int32)).toUInt32 &&& Int32.toUInt32 31)).toInt32 &&& (255 : Int32)) = c3) (hm3 : (((xs ((0 : Int32) + (1 : Int32)).toNatClampNeg) >>> (((((24 : Int32) + (-8 : Int32)) + (-8 : Int32)) + (-8 : Int32)) &&& 31)) &&& (255 : Int32)) = c3) (z0 : c0 = 0) (p1 : ¬ c1 = 0) (q1 : ¬ c1 ≤ 0) (r1 : ¬ c1 < 32) (s1 : c1 ≤ 126) (z2 : c2 = 0) (z3 : c3 = 0) : lw_pure 5 xs 2 := by
  subst z0
  subst z2
  subst z3
  unfold lw_pure
  refine And.intro (fun _ => True.intro) (fun _ => And.intro (fun c => absurd c (by decide +kernel)) ?_)
  refine And.intro (fun _ => ?_) (fun c => absurd h c)
  refine And.intro (fun c => absurd c (by decide +kernel)) ?_
  refine Or.inl ?_
  repeat' first
    | exact True.intro
    | refine And.intro ?_ ?_
    | (refine fun c => absurd c ?_; assumption)
    | (refine fun c => absurd ?_ c; assumption)
    | (refine fun (y : Int32) (hy : y = _) => ?_; rw [hn0] at hy; subst hy)
    | (refine fun (y : Int32) (hy : y = _) => ?_; rw [hn1] at hy; subst hy)
    | (refine fun (y : Int32) (hy : y = _) => ?_; rw [hn2] at hy; subst hy)
    | (refine fun (y : Int32) (hy : y = _) => ?_; rw [hn3] at hy; subst hy)
    | (refine fun (y : Int32) (hy : y = _) => ?_; rw [hm0] at hy; subst hy)
    | (refine fun (y : Int32) (hy : y = _) => ?_; rw [hm1] at hy; subst hy)
    | (refine fun (y : Int32) (hy : y = _) => ?_; rw [hm2] at hy; subst hy)
    | (refine fun (y : Int32) (hy : y = _) => ?_; rw [hm3] at hy; subst hy)
    | (refine fun c => absurd ?_ c; dsimp only; decide +kernel)
    | (refine fun c => absurd c ?_; dsimp only; decide +kernel)
    | (refine fun c => absurd c ?_; decide +kernel)
    | (refine fun c => absurd ?_ c; decide +kernel)
    | (refine fun (y : Int32) (hy : y = _) => ?_; cases hy)
    | (refine fun (y : Int64) (hy : y = _) => ?_; cases hy)
    | (refine fun (y : Nat) (hy : y = _) => ?_; cases hy)
    | (refine fun (y : Nat) (hy : _ = some y) => ?_; cases hy)
    | intro _
    | refine Exists.intro 64 (And.intro (by decide) (And.intro (by decide) ?_))
    | refine Exists.intro 600 ?_
    | decide +kernel
    | (unfold zb; decide +kernel)
set_option maxHeartbeats 20000000 in
set_option maxRecDepth 100000 in
theorem pt_zgzg {xs : Nat → Int32} (h : ((xs (0 : Int32).toNatClampNeg) &&& (7 : Int32)) = (0 : Int32)) {c0 : Int32} (hn0 : (((xs ((0 : Int32) + (1 : Int32)).toNatClampNeg).toUInt32 >>> ((24 : Int32).toUInt32 &&& Int32.toUInt32 31)).toInt32 &&& (255 : Int32)) = c0) (hm0 : (((xs ((0 : Int32) + (1 : Int32)).toNatClampNeg) >>> ((24 : Int32) &&& 31)) &&& (255 : Int32)) = c0) {c1 : Int32} (hn1 : (((xs ((0 : Int32) + (1 : Int32)).toNatClampNeg).toUInt32 >>> (((24 : Int32) + (-8 : Int32)).toUInt32 &&& Int32.toUInt32 31)).toInt32 &&& (255 : Int32)) = c1) (hm1 : (((xs ((0 : Int32) + (1 : Int32)).toNatClampNeg) >>> (((24 : Int32) + (-8 : Int32)) &&& 31)) &&& (255 : Int32)) = c1) {c2 : Int32} (hn2 : (((xs ((0 : Int32) + (1 : Int32)).toNatClampNeg).toUInt32 >>> ((((24 : Int32) + (-8 : Int32)) + (-8 : Int32)).toUInt32 &&& Int32.toUInt32 31)).toInt32 &&& (255 : Int32)) = c2) (hm2 : (((xs ((0 : Int32) + (1 : Int32)).toNatClampNeg) >>> ((((24 : Int32) + (-8 : Int32)) + (-8 : Int32)) &&& 31)) &&& (255 : Int32)) = c2) {c3 : Int32} (hn3 : (((xs ((0 : Int32) + (1 : Int32)).toNatClampNeg).toUInt32 >>> (((((24 : Int32) + (-8 : Int32)) + (-8 : Int32)) + (-8 : Int32)).toUInt32 &&& Int32.toUInt32 31)).toInt32 &&& (255 : Int32)) = c3) (hm3 : (((xs ((0 : Int32) + (1 : Int32)).toNatClampNeg) >>> (((((24 : Int32) + (-8 : Int32)) + (-8 : Int32)) + (-8 : Int32)) &&& 31)) &&& (255 : Int32)) = c3) (z0 : c0 = 0) (p1 : ¬ c1 = 0) (q1 : ¬ c1 ≤ 0) (r1 : ¬ c1 < 32) (s1 : c1 ≤ 126) (z2 : c2 = 0) (p3 : ¬ c3 = 0) (q3 : ¬ c3 ≤ 0) (r3 : ¬ c3 < 32) (s3 : c3 ≤ 126) : lw_pure 5 xs 2 := by
  subst z0
  subst z2
  unfold lw_pure
  refine And.intro (fun _ => True.intro) (fun _ => And.intro (fun c => absurd c (by decide +kernel)) ?_)
  refine And.intro (fun _ => ?_) (fun c => absurd h c)
  refine And.intro (fun c => absurd c (by decide +kernel)) ?_
  refine Or.inl ?_
  repeat' first
    | exact True.intro
    | refine And.intro ?_ ?_
    | (refine fun c => absurd c ?_; assumption)
    | (refine fun c => absurd ?_ c; assumption)
    | (refine fun (y : Int32) (hy : y = _) => ?_; rw [hn0] at hy; subst hy)
    | (refine fun (y : Int32) (hy : y = _) => ?_; rw [hn1] at hy; subst hy)
    | (refine fun (y : Int32) (hy : y = _) => ?_; rw [hn2] at hy; subst hy)
    | (refine fun (y : Int32) (hy : y = _) => ?_; rw [hn3] at hy; subst hy)
    | (refine fun (y : Int32) (hy : y = _) => ?_; rw [hm0] at hy; subst hy)
    | (refine fun (y : Int32) (hy : y = _) => ?_; rw [hm1] at hy; subst hy)
    | (refine fun (y : Int32) (hy : y = _) => ?_; rw [hm2] at hy; subst hy)
    | (refine fun (y : Int32) (hy : y = _) => ?_; rw [hm3] at hy; subst hy)
    | (refine fun c => absurd ?_ c; dsimp only; decide +kernel)
    | (refine fun c => absurd c ?_; dsimp only; decide +kernel)
    | (refine fun c => absurd c ?_; decide +kernel)
    | (refine fun c => absurd ?_ c; decide +kernel)
    | (refine fun (y : Int32) (hy : y = _) => ?_; cases hy)
    | (refine fun (y : Int64) (hy : y = _) => ?_; cases hy)
    | (refine fun (y : Nat) (hy : y = _) => ?_; cases hy)
    | (refine fun (y : Nat) (hy : _ = some y) => ?_; cases hy)
    | intro _
    | refine Exists.intro 64 (And.intro (by decide) (And.intro (by decide) ?_))
    | refine Exists.intro 600 ?_
    | decide +kernel
    | (unfold zb; decide +kernel)
set_option maxHeartbeats 20000000 in
set_option maxRecDepth 100000 in
theorem pt_zggl {xs : Nat → Int32} (h : ((xs (0 : Int32).toNatClampNeg) &&& (7 : Int32)) = (0 : Int32)) {c0 : Int32} (hn0 : (((xs ((0 : Int32) + (1 : Int32)).toNatClampNeg).toUInt32 >>> ((24 : Int32).toUInt32 &&& Int32.toUInt32 31)).toInt32 &&& (255 : Int32)) = c0) (hm0 : (((xs ((0 : Int32) + (1 : Int32)).toNatClampNeg) >>> ((24 : Int32) &&& 31)) &&& (255 : Int32)) = c0) {c1 : Int32} (hn1 : (((xs ((0 : Int32) + (1 : Int32)).toNatClampNeg).toUInt32 >>> (((24 : Int32) + (-8 : Int32)).toUInt32 &&& Int32.toUInt32 31)).toInt32 &&& (255 : Int32)) = c1) (hm1 : (((xs ((0 : Int32) + (1 : Int32)).toNatClampNeg) >>> (((24 : Int32) + (-8 : Int32)) &&& 31)) &&& (255 : Int32)) = c1) {c2 : Int32} (hn2 : (((xs ((0 : Int32) + (1 : Int32)).toNatClampNeg).toUInt32 >>> ((((24 : Int32) + (-8 : Int32)) + (-8 : Int32)).toUInt32 &&& Int32.toUInt32 31)).toInt32 &&& (255 : Int32)) = c2) (hm2 : (((xs ((0 : Int32) + (1 : Int32)).toNatClampNeg) >>> ((((24 : Int32) + (-8 : Int32)) + (-8 : Int32)) &&& 31)) &&& (255 : Int32)) = c2) {c3 : Int32} (hn3 : (((xs ((0 : Int32) + (1 : Int32)).toNatClampNeg).toUInt32 >>> (((((24 : Int32) + (-8 : Int32)) + (-8 : Int32)) + (-8 : Int32)).toUInt32 &&& Int32.toUInt32 31)).toInt32 &&& (255 : Int32)) = c3) (hm3 : (((xs ((0 : Int32) + (1 : Int32)).toNatClampNeg) >>> (((((24 : Int32) + (-8 : Int32)) + (-8 : Int32)) + (-8 : Int32)) &&& 31)) &&& (255 : Int32)) = c3) (z0 : c0 = 0) (p1 : ¬ c1 = 0) (q1 : ¬ c1 ≤ 0) (r1 : ¬ c1 < 32) (s1 : c1 ≤ 126) (p2 : ¬ c2 = 0) (q2 : ¬ c2 ≤ 0) (r2 : ¬ c2 < 32) (s2 : c2 ≤ 126) (p3 : ¬ c3 = 0) (q3 : ¬ c3 ≤ 0) (r3 : c3 < 32) : lw_pure 5 xs 2 := by
  subst z0
  unfold lw_pure
  refine And.intro (fun _ => True.intro) (fun _ => And.intro (fun c => absurd c (by decide +kernel)) ?_)
  refine And.intro (fun _ => ?_) (fun c => absurd h c)
  refine And.intro (fun c => absurd c (by decide +kernel)) ?_
  refine Or.inr (Or.inl ?_)
  repeat' first
    | exact True.intro
    | refine And.intro ?_ ?_
    | (refine fun c => absurd c ?_; assumption)
    | (refine fun c => absurd ?_ c; assumption)
    | (refine fun (y : Int32) (hy : y = _) => ?_; rw [hn0] at hy; subst hy)
    | (refine fun (y : Int32) (hy : y = _) => ?_; rw [hn1] at hy; subst hy)
    | (refine fun (y : Int32) (hy : y = _) => ?_; rw [hn2] at hy; subst hy)
    | (refine fun (y : Int32) (hy : y = _) => ?_; rw [hn3] at hy; subst hy)
    | (refine fun (y : Int32) (hy : y = _) => ?_; rw [hm0] at hy; subst hy)
    | (refine fun (y : Int32) (hy : y = _) => ?_; rw [hm1] at hy; subst hy)
    | (refine fun (y : Int32) (hy : y = _) => ?_; rw [hm2] at hy; subst hy)
    | (refine fun (y : Int32) (hy : y = _) => ?_; rw [hm3] at hy; subst hy)
    | (refine fun c => absurd ?_ c; dsimp only; decide +kernel)
    | (refine fun c => absurd c ?_; dsimp only; decide +kernel)
    | (refine fun c => absurd c ?_; decide +kernel)
    | (refine fun c => absurd ?_ c; decide +kernel)
    | (refine fun (y : Int32) (hy : y = _) => ?_; cases hy)
    | (refine fun (y : Int64) (hy : y = _) => ?_; cases hy)
    | (refine fun (y : Nat) (hy : y = _) => ?_; cases hy)
    | (refine fun (y : Nat) (hy : _ = some y) => ?_; cases hy)
    | intro _
    | refine Exists.intro 64 (And.intro (by decide) (And.intro (by decide) ?_))
    | refine Exists.intro 600 ?_
    | decide +kernel
    | (unfold zb; decide +kernel)
set_option maxHeartbeats 20000000 in
set_option maxRecDepth 100000 in
theorem pt_zggu {xs : Nat → Int32} (h : ((xs (0 : Int32).toNatClampNeg) &&& (7 : Int32)) = (0 : Int32)) {c0 : Int32} (hn0 : (((xs ((0 : Int32) + (1 : Int32)).toNatClampNeg).toUInt32 >>> ((24 : Int32).toUInt32 &&& Int32.toUInt32 31)).toInt32 &&& (255 : Int32)) = c0) (hm0 : (((xs ((0 : Int32) + (1 : Int32)).toNatClampNeg) >>> ((24 : Int32) &&& 31)) &&& (255 : Int32)) = c0) {c1 : Int32} (hn1 : (((xs ((0 : Int32) + (1 : Int32)).toNatClampNeg).toUInt32 >>> (((24 : Int32) + (-8 : Int32)).toUInt32 &&& Int32.toUInt32 31)).toInt32 &&& (255 : Int32)) = c1) (hm1 : (((xs ((0 : Int32) + (1 : Int32)).toNatClampNeg) >>> (((24 : Int32) + (-8 : Int32)) &&& 31)) &&& (255 : Int32)) = c1) {c2 : Int32} (hn2 : (((xs ((0 : Int32) + (1 : Int32)).toNatClampNeg).toUInt32 >>> ((((24 : Int32) + (-8 : Int32)) + (-8 : Int32)).toUInt32 &&& Int32.toUInt32 31)).toInt32 &&& (255 : Int32)) = c2) (hm2 : (((xs ((0 : Int32) + (1 : Int32)).toNatClampNeg) >>> ((((24 : Int32) + (-8 : Int32)) + (-8 : Int32)) &&& 31)) &&& (255 : Int32)) = c2) {c3 : Int32} (hn3 : (((xs ((0 : Int32) + (1 : Int32)).toNatClampNeg).toUInt32 >>> (((((24 : Int32) + (-8 : Int32)) + (-8 : Int32)) + (-8 : Int32)).toUInt32 &&& Int32.toUInt32 31)).toInt32 &&& (255 : Int32)) = c3) (hm3 : (((xs ((0 : Int32) + (1 : Int32)).toNatClampNeg) >>> (((((24 : Int32) + (-8 : Int32)) + (-8 : Int32)) + (-8 : Int32)) &&& 31)) &&& (255 : Int32)) = c3) (z0 : c0 = 0) (p1 : ¬ c1 = 0) (q1 : ¬ c1 ≤ 0) (r1 : ¬ c1 < 32) (s1 : c1 ≤ 126) (p2 : ¬ c2 = 0) (q2 : ¬ c2 ≤ 0) (r2 : ¬ c2 < 32) (s2 : c2 ≤ 126) (p3 : ¬ c3 = 0) (q3 : ¬ c3 ≤ 0) (r3 : ¬ c3 < 32) (s3 : ¬ c3 ≤ 126) : lw_pure 5 xs 2 := by
  subst z0
  unfold lw_pure
  refine And.intro (fun _ => True.intro) (fun _ => And.intro (fun c => absurd c (by decide +kernel)) ?_)
  refine And.intro (fun _ => ?_) (fun c => absurd h c)
  refine And.intro (fun c => absurd c (by decide +kernel)) ?_
  refine Or.inr (Or.inl ?_)
  repeat' first
    | exact True.intro
    | refine And.intro ?_ ?_
    | (refine fun c => absurd c ?_; assumption)
    | (refine fun c => absurd ?_ c; assumption)
    | (refine fun (y : Int32) (hy : y = _) => ?_; rw [hn0] at hy; subst hy)
    | (refine fun (y : Int32) (hy : y = _) => ?_; rw [hn1] at hy; subst hy)
    | (refine fun (y : Int32) (hy : y = _) => ?_; rw [hn2] at hy; subst hy)
    | (refine fun (y : Int32) (hy : y = _) => ?_; rw [hn3] at hy; subst hy)
    | (refine fun (y : Int32) (hy : y = _) => ?_; rw [hm0] at hy; subst hy)
    | (refine fun (y : Int32) (hy : y = _) => ?_; rw [hm1] at hy; subst hy)
    | (refine fun (y : Int32) (hy : y = _) => ?_; rw [hm2] at hy; subst hy)
    | (refine fun (y : Int32) (hy : y = _) => ?_; rw [hm3] at hy; subst hy)
    | (refine fun c => absurd ?_ c; dsimp only; decide +kernel)
    | (refine fun c => absurd c ?_; dsimp only; decide +kernel)
    | (refine fun c => absurd c ?_; decide +kernel)
    | (refine fun c => absurd ?_ c; decide +kernel)
    | (refine fun (y : Int32) (hy : y = _) => ?_; cases hy)
    | (refine fun (y : Int64) (hy : y = _) => ?_; cases hy)
    | (refine fun (y : Nat) (hy : y = _) => ?_; cases hy)
    | (refine fun (y : Nat) (hy : _ = some y) => ?_; cases hy)
    | intro _
    | refine Exists.intro 64 (And.intro (by decide) (And.intro (by decide) ?_))
    | refine Exists.intro 600 ?_
    | decide +kernel
    | (unfold zb; decide +kernel)
set_option maxHeartbeats 20000000 in
set_option maxRecDepth 100000 in
theorem pt_zggz {xs : Nat → Int32} (h : ((xs (0 : Int32).toNatClampNeg) &&& (7 : Int32)) = (0 : Int32)) {c0 : Int32} (hn0 : (((xs ((0 : Int32) + (1 : Int32)).toNatClampNeg).toUInt32 >>> ((24 : Int32).toUInt32 &&& Int32.toUInt32 31)).toInt32 &&& (255 : Int32)) = c0) (hm0 : (((xs ((0 : Int32) + (1 : Int32)).toNatClampNeg) >>> ((24 : Int32) &&& 31)) &&& (255 : Int32)) = c0) {c1 : Int32} (hn1 : (((xs ((0 : Int32) + (1 : Int32)).toNatClampNeg).toUInt32 >>> (((24 : Int32) + (-8 : Int32)).toUInt32 &&& Int32.toUInt32 31)).toInt32 &&& (255 : Int32)) = c1) (hm1 : (((xs ((0 : Int32) + (1 : Int32)).toNatClampNeg) >>> (((24 : Int32) + (-8 : Int32)) &&& 31)) &&& (255 : Int32)) = c1) {c2 : Int32} (hn2 : (((xs ((0 : Int32) + (1 : Int32)).toNatClampNeg).toUInt32 >>> ((((24 : Int32) + (-8 : Int32)) + (-8 : Int32)).toUInt32 &&& Int32.toUInt32 31)).toInt32 &&& (255 : Int32)) = c2) (hm2 : (((xs ((0 : Int32) + (1 : Int32)).toNatClampNeg) >>> ((((24 : Int32) + (-8 : Int32)) + (-8 : Int32)) &&& 31)) &&& (255 : Int32)) = c2) {c3 : Int32} (hn3 : (((xs ((0 : Int32) + (1 : Int32)).toNatClampNeg).toUInt32 >>> (((((24 : Int32) + (-8 : Int32)) + (-8 : Int32)) + (-8 : Int32)).toUInt32 &&& Int32.toUInt32 31)).toInt32 &&& (255 : Int32)) = c3) (hm3 : (((xs ((0 : Int32) + (1 : Int32)).toNatClampNeg) >>> (((((24 : Int32) + (-8 : Int32)) + (-8 : Int32)) + (-8 : Int32)) &&& 31)) &&& (255 : Int32)) = c3) (z0 : c0 = 0) (p1 : ¬ c1 = 0) (q1 : ¬ c1 ≤ 0) (r1 : ¬ c1 < 32) (s1 : c1 ≤ 126) (p2 : ¬ c2 = 0) (q2 : ¬ c2 ≤ 0) (r2 : ¬ c2 < 32) (s2 : c2 ≤ 126) (z3 : c3 = 0) : lw_pure 5 xs 2 := by
  subst z0
  subst z3
  unfold lw_pure
  refine And.intro (fun _ => True.intro) (fun _ => And.intro (fun c => absurd c (by decide +kernel)) ?_)
  refine And.intro (fun _ => ?_) (fun c => absurd h c)
  refine And.intro (fun c => absurd c (by decide +kernel)) ?_
  refine Or.inl ?_
  repeat' first
    | exact True.intro
    | refine And.intro ?_ ?_
    | (refine fun c => absurd c ?_; assumption)
    | (refine fun c => absurd ?_ c; assumption)
    | (refine fun (y : Int32) (hy : y = _) => ?_; rw [hn0] at hy; subst hy)
    | (refine fun (y : Int32) (hy : y = _) => ?_; rw [hn1] at hy; subst hy)
    | (refine fun (y : Int32) (hy : y = _) => ?_; rw [hn2] at hy; subst hy)
    | (refine fun (y : Int32) (hy : y = _) => ?_; rw [hn3] at hy; subst hy)
    | (refine fun (y : Int32) (hy : y = _) => ?_; rw [hm0] at hy; subst hy)
    | (refine fun (y : Int32) (hy : y = _) => ?_; rw [hm1] at hy; subst hy)
    | (refine fun (y : Int32) (hy : y = _) => ?_; rw [hm2] at hy; subst hy)
    | (refine fun (y : Int32) (hy : y = _) => ?_; rw [hm3] at hy; subst hy)
    | (refine fun c => absurd ?_ c; dsimp only; decide +kernel)
    | (refine fun c => absurd c ?_; dsimp only; decide +kernel)
    | (refine fun c => absurd c ?_; decide +kernel)
    | (refine fun c => absurd ?_ c; decide +kernel)
    | (refine fun (y : Int32) (hy : y = _) => ?_; cases hy)
    | (refine fun (y : Int64) (hy : y = _) => ?_; cases hy)
    | (refine fun (y : Nat) (hy : y = _) => ?_; cases hy)
    | (refine fun (y : Nat) (hy : _ = some y) => ?_; cases hy)
    | intro _
    | refine Exists.intro 64 (And.intro (by decide) (And.intro (by decide) ?_))
    | refine Exists.intro 600 ?_
    | decide +kernel
    | (unfold zb; decide +kernel)
set_option maxHeartbeats 20000000 in
set_option maxRecDepth 100000 in
theorem pt_zggg {xs : Nat → Int32} (h : ((xs (0 : Int32).toNatClampNeg) &&& (7 : Int32)) = (0 : Int32)) {c0 : Int32} (hn0 : (((xs ((0 : Int32) + (1 : Int32)).toNatClampNeg).toUInt32 >>> ((24 : Int32).toUInt32 &&& Int32.toUInt32 31)).toInt32 &&& (255 : Int32)) = c0) (hm0 : (((xs ((0 : Int32) + (1 : Int32)).toNatClampNeg) >>> ((24 : Int32) &&& 31)) &&& (255 : Int32)) = c0) {c1 : Int32} (hn1 : (((xs ((0 : Int32) + (1 : Int32)).toNatClampNeg).toUInt32 >>> (((24 : Int32) + (-8 : Int32)).toUInt32 &&& Int32.toUInt32 31)).toInt32 &&& (255 : Int32)) = c1) (hm1 : (((xs ((0 : Int32) + (1 : Int32)).toNatClampNeg) >>> (((24 : Int32) + (-8 : Int32)) &&& 31)) &&& (255 : Int32)) = c1) {c2 : Int32} (hn2 : (((xs ((0 : Int32) + (1 : Int32)).toNatClampNeg).toUInt32 >>> ((((24 : Int32) + (-8 : Int32)) + (-8 : Int32)).toUInt32 &&& Int32.toUInt32 31)).toInt32 &&& (255 : Int32)) = c2) (hm2 : (((xs ((0 : Int32) + (1 : Int32)).toNatClampNeg) >>> ((((24 : Int32) + (-8 : Int32)) + (-8 : Int32)) &&& 31)) &&& (255 : Int32)) = c2) {c3 : Int32} (hn3 : (((xs ((0 : Int32) + (1 : Int32)).toNatClampNeg).toUInt32 >>> (((((24 : Int32) + (-8 : Int32)) + (-8 : Int32)) + (-8 : Int32)).toUInt32 &&& Int32.toUInt32 31)).toInt32 &&& (255 : Int32)) = c3) (hm3 : (((xs ((0 : Int32) + (1 : Int32)).toNatClampNeg) >>> (((((24 : Int32) + (-8 : Int32)) + (-8 : Int32)) + (-8 : Int32)) &&& 31)) &&& (255 : Int32)) = c3) (z0 : c0 = 0) (p1 : ¬ c1 = 0) (q1 : ¬ c1 ≤ 0) (r1 : ¬ c1 < 32) (s1 : c1 ≤ 126) (p2 : ¬ c2 = 0) (q2 : ¬ c2 ≤ 0) (r2 : ¬ c2 < 32) (s2 : c2 ≤ 126) (p3 : ¬ c3 = 0) (q3 : ¬ c3 ≤ 0) (r3 : ¬ c3 < 32) (s3 : c3 ≤ 126) : lw_pure 5 xs 2 := by
  subst z0
  unfold lw_pure
  refine And.intro (fun _ => True.intro) (fun _ => And.intro (fun c => absurd c (by decide +kernel)) ?_)
  refine And.intro (fun _ => ?_) (fun c => absurd h c)
  refine And.intro (fun c => absurd c (by decide +kernel)) ?_
  refine Or.inl ?_
  repeat' first
    | exact True.intro
    | refine And.intro ?_ ?_
    | (refine fun c => absurd c ?_; assumption)
    | (refine fun c => absurd ?_ c; assumption)
    | (refine fun (y : Int32) (hy : y = _) => ?_; rw [hn0] at hy; subst hy)
    | (refine fun (y : Int32) (hy : y = _) => ?_; rw [hn1] at hy; subst hy)
    | (refine fun (y : Int32) (hy : y = _) => ?_; rw [hn2] at hy; subst hy)
    | (refine fun (y : Int32) (hy : y = _) => ?_; rw [hn3] at hy; subst hy)
    | (refine fun (y : Int32) (hy : y = _) => ?_; rw [hm0] at hy; subst hy)
    | (refine fun (y : Int32) (hy : y = _) => ?_; rw [hm1] at hy; subst hy)
    | (refine fun (y : Int32) (hy : y = _) => ?_; rw [hm2] at hy; subst hy)
    | (refine fun (y : Int32) (hy : y = _) => ?_; rw [hm3] at hy; subst hy)
    | (refine fun c => absurd ?_ c; dsimp only; decide +kernel)
    | (refine fun c => absurd c ?_; dsimp only; decide +kernel)
    | (refine fun c => absurd c ?_; decide +kernel)
    | (refine fun c => absurd ?_ c; decide +kernel)
    | (refine fun (y : Int32) (hy : y = _) => ?_; cases hy)
    | (refine fun (y : Int64) (hy : y = _) => ?_; cases hy)
    | (refine fun (y : Nat) (hy : y = _) => ?_; cases hy)
    | (refine fun (y : Nat) (hy : _ = some y) => ?_; cases hy)
    | intro _
    | refine Exists.intro 64 (And.intro (by decide) (And.intro (by decide) ?_))
    | refine Exists.intro 600 ?_
    | decide +kernel
    | (unfold zb; decide +kernel)
set_option maxHeartbeats 20000000 in
set_option maxRecDepth 100000 in
theorem pt_gl {xs : Nat → Int32} (h : ((xs (0 : Int32).toNatClampNeg) &&& (7 : Int32)) = (0 : Int32)) {c0 : Int32} (hn0 : (((xs ((0 : Int32) + (1 : Int32)).toNatClampNeg).toUInt32 >>> ((24 : Int32).toUInt32 &&& Int32.toUInt32 31)).toInt32 &&& (255 : Int32)) = c0) (hm0 : (((xs ((0 : Int32) + (1 : Int32)).toNatClampNeg) >>> ((24 : Int32) &&& 31)) &&& (255 : Int32)) = c0) {c1 : Int32} (hn1 : (((xs ((0 : Int32) + (1 : Int32)).toNatClampNeg).toUInt32 >>> (((24 : Int32) + (-8 : Int32)).toUInt32 &&& Int32.toUInt32 31)).toInt32 &&& (255 : Int32)) = c1) (hm1 : (((xs ((0 : Int32) + (1 : Int32)).toNatClampNeg) >>> (((24 : Int32) + (-8 : Int32)) &&& 31)) &&& (255 : Int32)) = c1) {c2 : Int32} (hn2 : (((xs ((0 : Int32) + (1 : Int32)).toNatClampNeg).toUInt32 >>> ((((24 : Int32) + (-8 : Int32)) + (-8 : Int32)).toUInt32 &&& Int32.toUInt32 31)).toInt32 &&& (255 : Int32)) = c2) (hm2 : (((xs ((0 : Int32) + (1 : Int32)).toNatClampNeg) >>> ((((24 : Int32) + (-8 : Int32)) + (-8 : Int32)) &&& 31)) &&& (255 : Int32)) = c2) {c3 : Int32} (hn3 : (((xs ((0 : Int32) + (1 : Int32)).toNatClampNeg).toUInt32 >>> (((((24 : Int32) + (-8 : Int32)) + (-8 : Int32)) + (-8 : Int32)).toUInt32 &&& Int32.toUInt32 31)).toInt32 &&& (255 : Int32)) = c3) (hm3 : (((xs ((0 : Int32) + (1 : Int32)).toNatClampNeg) >>> (((((24 : Int32) + (-8 : Int32)) + (-8 : Int32)) + (-8 : Int32)) &&& 31)) &&& (255 : Int32)) = c3) (p0 : ¬ c0 = 0) (q0 : ¬ c0 ≤ 0) (r0 : ¬ c0 < 32) (s0 : c0 ≤ 126) (p1 : ¬ c1 = 0) (q1 : ¬ c1 ≤ 0) (r1 : c1 < 32) : lw_pure 5 xs 2 := by
  unfold lw_pure
  refine And.intro (fun _ => True.intro) (fun _ => And.intro (fun c => absurd c (by decide +kernel)) ?_)
  refine And.intro (fun _ => ?_) (fun c => absurd h c)
  refine And.intro (fun c => absurd c (by decide +kernel)) ?_
  refine Or.inr (Or.inl ?_)
  repeat' first
    | exact True.intro
    | refine And.intro ?_ ?_
    | (refine fun c => absurd c ?_; assumption)
    | (refine fun c => absurd ?_ c; assumption)
    | (refine fun (y : Int32) (hy : y = _) => ?_; rw [hn0] at hy; subst hy)
    | (refine fun (y : Int32) (hy : y = _) => ?_; rw [hn1] at hy; subst hy)
    | (refine fun (y : Int32) (hy : y = _) => ?_; rw [hn2] at hy; subst hy)
    | (refine fun (y : Int32) (hy : y = _) => ?_; rw [hn3] at hy; subst hy)
    | (refine fun (y : Int32) (hy : y = _) => ?_; rw [hm0] at hy; subst hy)
    | (refine fun (y : Int32) (hy : y = _) => ?_; rw [hm1] at hy; subst hy)
    | (refine fun (y : Int32) (hy : y = _) => ?_; rw [hm2] at hy; subst hy)
    | (refine fun (y : Int32) (hy : y = _) => ?_; rw [hm3] at hy; subst hy)
    | (refine fun c => absurd ?_ c; dsimp only; decide +kernel)
    | (refine fun c => absurd c ?_; dsimp only; decide +kernel)
    | (refine fun c => absurd c ?_; decide +kernel)
    | (refine fun c => absurd ?_ c; decide +kernel)
    | (refine fun (y : Int32) (hy : y = _) => ?_; cases hy)
    | (refine fun (y : Int64) (hy : y = _) => ?_; cases hy)
    | (refine fun (y : Nat) (hy : y = _) => ?_; cases hy)
    | (refine fun (y : Nat) (hy : _ = some y) => ?_; cases hy)
    | intro _
    | refine Exists.intro 64 (And.intro (by decide) (And.intro (by decide) ?_))
    | refine Exists.intro 600 ?_
    | decide +kernel
    | (unfold zb; decide +kernel)
set_option maxHeartbeats 20000000 in
set_option maxRecDepth 100000 in
theorem pt_gu {xs : Nat → Int32} (h : ((xs (0 : Int32).toNatClampNeg) &&& (7 : Int32)) = (0 : Int32)) {c0 : Int32} (hn0 : (((xs ((0 : Int32) + (1 : Int32)).toNatClampNeg).toUInt32 >>> ((24 : Int32).toUInt32 &&& Int32.toUInt32 31)).toInt32 &&& (255 : Int32)) = c0) (hm0 : (((xs ((0 : Int32) + (1 : Int32)).toNatClampNeg) >>> ((24 : Int32) &&& 31)) &&& (255 : Int32)) = c0) {c1 : Int32} (hn1 : (((xs ((0 : Int32) + (1 : Int32)).toNatClampNeg).toUInt32 >>> (((24 : Int32) + (-8 : Int32)).toUInt32 &&& Int32.toUInt32 31)).toInt32 &&& (255 : Int32)) = c1) (hm1 : (((xs ((0 : Int32) + (1 : Int32)).toNatClampNeg) >>> (((24 : Int32) + (-8 : Int32)) &&& 31)) &&& (255 : Int32)) = c1) {c2 : Int32} (hn2 : (((xs ((0 : Int32) + (1 : Int32)).toNatClampNeg).toUInt32 >>> ((((24 : Int32) + (-8 : Int32)) + (-8 : Int32)).toUInt32 &&& Int32.toUInt32 31)).toInt32 &&& (255 : Int32)) = c2) (hm2 : (((xs ((0 : Int32) + (1 : Int32)).toNatClampNeg) >>> ((((24 : Int32) + (-8 : Int32)) + (-8 : Int32)) &&& 31)) &&& (255 : Int32)) = c2) {c3 : Int32} (hn3 : (((xs ((0 : Int32) + (1 : Int32)).toNatClampNeg).toUInt32 >>> (((((24 : Int32) + (-8 : Int32)) + (-8 : Int32)) + (-8 : Int32)).toUInt32 &&& Int32.toUInt32 31)).toInt32 &&& (255 : Int32)) = c3) (hm3 : (((xs ((0 : Int32) + (1 : Int32)).toNatClampNeg) >>> (((((24 : Int32) + (-8 : Int32)) + (-8 : Int32)) + (-8 : Int32)) &&& 31)) &&& (255 : Int32)) = c3) (p0 : ¬ c0 = 0) (q0 : ¬ c0 ≤ 0) (r0 : ¬ c0 < 32) (s0 : c0 ≤ 126) (p1 : ¬ c1 = 0) (q1 : ¬ c1 ≤ 0) (r1 : ¬ c1 < 32) (s1 : ¬ c1 ≤ 126) : lw_pure 5 xs 2 := by
  unfold lw_pure
  refine And.intro (fun _ => True.intro) (fun _ => And.intro (fun c => absurd c (by decide +kernel)) ?_)
  refine And.intro (fun _ => ?_) (fun c => absurd h c)
  refine And.intro (fun c => absurd c (by decide +kernel)) ?_
  refine Or.inr (Or.inl ?_)
  repeat' first
    | exact True.intro
    | refine And.intro ?_ ?_
    | (refine fun c => absurd c ?_; assumption)
    | (refine fun c => absurd ?_ c; assumption)
    | (refine fun (y : Int32) (hy : y = _) => ?_; rw [hn0] at hy; subst hy)
    | (refine fun (y : Int32) (hy : y = _) => ?_; rw [hn1] at hy; subst hy)
    | (refine fun (y : Int32) (hy : y = _) => ?_; rw [hn2] at hy; subst hy)
    | (refine fun (y : Int32) (hy : y = _) => ?_; rw [hn3] at hy; subst hy)
    | (refine fun (y : Int32) (hy : y = _) => ?_; rw [hm0] at hy; subst hy)
    | (refine fun (y : Int32) (hy : y = _) => ?_; rw [hm1] at hy; subst hy)
    | (refine fun (y : Int32) (hy : y = _) => ?_; rw [hm2] at hy; subst hy)
    | (refine fun (y : Int32) (hy : y = _) => ?_; rw [hm3] at hy; subst hy)
    | (refine fun c => absurd ?_ c; dsimp only; decide +kernel)
    | (refine fun c => absurd c ?_; dsimp only; decide +kernel)
    | (refine fun c => absurd c ?_; decide +kernel)
    | (refine fun c => absurd ?_ c; decide +kernel)
    | (refine fun (y : Int32) (hy : y = _) => ?_; cases hy)
    | (refine fun (y : Int64) (hy : y = _) => ?_; cases hy)
    | (refine fun (y : Nat) (hy : y = _) => ?_; cases hy)
    | (refine fun (y : Nat) (hy : _ = some y) => ?_; cases hy)
    | intro _
    | refine Exists.intro 64 (And.intro (by decide) (And.intro (by decide) ?_))
    | refine Exists.intro 600 ?_
    | decide +kernel
    | (unfold zb; decide +kernel)
set_option maxHeartbeats 20000000 in
set_option maxRecDepth 100000 in
theorem pt_gzl {xs : Nat → Int32} (h : ((xs (0 : Int32).toNatClampNeg) &&& (7 : Int32)) = (0 : Int32)) {c0 : Int32} (hn0 : (((xs ((0 : Int32) + (1 : Int32)).toNatClampNeg).toUInt32 >>> ((24 : Int32).toUInt32 &&& Int32.toUInt32 31)).toInt32 &&& (255 : Int32)) = c0) (hm0 : (((xs ((0 : Int32) + (1 : Int32)).toNatClampNeg) >>> ((24 : Int32) &&& 31)) &&& (255 : Int32)) = c0) {c1 : Int32} (hn1 : (((xs ((0 : Int32) + (1 : Int32)).toNatClampNeg).toUInt32 >>> (((24 : Int32) + (-8 : Int32)).toUInt32 &&& Int32.toUInt32 31)).toInt32 &&& (255 : Int32)) = c1) (hm1 : (((xs ((0 : Int32) + (1 : Int32)).toNatClampNeg) >>> (((24 : Int32) + (-8 : Int32)) &&& 31)) &&& (255 : Int32)) = c1) {c2 : Int32} (hn2 : (((xs ((0 : Int32) + (1 : Int32)).toNatClampNeg).toUInt32 >>> ((((24 : Int32) + (-8 : Int32)) + (-8 : Int32)).toUInt32 &&& Int32.toUInt32 31)).toInt32 &&& (255 : Int32)) = c2) (hm2 : (((xs ((0 : Int32) + (1 : Int32)).toNatClampNeg) >>> ((((24 : Int32) + (-8 : Int32)) + (-8 : Int32)) &&& 31)) &&& (255 : Int32)) = c2) {c3 : Int32} (hn3 : (((xs ((0 : Int32) + (1 : Int32)).toNatClampNeg).toUInt32 >>> (((((24 : Int32) + (-8 : Int32)) + (-8 : Int32)) + (-8 : Int32)).toUInt32 &&& Int32.toUInt32 31)).toInt32 &&& (255 : Int32)) = c3) (hm3 : (((xs ((0 : Int32) + (1 : Int32)).toNatClampNeg) >>> (((((24 : Int32) + (-8 : Int32)) + (-8 : Int32)) + (-8 : Int32)) &&& 31)) &&& (255 : Int32)) = c3) (p0 : ¬ c0 = 0) (q0 : ¬ c0 ≤ 0) (r0 : ¬ c0 < 32) (s0 : c0 ≤ 126) (z1 : c1 = 0) (p2 : ¬ c2 = 0) (q2 : ¬ c2 ≤ 0) (r2 : c2 < 32) : lw_pure 5 xs 2 := by
  subst z1
  unfold lw_pure
  refine And.intro (fun _ => True.intro) (fun _ => And.intro (fun c => absurd c (by decide +kernel)) ?_)
  refine And.intro (fun _ => ?_) (fun c => absurd h c)
  refine And.intro (fun c => absurd c (by decide +kernel)) ?_
  refine Or.inr (Or.inl ?_)
  repeat' first
    | exact True.intro
    | refine And.intro ?_ ?_
    | (refine fun c => absurd c ?_; assumption)
    | (refine fun c => absurd ?_ c; assumption)
    | (refine fun (y : Int32) (hy : y = _) => ?_; rw [hn0] at hy; subst hy)
    | (refine fun (y : Int32) (hy : y = _) => ?_; rw [hn1] at hy; subst hy)
    | (refine fun (y : Int32) (hy : y = _) => ?_; rw [hn2] at hy; subst hy)
    | (refine fun (y : Int32) (hy : y = _) => ?_; rw [hn3] at hy; subst hy)
    | (refine fun (y : Int32) (hy : y = _) => ?_; rw [hm0] at hy; subst hy)
    | (refine fun (y : Int32) (hy : y = _) => ?_; rw [hm1] at hy; subst hy)
    | (refine fun (y : Int32) (hy : y = _) => ?_; rw [hm2] at hy; subst hy)
    | (refine fun (y : Int32) (hy : y = _) => ?_; rw [hm3] at hy; subst hy)
    | (refine fun c => absurd ?_ c; dsimp only; decide +kernel)
    | (refine fun c => absurd c ?_; dsimp only; decide +kernel)
    | (refine fun c => absurd c ?_; decide +kernel)
    | (refine fun c => absurd ?_ c; decide +kernel)
    | (refine fun (y : Int32) (hy : y = _) => ?_; cases hy)
    | (refine fun (y : Int64) (hy : y = _) => ?_; cases hy)
    | (refine fun (y : Nat) (hy : y = _) => ?_; cases hy)
    | (refine fun (y : Nat) (hy : _ = some y) => ?_; cases hy)
    | intro _
    | refine Exists.intro 64 (And.intro (by decide) (And.intro (by decide) ?_))
    | refine Exists.intro 600 ?_
    | decide +kernel
    | (unfold zb; decide +kernel)
set_option maxHeartbeats 20000000 in
set_option maxRecDepth 100000 in
theorem pt_gzu {xs : Nat → Int32} (h : ((xs (0 : Int32).toNatClampNeg) &&& (7 : Int32)) = (0 : Int32)) {c0 : Int32} (hn0 : (((xs ((0 : Int32) + (1 : Int32)).toNatClampNeg).toUInt32 >>> ((24 : Int32).toUInt32 &&& Int32.toUInt32 31)).toInt32 &&& (255 : Int32)) = c0) (hm0 : (((xs ((0 : Int32) + (1 : Int32)).toNatClampNeg) >>> ((24 : Int32) &&& 31)) &&& (255 : Int32)) = c0) {c1 : Int32} (hn1 : (((xs ((0 : Int32) + (1 : Int32)).toNatClampNeg).toUInt32 >>> (((24 : Int32) + (-8 : Int32)).toUInt32 &&& Int32.toUInt32 31)).toInt32 &&& (255 : Int32)) = c1) (hm1 : (((xs ((0 : Int32) + (1 : Int32)).toNatClampNeg) >>> (((24 : Int32) + (-8 : Int32)) &&& 31)) &&& (255 : Int32)) = c1) {c2 : Int32} (hn2 : (((xs ((0 : Int32) + (1 : Int32)).toNatClampNeg).toUInt32 >>> ((((24 : Int32) + (-8 : Int32)) + (-8 : Int32)).toUInt32 &&& Int32.toUInt32 31)).toInt32 &&& (255 : Int32)) = c2) (hm2 : (((xs ((0 : Int32) + (1 : Int32)).toNatClampNeg) >>> ((((24 : Int32) + (-8 : Int32)) + (-8 : Int32)) &&& 31)) &&& (255 : Int32)) = c2) {c3 : Int32} (hn3 : (((xs ((0 : Int32) + (1 : Int32)).toNatClampNeg).toUInt32 >>> (((((24 : Int32) + (-8 : Int32)) + (-8 : Int32)) + (-8 : Int32)).toUInt32 &&& Int32.toUInt32 31)).toInt32 &&& (255 : Int32)) = c3) (hm3 : (((xs ((0 : Int32) + (1 : Int32)).toNatClampNeg) >>> (((((24 : Int32) + (-8 : Int32)) + (-8 : Int32)) + (-8 : Int32)) &&& 31)) &&& (255 : Int32)) = c3) (p0 : ¬ c0 = 0) (q0 : ¬ c0 ≤ 0) (r0 : ¬ c0 < 32) (s0 : c0 ≤ 126) (z1 : c1 = 0) (p2 : ¬ c2 = 0) (q2 : ¬ c2 ≤ 0) (r2 : ¬ c2 < 32) (s2 : ¬ c2 ≤ 126) : lw_pure 5 xs 2 := by
  subst z1
  unfold lw_pure
  refine And.intro (fun _ => True.intro) (fun _ => And.intro (fun c => absurd c (by decide +kernel)) ?_)
  refine And.intro (fun _ => ?_) (fun c => absurd h c)
  refine And.intro (fun c => absurd c (by decide +kernel)) ?_
  refine Or.inr (Or.inl ?_)
  repeat' first
    | exact True.intro
    | refine And.intro ?_ ?_
    | (refine fun c => absurd c ?_; assumption)
    | (refine fun c => absurd ?_ c; assumption)
    | (refine fun (y : Int32) (hy : y = _) => ?_; rw [hn0] at hy; subst hy)
    | (refine fun (y : Int32) (hy : y = _) => ?_; rw [hn1] at hy; subst hy)
    | (refine fun (y : Int32) (hy : y = _) => ?_; rw [hn2] at hy; subst hy)
    | (refine fun (y : Int32) (hy : y = _) => ?_; rw [hn3] at hy; subst hy)
    | (refine fun (y : Int32) (hy : y = _) => ?_; rw [hm0] at hy; subst hy)
    | (refine fun (y : Int32) (hy : y = _) => ?_; rw [hm1] at hy; subst hy)
    | (refine fun (y : Int32) (hy : y = _) => ?_; rw [hm2] at hy; subst hy)
    | (refine fun (y : Int32) (hy : y = _) => ?_; rw [hm3] at hy; subst hy)
    | (refine fun c => absurd ?_ c; dsimp only; decide +kernel)
    | (refine fun c => absurd c ?_; dsimp only; decide +kernel)
    | (refine fun c => absurd c ?_; decide +kernel)
    | (refine fun c => absurd ?_ c; decide +kernel)
    | (refine fun (y : Int32) (hy : y = _) => ?_; cases hy)
    | (refine fun (y : Int64) (hy : y = _) => ?_; cases hy)
    | (refine fun (y : Nat) (hy : y = _) => ?_; cases hy)
    | (refine fun (y : Nat) (hy : _ = some y) => ?_; cases hy)
    | intro _
    | refine Exists.intro 64 (And.intro (by decide) (And.intro (by decide) ?_))
    | refine Exists.intro 600 ?_
    | decide +kernel
    | (unfold zb; decide +kernel)
set_option maxHeartbeats 20000000 in
set_option maxRecDepth 100000 in
theorem pt_gzzl {xs : Nat → Int32} (h : ((xs (0 : Int32).toNatClampNeg) &&& (7 : Int32)) = (0 : Int32)) {c0 : Int32} (hn0 : (((xs ((0 : Int32) + (1 : Int32)).toNatClampNeg).toUInt32 >>> ((24 : Int32).toUInt32 &&& Int32.toUInt32 31)).toInt32 &&& (255 : Int32)) = c0) (hm0 : (((xs ((0 : Int32) + (1 : Int32)).toNatClampNeg) >>> ((24 : Int32) &&& 31)) &&& (255 : Int32)) = c0) {c1 : Int32} (hn1 : (((xs ((0 : Int32) + (1 : Int32)).toNatClampNeg).toUInt32 >>> (((24 : Int32) + (-8 : Int32)).toUInt32 &&& Int32.toUInt32 31)).toInt32 &&& (255 : Int32)) = c1) (hm1 : (((xs ((0 : Int32) + (1 : Int32)).toNatClampNeg) >>> (((24 : Int32) + (-8 : Int32)) &&& 31)) &&& (255 : Int32)) = c1) {c2 : Int32} (hn2 : (((xs ((0 : Int32) + (1 : Int32)).toNatClampNeg).toUInt32 >>> ((((24 : Int32) + (-8 : Int32)) + (-8 : Int32)).toUInt32 &&& Int32.toUInt32 31)).toInt32 &&& (255 : Int32)) = c2) (hm2 : (((xs ((0 : Int32) + (1 : Int32)).toNatClampNeg) >>> ((((24 : Int32) + (-8 : Int32)) + (-8 : Int32)) &&& 31)) &&& (255 : Int32)) = c2) {c3 : Int32} (hn3 : (((xs ((0 : Int32) + (1 : Int32)).toNatClampNeg).toUInt32 >>> (((((24 : Int32) + (-8 : Int32)) + (-8 : Int32)) + (-8 : Int32)).toUInt32 &&& Int32.toUInt32 31)).toInt32 &&& (255 : Int32)) = c3) (hm3 : (((xs ((0 : Int32) + (1 : Int32)).toNatClampNeg) >>> (((((24 : Int32) + (-8 : Int32)) + (-8 : Int32)) + (-8 : Int32)) &&& 31)) &&& (255 : Int32)) = c3) (p0 : ¬ c0 = 0) (q0 : ¬ c0 ≤ 0) (r0 : ¬ c0 < 32) (s0 : c0 ≤ 126) (z1 : c1 = 0) (z2 : c2 = 0) (p3 : ¬ c3 = 0) (q3 : ¬ c3 ≤ 0) (r3 : c3 < 32) : lw_pure 5 xs 2 := by
  subst z1
  subst z2
  unfold lw_pure
  refine And.intro (fun _ => True.intro) (fun _ => And.intro (fun c => absurd c (by decide +kernel)) ?_)
  refine And.intro (fun _ => ?_) (fun c => absurd h c)
  refine And.intro (fun c => absurd c (by decide +kernel)) ?_
  refine Or.inr (Or.inl ?_)
  repeat' first
    | exact True.intro
    | refine And.intro ?_ ?_
    | (refine fun c => absurd c ?_; assumption)
    | (refine fun c => absurd ?_ c; assumption)
    | (refine fun (y : Int32) (hy : y = _) => ?_; rw [hn0] at hy; subst hy)
    | (refine fun (y : Int32) (hy : y = _) => ?_; rw [hn1] at hy; subst hy)
    | (refine fun (y : Int32) (hy : y = _) => ?_; rw [hn2] at hy; subst hy)
    | (refine fun (y : Int32) (hy : y = _) => ?_; rw [hn3] at hy; subst hy)
    | (refine fun (y : Int32) (hy : y = _) => ?_; rw [hm0] at hy; subst hy)
    | (refine fun (y : Int32) (hy : y = _) => ?_; rw [hm1] at hy; subst hy)
    | (refine fun (y : Int32) (hy : y = _) => ?_; rw [hm2] at hy; subst hy)
    | (refine fun (y : Int32) (hy : y = _) => ?_; rw [hm3] at hy; subst hy)
    | (refine fun c => absurd ?_ c; dsimp only; decide +kernel)
    | (refine fun c => absurd c ?_; dsimp only; decide +kernel)
    | (refine fun c => absurd c ?_; decide +kernel)
    | (refine fun c => absurd ?_ c; decide +kernel)
    | (refine fun (y : Int32) (hy : y = _) => ?_; cases hy)
    | (refine fun (y : Int64) (hy : y = _) => ?_; cases hy)
    | (refine fun (y : Nat) (hy : y = _) => ?_; cases hy)
    | (refine fun (y : Nat) (hy : _ = some y) => ?_; cases hy)
    | intro _
    | refine Exists.intro 64 (And.intro (by decide) (And.intro (by decide) ?_))
    | refine Exists.intro 600 ?_
    | decide +kernel
    | (unfold zb; decide +kernel)
set_option maxHeartbeats 20000000 in
set_option maxRecDepth 100000 in
theorem pt_gzzu {xs : Nat → Int32} (h : ((xs (0 : Int32).toNatClampNeg) &&& (7 : Int32)) = (0 : Int32)) {c0 : Int32} (hn0 : (((xs ((0 : Int32) + (1 : Int32)).toNatClampNeg).toUInt32 >>> ((24 : Int32).toUInt32 &&& Int32.toUInt32 31)).toInt32 &&& (255 : Int32)) = c0) (hm0 : (((xs ((0 : Int32) + (1 : Int32)).toNatClampNeg) >>> ((24 : Int32) &&& 31)) &&& (255 : Int32)) = c0) {c1 : Int32} (hn1 : (((xs ((0 : Int32) + (1 : Int32)).toNatClampNeg).toUInt32 >>> (((24 : Int32) + (-8 : Int32)).toUInt32 &&& Int32.toUInt32 31)).toInt32 &&& (255 : Int32)) = c1) (hm1 : (((xs ((0 : Int32) + (1 : Int32)).toNatClampNeg) >>> (((24 : Int32) + (-8 : Int32)) &&& 31)) &&& (255 : Int32)) = c1) {c2 : Int32} (hn2 : (((xs ((0 : Int32) + (1 : Int32)).toNatClampNeg).toUInt32 >>> ((((24 : Int32) + (-8 : Int32)) + (-8 : Int32)).toUInt32 &&& Int32.toUInt32 31)).toInt32 &&& (255 : Int32)) = c2) (hm2 : (((xs ((0 : Int32) + (1 : Int32)).toNatClampNeg) >>> ((((24 : Int32) + (-8 : Int32)) + (-8 : Int32)) &&& 31)) &&& (255 : Int32)) = c2) {c3 : Int32} (hn3 : (((xs ((0 : Int32) + (1 : Int32)).toNatClampNeg).toUInt32 >>> (((((24 : Int32) + (-8 : Int32)) + (-8 : Int32)) + (-8 : Int32)).toUInt32 &&& Int32.toUInt32 31)).toInt32 &&& (255 : Int32)) = c3) (hm3 : (((xs ((0 : Int32) + (1 : Int32)).toNatClampNeg) >>> (((((24 : Int32) + (-8 : Int32)) + (-8 : Int32)) + (-8 : Int32)) &&& 31)) &&& (255 : Int32)) = c3) (p0 : ¬ c0 = 0) (q0 : ¬ c0 ≤ 0) (r0 : ¬ c0 < 32) (s0 : c0 ≤ 126) (z1 : c1 = 0) (z2 : c2 = 0) (p3 : ¬ c3 = 0) (q3 : ¬ c3 ≤ 0) (r3 : ¬ c3 < 32) (s3 : ¬ c3 ≤ 126) : lw_pure 5 xs 2 := by
  subst z1
  subst z2
  unfold lw_pure
  refine And.intro (fun _ => True.intro) (fun _ => And.intro (fun c => absurd c (by decide +kernel)) ?_)
  refine And.intro (fun _ => ?_) (fun c => absurd h c)
  refine And.intro (fun c => absurd c (by decide +kernel)) ?_
  refine Or.inr (Or.inl ?_)
  repeat' first
    | exact True.intro
    | refine And.intro ?_ ?_
    | (refine fun c => absurd c ?_; assumption)
    | (refine fun c => absurd ?_ c; assumption)
    | (refine fun (y : Int32) (hy : y = _) => ?_; rw [hn0] at hy; subst hy)
    | (refine fun (y : Int32) (hy : y = _) => ?_; rw [hn1] at hy; subst hy)
    | (refine fun (y : Int32) (hy : y = _) => ?_; rw [hn2] at hy; subst hy)
    | (refine fun (y : Int32) (hy : y = _) => ?_; rw [hn3] at hy; subst hy)
    | (refine fun (y : Int32) (hy : y = _) => ?_; rw [hm0] at hy; subst hy)
    | (refine fun (y : Int32) (hy : y = _) => ?_; rw [hm1] at hy; subst hy)
    | (refine fun (y : Int32) (hy : y = _) => ?_; rw [hm2] at hy; subst hy)
    | (refine fun (y : Int32) (hy : y = _) => ?_; rw [hm3] at hy; subst hy)
    | (refine fun c => absurd ?_ c; dsimp only; decide +kernel)
    | (refine fun c => absurd c ?_; dsimp only; decide +kernel)
    | (refine fun c => absurd c ?_; decide +kernel)
    | (refine fun c => absurd ?_ c; decide +kernel)
    | (refine fun (y : Int32) (hy : y = _) => ?_; cases hy)
    | (refine fun (y : Int64) (hy : y = _) => ?_; cases hy)
    | (refine fun (y : Nat) (hy : y = _) => ?_; cases hy)
    | (refine fun (y : Nat) (hy : _ = some y) => ?_; cases hy)
    | intro _
    | refine Exists.intro 64 (And.intro (by decide) (And.intro (by decide) ?_))
    | refine Exists.intro 600 ?_
    | decide +kernel
    | (unfold zb; decide +kernel)
set_option maxHeartbeats 20000000 in
set_option maxRecDepth 100000 in
theorem pt_gzzz {xs : Nat → Int32} (h : ((xs (0 : Int32).toNatClampNeg) &&& (7 : Int32)) = (0 : Int32)) {c0 : Int32} (hn0 : (((xs ((0 : Int32) + (1 : Int32)).toNatClampNeg).toUInt32 >>> ((24 : Int32).toUInt32 &&& Int32.toUInt32 31)).toInt32 &&& (255 : Int32)) = c0) (hm0 : (((xs ((0 : Int32) + (1 : Int32)).toNatClampNeg) >>> ((24 : Int32) &&& 31)) &&& (255 : Int32)) = c0) {c1 : Int32} (hn1 : (((xs ((0 : Int32) + (1 : Int32)).toNatClampNeg).toUInt32 >>> (((24 : Int32) + (-8 : Int32)).toUInt32 &&& Int32.toUInt32 31)).toInt32 &&& (255 : Int32)) = c1) (hm1 : (((xs ((0 : Int32) + (1 : Int32)).toNatClampNeg) >>> (((24 : Int32) + (-8 : Int32)) &&& 31)) &&& (255 : Int32)) = c1) {c2 : Int32} (hn2 : (((xs ((0 : Int32) + (1 : Int32)).toNatClampNeg).toUInt32 >>> ((((24 : Int32) + (-8 : Int32)) + (-8 : Int32)).toUInt32 &&& Int32.toUInt32 31)).toInt32 &&& (255 : Int32)) = c2) (hm2 : (((xs ((0 : Int32) + (1 : Int32)).toNatClampNeg) >>> ((((24 : Int32) + (-8 : Int32)) + (-8 : Int32)) &&& 31)) &&& (255 : Int32)) = c2) {c3 : Int32} (hn3 : (((xs ((0 : Int32) + (1 : Int32)).toNatClampNeg).toUInt32 >>> (((((24 : Int32) + (-8 : Int32)) + (-8 : Int32)) + (-8 : Int32)).toUInt32 &&& Int32.toUInt32 31)).toInt32 &&& (255 : Int32)) = c3) (hm3 : (((xs ((0 : Int32) + (1 : Int32)).toNatClampNeg) >>> (((((24 : Int32) + (-8 : Int32)) + (-8 : Int32)) + (-8 : Int32)) &&& 31)) &&& (255 : Int32)) = c3) (p0 : ¬ c0 = 0) (q0 : ¬ c0 ≤ 0) (r0 : ¬ c0 < 32) (s0 : c0 ≤ 126) (z1 : c1 = 0) (z2 : c2 = 0) (z3 : c3 = 0) : lw_pure 5 xs 2 := by
  subst z1
  subst z2
  subst z3
  unfold lw_pure
  refine And.intro (fun _ => True.intro) (fun _ => And.intro (fun c => absurd c (by decide +kernel)) ?_)
  refine And.intro (fun _ => ?_) (fun c => absurd h c)
  refine And.intro (fun c => absurd c (by decide +kernel)) ?_
  refine Or.inl ?_
  repeat' first
    | exact True.intro
    | refine And.intro ?_ ?_
    | (refine fun c => absurd c ?_; assumption)
    | (refine fun c => absurd ?_ c; assumption)
    | (refine fun (y : Int32) (hy : y = _) => ?_; rw [hn0] at hy; subst hy)
    | (refine fun (y : Int32) (hy : y = _) => ?_; rw [hn1] at hy; subst hy)
    | (refine fun (y : Int32) (hy : y = _) => ?_; rw [hn2] at hy; subst hy)
    | (refine fun (y : Int32) (hy : y = _) => ?_; rw [hn3] at hy; subst hy)
    | (refine fun (y : Int32) (hy : y = _) => ?_; rw [hm0] at hy; subst hy)
    | (refine fun (y : Int32) (hy : y = _) => ?_; rw [hm1] at hy; subst hy)
    | (refine fun (y : Int32) (hy : y = _) => ?_; rw [hm2] at hy; subst hy)
    | (refine fun (y : Int32) (hy : y = _) => ?_; rw [hm3] at hy; subst hy)
    | (refine fun c => absurd ?_ c; dsimp only; decide +kernel)
    | (refine fun c => absurd c ?_; dsimp only; decide +kernel)
    | (refine fun c => absurd c ?_; decide +kernel)
    | (refine fun c => absurd ?_ c; decide +kernel)
    | (refine fun (y : Int32) (hy : y = _) => ?_; cases hy)
    | (refine fun (y : Int64) (hy : y = _) => ?_; cases hy)
    | (refine fun (y : Nat) (hy : y = _) => ?_; cases hy)
    | (refine fun (y : Nat) (hy : _ = some y) => ?_; cases hy)
    | intro _
    | refine Exists.intro 64 (And.intro (by decide) (And.intro (by decide) ?_))
    | refine Exists.intro 600 ?_
    | decide +kernel
    | (unfold zb; decide +kernel)
set_option maxHeartbeats 20000000 in
set_option maxRecDepth 100000 in
theorem pt_gzzg {xs : Nat → Int32} (h : ((xs (0 : Int32).toNatClampNeg) &&& (7 : Int32)) = (0 : Int32)) {c0 : Int32} (hn0 : (((xs ((0 : Int32) + (1 : Int32)).toNatClampNeg).toUInt32 >>> ((24 : Int32).toUInt32 &&& Int32.toUInt32 31)).toInt32 &&& (255 : Int32)) = c0) (hm0 : (((xs ((0 : Int32) + (1 : Int32)).toNatClampNeg) >>> ((24 : Int32) &&& 31)) &&& (255 : Int32)) = c0) {c1 : Int32} (hn1 : (((xs ((0 : Int32) + (1 : Int32)).toNatClampNeg).toUInt32 >>> (((24 : Int32) + (-8 : Int32)).toUInt32 &&& Int32.toUInt32 31)).toInt32 &&& (255 : Int32)) = c1) (hm1 : (((xs ((0 : Int32) + (1 : Int32)).toNatClampNeg) >>> (((24 : Int32) + (-8 : Int32)) &&& 31)) &&& (255 : Int32)) = c1) {c2 : Int32} (hn2 : (((xs ((0 : Int32) + (1 : Int32)).toNatClampNeg).toUInt32 >>> ((((24 : Int32) + (-8 : Int32)) + (-8 : Int32)).toUInt32 &&& Int32.toUInt32 31)).toInt32 &&& (255 : Int32)) = c2) (hm2 : (((xs ((0 : Int32) + (1 : Int32)).toNatClampNeg) >>> ((((24 : Int32) + (-8 : Int32)) + (-8 : Int32)) &&& 31)) &&& (255 : Int32)) = c2) {c3 : Int32} (hn3 : (((xs ((0 : Int32) + (1 : Int32)).toNatClampNeg).toUInt32 >>> (((((24 : Int32) + (-8 : Int32)) + (-8 : Int32)) + (-8 : Int32)).toUInt32 &&& Int32.toUInt32 31)).toInt32 &&& (255 : Int32)) = c3) (hm3 : (((xs ((0 : Int32) + (1 : Int32)).toNatClampNeg) >>> (((((24 : Int32) + (-8 : Int32)) + (-8 : Int32)) + (-8 : Int32)) &&& 31)) &&& (255 : Int32)) = c3) (p0 : ¬ c0 = 0) (q0 : ¬ c0 ≤ 0) (r0 : ¬ c0 < 32) (s0 : c0 ≤ 126) (z1 : c1 = 0) (z2 : c2 = 0) (p3 : ¬ c3 = 0) (q3 : ¬ c3 ≤ 0) (r3 : ¬ c3 < 32) (s3 : c3 ≤ 126) : lw_pure 5 xs 2 := by
  subst z1
  subst z2
  unfold lw_pure
  refine And.intro (fun _ => True.intro) (fun _ => And.intro (fun c => absurd c (by decide +kernel)) ?_)
  refine And.intro (fun _ => ?_) (fun c => absurd h c)
  refine And.intro (fun c => absurd c (by decide +kernel)) ?_
  refine Or.inl ?_
  repeat' first
    | exact True.intro
    | refine And.intro ?_ ?_
    | (refine fun c => absurd c ?_; assumption)
    | (refine fun c => absurd ?_ c; assumption)
    | (refine fun (y : Int32) (hy : y = _) => ?_; rw [hn0] at hy; subst hy)
    | (refine fun (y : Int32) (hy : y = _) => ?_; rw [hn1] at hy; subst hy)
    | (refine fun (y : Int32) (hy : y = _) => ?_; rw [hn2] at hy; subst hy)
    | (refine fun (y : Int32) (hy : y = _) => ?_; rw [hn3] at hy; subst hy)
    | (refine fun (y : Int32) (hy : y = _) => ?_; rw [hm0] at hy; subst hy)
    | (refine fun (y : Int32) (hy : y = _) => ?_; rw [hm1] at hy; subst hy)
    | (refine fun (y : Int32) (hy : y = _) => ?_; rw [hm2] at hy; subst hy)
    | (refine fun (y : Int32) (hy : y = _) => ?_; rw [hm3] at hy; subst hy)
    | (refine fun c => absurd ?_ c; dsimp only; decide +kernel)
    | (refine fun c => absurd c ?_; dsimp only; decide +kernel)
    | (refine fun c => absurd c ?_; decide +kernel)
    | (refine fun c => absurd ?_ c; decide +kernel)
    | (refine fun (y : Int32) (hy : y = _) => ?_; cases hy)
    | (refine fun (y : Int64) (hy : y = _) => ?_; cases hy)
    | (refine fun (y : Nat) (hy : y = _) => ?_; cases hy)
    | (refine fun (y : Nat) (hy : _ = some y) => ?_; cases hy)
    | intro _
    | refine Exists.intro 64 (And.intro (by decide) (And.intro (by decide) ?_))
    | refine Exists.intro 600 ?_
    | decide +kernel
    | (unfold zb; decide +kernel)

