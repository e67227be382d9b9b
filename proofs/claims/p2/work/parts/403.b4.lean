def zOK1 (sK sI sE kd fi se : Nat → Int32) (s : Int32) : Prop :=
  (0 ≤ (sI s.toNatClampNeg).toInt ∧ (sI s.toNatClampNeg).toInt ≤ (sE s.toNatClampNeg).toInt ∧ (sE s.toNatClampNeg).toInt ≤ 64 ∧ zrem kd 4 (sI s.toNatClampNeg).toInt (sE s.toNatClampNeg).toInt ≤ 1)
  ∧ (∀ i : Int32, (sI s.toNatClampNeg).toInt ≤ i.toInt → i.toInt < (sE s.toNatClampNeg).toInt → 0 ≤ (se i.toNatClampNeg).toInt ∧ (se i.toNatClampNeg).toInt ≤ 5)
  ∧ (∀ i : Int32, (sI s.toNatClampNeg).toInt ≤ i.toInt → i.toInt < (sE s.toNatClampNeg).toInt → (kd i.toNatClampNeg).toInt = 15 → 0 ≤ (fi i.toNatClampNeg).toInt ∧ (fi i.toNatClampNeg).toInt ≤ 3)
  ∧ ((sK s.toNatClampNeg).toInt = 4 → ∃ q : Int32, (sI s.toNatClampNeg).toInt ≤ q.toInt ∧ q.toInt < (sE s.toNatClampNeg).toInt ∧ (kd q.toNatClampNeg).toInt = 10)
