theorem yF_mono {f g : Nat → Int32} {a c : Int} (h : yF f g a) (hc : c ≤ a) : yF f g c := fun n h1 => h n (by omega)
theorem yG_F {kd fi se kd' fi' se' : Nat → Int32} {a b c pt : Int} (h : yG kd fi se a b pt) (h1 : yF kd kd' c) (h2 : yF fi fi' c) (h3 : yF se se' c) (hb : b ≤ c) (h0 : 0 ≤ a) : yG kd' fi' se' a b pt := by
  refine ⟨fun n k1 k2 => ?_, ?_⟩
  · rw [h1 n (by omega), h2 n (by omega), h3 n (by omega)]; exact h.1 n k1 k2
  · rw [← zrem_congr (f := kd) h0 (fun j _ k2 => by rw [h1 j (by omega)])]; exact h.2
/-- section s of the code that is being read -/
def yO (sK sI sE kd fi se : Nat → Int32) (b : Int) (s : Nat) : Prop := (160 ≤ (sI (5 + s)).toInt ∧ (sI (5 + s)).toInt ≤ (sE (5 + s)).toInt ∧ (sE (5 + s)).toInt ≤ b) ∧ yG kd fi se (sI (5 + s)).toInt (sE (5 + s)).toInt 1 ∧ ((sK (5 + s)).toInt = 4 → ∃ q : Nat, (sI (5 + s)).toInt ≤ (q : Int) ∧ (q : Int) < (sE (5 + s)).toInt ∧ (kd q).toInt = 10)
theorem yO_step {sK sI sE kd fi se sK' sI' sE' kd' fi' se' : Nat → Int32} {x u v : Int32} {i0 i1 b b' : Int} (hall : ∀ s : Nat, (s : Int) < x.toInt → yO sK sI sE kd fi se b s) (hR : yR kd fi se sK kd' fi' se' sK' (5 + x).toNatClampNeg b b' 1) (eI : sI' = upd sI (5 + x).toNatClampNeg u) (hu : u.toInt = b) (eE : sE' = upd sE (5 + x).toNatClampNeg v) (hv : v.toInt = b') (h0 : 0 ≤ x.toInt) (h3 : x.toInt ≤ 3) (hb : 160 ≤ b) (hbb : b ≤ b') : ∀ s : Nat, (s : Int) < x.toInt + 1 → yO sK' sI' sE' kd' fi' se' b' s := by
  obtain ⟨g, k1, k2, k3, w, e, hw⟩ := hR
  have hx : (5 + x).toNatClampNeg = 5 + x.toInt.toNat := by
    rw [← ztn, zadd1 (by simp only [Int32.reduceToInt]; omega) (by simp only [Int32.reduceToInt]; omega)]; simp only [Int32.reduceToInt]; omega
  rw [hx] at e eI eE
  intro s hs
  by_cases c : s = x.toInt.toNat
  · subst c; subst e; subst eI; subst eE
    unfold yO
    rw [pk_us, pk_us, pk_us, hu, hv]
    exact ⟨⟨hb, hbb, Int.le_refl _⟩, g, hw⟩
  · obtain ⟨⟨a1, a2, a3⟩, a4, a5⟩ := hall s (by omega)
    have hne : 5 + s ≠ 5 + x.toInt.toNat := by omega
    subst e; subst eI; subst eE
    unfold yO
    rw [pk_un hne, pk_un hne, pk_un hne]
    refine ⟨⟨a1, a2, by omega⟩, yG_F a4 k1 k2 k3 a3 (by omega), fun q4 => ?_⟩
    obtain ⟨q, q1, q2, q3⟩ := a5 q4
    exact ⟨q, q1, q2, by rw [k1 q (by omega)]; exact q3⟩
theorem zcnt_shift {f g : Nat → Int32} {w : Int} : ∀ (n k d : Nat), (∀ j : Nat, k ≤ j → j < k + n → f j = g (d + j)) → zcnt f w k n = zcnt g w (d + k) n
  | 0, _, _, _ => rfl
  | n + 1, k, d, h => by
    simp only [zcnt]
    rw [zcnt_shift n (k + 1) d (fun j h1 h2 => h j (by omega) (by omega)), h k (by omega) (by omega), show d + (k + 1) = d + k + 1 by omega]
theorem yFin {sK sI sE kd fi se : Nat → Int32} {n it : Int} (hall : ∀ s : Nat, (s : Int) < n → yO sK sI sE kd fi se (160 + it) s) (hs : ∀ s : Nat, (s : Int) < n → sK s = sK (5 + s) ∧ (sI s).toInt = (sI (5 + s)).toInt - 160 ∧ (sE s).toInt = (sE (5 + s)).toInt - 160) (hk : ∀ k : Nat, (k : Int) < it → kd k = kd (160 + k) ∧ fi k = fi (160 + k) ∧ se k = se (160 + k)) (h64 : it ≤ 64) : ∀ s : Int32, 0 ≤ s.toInt → s.toInt < n → zOK1 sK sI sE kd fi se s := by
  intro s h0 h1
  have hn : (s.toNatClampNeg : Int) = s.toInt := by rw [← ztn]; omega
  obtain ⟨⟨a1, a2, a3⟩, a4, a5⟩ := hall s.toNatClampNeg (by omega)
  obtain ⟨e1, e2, e3⟩ := hs s.toNatClampNeg (by omega)
  have key : ∀ i : Int32, (sI s.toNatClampNeg).toInt ≤ i.toInt → i.toInt < (sE s.toNatClampNeg).toInt → (i.toNatClampNeg : Int) = i.toInt := fun i k1 k2 => by rw [← ztn]; omega
  refine ⟨⟨by omega, by omega, by omega, ?_⟩, fun i k1 k2 => ?_, fun i k1 k2 k3 => ?_, fun q4 => ?_⟩
  · have hz : zrem kd 4 (sI s.toNatClampNeg).toInt (sE s.toNatClampNeg).toInt = zrem kd 4 (sI (5 + s.toNatClampNeg)).toInt (sE (5 + s.toNatClampNeg)).toInt := by
      unfold zrem
      rw [zcnt_shift (g := kd) _ _ 160 (fun j j1 j2 => (hk j (by omega)).1)]
      rw [show 160 + (sI s.toNatClampNeg).toInt.toNat = (sI (5 + s.toNatClampNeg)).toInt.toNat by omega, show ((sE s.toNatClampNeg).toInt - (sI s.toNatClampNeg).toInt).toNat = ((sE (5 + s.toNatClampNeg)).toInt - (sI (5 + s.toNatClampNeg)).toInt).toNat by omega]
    rw [hz]; exact a4.2
  · have hi := key i k1 k2
    rw [(hk i.toNatClampNeg (by omega)).2.2]
    exact (a4.1 (160 + i.toNatClampNeg) (by omega) (by omega)).2
  · have hi := key i k1 k2
    rw [(hk i.toNatClampNeg (by omega)).1] at k3
    rw [(hk i.toNatClampNeg (by omega)).2.1]
    exact (a4.1 (160 + i.toNatClampNeg) (by omega) (by omega)).1 k3
  · rw [e1] at q4
    obtain ⟨q, q1, q2, q3⟩ := a5 q4
    refine ⟨nI (q - 160), ?_, ?_, ?_⟩
    · rw [znI (by omega)]; omega
    · rw [znI (by omega)]; omega
    · have : (nI (q - 160)).toNatClampNeg = q - 160 := nI_clamp (by omega)
      rw [this, (hk (q - 160) (by omega)).1, show 160 + (q - 160) = q by omega]; exact q3
theorem zOK_F {sK sI sE kd fi se sK' sI' sE' kd' fi' se' : Nat → Int32} {s : Int32} (h : zOK1 sK sI sE kd fi se s) (f1 : yF sK sK' 5) (f2 : yF sI sI' 5) (f3 : yF sE sE' 5) (f4 : yF kd kd' 160) (f5 : yF fi fi' 160) (f6 : yF se se' 160) (h0 : 0 ≤ s.toInt) (h4 : s.toInt < 5) : zOK1 sK' sI' sE' kd' fi' se' s := by
  have hn : (s.toNatClampNeg : Int) = s.toInt := by rw [← ztn]; omega
  obtain ⟨⟨a1, a2, a3, a4⟩, b1, b2, b3⟩ := h
  unfold zOK1
  rw [f1 _ (by omega), f2 _ (by omega), f3 _ (by omega)]
  have key : ∀ i : Int32, (sI s.toNatClampNeg).toInt ≤ i.toInt → i.toInt < (sE s.toNatClampNeg).toInt → (i.toNatClampNeg : Int) < 160 := fun i k1 k2 => by rw [← ztn]; omega
  refine ⟨⟨a1, a2, a3, ?_⟩, fun i k1 k2 => ?_, fun i k1 k2 k3 => ?_, fun q4 => ?_⟩
  · rw [← zrem_congr (f := kd) a1 (fun j _ k2 => by rw [f4 j (by omega)])]; exact a4
  · rw [f6 _ (key i k1 k2)]; exact b1 i k1 k2
  · rw [f5 _ (key i k1 k2)]; rw [f4 _ (key i k1 k2)] at k3; exact b2 i k1 k2 k3
  · obtain ⟨q, q1, q2, q3⟩ := b3 q4
    exact ⟨q, q1, q2, by rw [f4 _ (key q q1 q2)]; exact q3⟩
