/-! looks as lists: lkR the row of the reference, lkC the other one (cut at 4096) -/
def lkR (f : Nat → Int32) (n : Int) (L : List Int) : Prop := n = L.length ∧ ∀ i, i < L.length → (f i).toInt = L.getD i 0
def lkC (c : Nat) (f : Nat → Int32) (n : Int) (L : List Int) : Prop := (n = L.length ∧ L.length ≤ 4096 ∨ n = 4096 ∧ 4096 < L.length) ∧ n ≤ c ∧ ∀ i, i < L.length → i < 4096 → (f i).toInt = L.getD i 0
def pR (f : Nat → Int32) (n : Int) (g : Nat → Int32) (m : Int) (X : List Int) : Prop := ∀ L, lkR f n L → lkR g m (L ++ X)
def pC (c : Nat) (f : Nat → Int32) (n : Int) (c2 : Nat) (g : Nat → Int32) (m : Int) (X : List Int) : Prop := ∀ L, lkC c f n L → lkC c2 g m (L ++ X)
def pCc (c : Nat) (f : Nat → Int32) (n : Int) (c2 : Nat) (g : Nat → Int32) (m : Int) (x : Int) : Prop := 0 ≤ x → x < 256 → pC c f n c2 g m [x]
theorem pR_0 {f : Nat → Int32} {n m : Int} (h : m = n) : pR f n f m [] := fun L hL => by rw [List.append_nil, h]; exact hL
theorem pC_0 {c : Nat} {f : Nat → Int32} {n m : Int} (h : m = n) : pC c f n c f m [] := fun L hL => by rw [List.append_nil, h]; exact hL
theorem pR_t {f g h : Nat → Int32} {n m k : Int} {X Y : List Int} (a : pR f n g m X) (b : pR g m h k Y) : pR f n h k (X ++ Y) := fun L hL => by
  rw [← List.append_assoc]; exact b _ (a _ hL)
theorem pC_t {c d e : Nat} {f g h : Nat → Int32} {n m k : Int} {X Y : List Int} (a : pC c f n d g m X) (b : pC d g m e h k Y) : pC c f n e h k (X ++ Y) := fun L hL => by
  rw [← List.append_assoc]; exact b _ (a _ hL)
theorem pC_p {c d e : Nat} {f g h : Nat → Int32} {n m k x : Int} {X : List Int} (a : pC c f n d g m X) (b : pCc d g m e h k x) (h0 : 0 ≤ x) (h1 : x < 256) : pC c f n e h k (X ++ [x]) := pC_t a (b h0 h1)
theorem pCc_a {c d : Nat} {f g : Nat → Int32} {n m x : Int} (b : pCc c f n d g m x) (h0 : 0 ≤ x) (h1 : x < 256) : pC c f n d g m [x] := b h0 h1
theorem pR_e {f g : Nat → Int32} {n m k : Int} {X Y : List Int} (a : pR f n g m X) (e : X = Y) (hk : k = m) : pR f n g k Y := by subst e; subst hk; exact a
theorem pC_e {c d : Nat} {f g : Nat → Int32} {n m : Int} {X Y : List Int} (a : pC c f n d g m X) (e : X = Y) : pC c f n d g m Y := by subst e; exact a
theorem gd_l {L X : List Int} {i : Nat} (h : i < L.length) : (L ++ X).getD i 0 = L.getD i 0 := by
  rw [List.getD_eq_getElem?_getD, List.getD_eq_getElem?_getD, List.getElem?_append_left h]
theorem gd_e {L : List Int} {x : Int} : (L ++ [x]).getD L.length 0 = x := by
  rw [List.getD_eq_getElem?_getD, List.getElem?_append_right (Nat.le_refl _), Nat.sub_self]; rfl
theorem pR_1 {f : Nat → Int32} {n v : Int32} {m : Int} (hm : m = n.toInt + 1) : pR f n.toInt (upd f n.toNatClampNeg v) m [v.toInt] := fun L hL => by
  obtain ⟨a, b⟩ := hL
  have e : n.toNatClampNeg = L.length := by rw [zcl, a]; omega
  refine ⟨by rw [List.length_append]; show m = ((L.length + 1 : Nat) : Int); omega, fun i hi => ?_⟩
  rw [List.length_append] at hi
  have hi : i < L.length + 1 := hi
  rw [e]
  by_cases c : i = L.length
  · subst c; rw [pk_us, gd_e]
  · rw [pk_un c, gd_l (by omega)]; exact b i (by omega)
theorem nar0 : ∀ k : Fin 256, vp_nar .char ((nI k.1).toUInt32 % 65536).toInt32 = nI k.1 := by decide +kernel
theorem nar_v {x : Int32} (h0 : 0 ≤ x.toInt) (h1 : x.toInt < 256) : (vp_nar .char (x.toUInt32 % 65536).toInt32).toInt = x.toInt := by
  have e : x = nI x.toInt.toNat := by rw [zle_eq, znI (by omega)]; omega
  have := nar0 ⟨x.toInt.toNat, by omega⟩
  dsimp only at this
  rw [← e] at this; rw [this]
theorem lkC_w {c : Nat} {f : Nat → Int32} {n : Int32} {L : List Int} {v : Int32} {m : Int} (h : lkC c f n.toInt L) (hn : 0 ≤ n.toInt) (hc : n.toInt < c) (h4 : c ≤ 4096) (hm : m = n.toInt + 1) : lkC c (upd f n.toNatClampNeg v) m (L ++ [v.toInt]) := by
  obtain ⟨a, b, d⟩ := h
  have a1 : n.toInt = L.length := by omega
  have e : n.toNatClampNeg = L.length := by rw [zcl, a1]; omega
  have hl : (L ++ [v.toInt]).length = L.length + 1 := by rw [List.length_append]; rfl
  refine ⟨Or.inl ⟨by rw [hl]; omega, by omega⟩, by omega, fun i hi h6 => ?_⟩
  rw [hl] at hi
  rw [e]
  by_cases k : i = L.length
  · subst k; rw [pk_us, gd_e]
  · rw [pk_un k, gd_l (by omega)]; exact d i (by omega) h6
theorem lkC_d {c : Nat} {f : Nat → Int32} {n : Int} {L : List Int} {x : Int} (h : lkC c f n L) (hc : (c : Int) ≤ n) (h4 : c = 4096) : lkC c f n (L ++ [x]) := by
  obtain ⟨a, b, d⟩ := h
  have hl : (L ++ [x]).length = L.length + 1 := by rw [List.length_append]; rfl
  refine ⟨Or.inr ⟨by omega, by rw [hl]; omega⟩, b, fun i hi h6 => ?_⟩
  rw [gd_l (by omega)]; exact d i (by omega) h6
theorem lp53 {I0 : Nat → Int32} {n1 : Nat} {f1 : Nat → Int32} {x1 : Int32} (hR : qR n1 f1) : qN n1 (qB1 (fun NF u => u.2.1 = NF ∧ qR NF u.2.2 ∧ (0 ≤ x1.toInt → x1.toInt < 256 → ∀ L, lkC n1 f1 (I0 1).toInt L → ((n1 : Int) ≤ (I0 1).toInt → n1 = 4096) → lkC u.2.1 u.2.2 (u.1 1).toInt (L ++ [x1.toInt])))) (fun NF Z => v_Look_put_53 I0 n1 f1 x1 NF Z) := by
  show qN n1 _ (fun NF (Z : (Nat → Int32) × Nat × (Nat → Int32) → Prop) => (((I0 1) < 0 → (n1 = NF ∧ Z (I0, n1, f1))) ∧ (¬ (I0 1) < 0 → (((nI n1) ≤ (I0 1) → (n1 = NF ∧ Z (I0, n1, f1))) ∧ (¬ (nI n1) ≤ (I0 1) → (vp_in (I0 1) n1 ∧ (n1 = NF ∧ Z ((zu I0 1 ((I0 1) + (1 : Int32))), n1, (upd f1 (I0 1).toNatClampNeg (vp_nar .char (x1.toUInt32 % 65536).toInt32))))))))))
  have h6 := (qR_le hR).2
  refine qN_ite (fun h => qN_ret1 ⟨rfl, hR, fun _ _ L hL _ => ?_⟩) (fun h1 => qN_ite (fun h => qN_ret1 ⟨rfl, hR, fun _ _ L hL h4 => ?_⟩) (fun h2 => qN_and ?_ (qN_ret1 ⟨rfl, qR_upd hR (qnar _), fun h0 h9 L hL _ => ?_⟩)))
  · rw [zle_lt] at h; simp only [Int32.reduceToInt] at h
    have := hL.1; omega
  · rw [zle_le, qR_nI hR] at h
    exact lkC_d hL h (h4 h)
  · rw [zle_lt] at h1; rw [zle_le, qR_nI hR] at h2; rw [zin_iff]; simp only [Int32.reduceToInt] at h1; omega
  · rw [zle_lt] at h1; rw [zle_le, qR_nI hR] at h2; simp only [Int32.reduceToInt] at h1
    have h := lkC_w (v := vp_nar .char (x1.toUInt32 % 65536).toInt32) (m := (zu I0 1 (I0 1 + 1) 1).toInt) hL (by omega) (by omega) h6 (by rw [zu_s, zadd1] <;> simp only [Int32.reduceToInt] <;> omega)
    rw [nar_v h0 h9] at h; exact h
theorem d_Look_put {I0 : Nat → Int32} {n1 : Nat} {f1 : Nat → Int32} {x1 : Int32} (hR : qR n1 f1) : qN n1 (qB1 (fun NF u => u.2.1 = NF ∧ qR NF u.2.2 ∧ pCc n1 f1 (I0 1).toInt u.2.1 u.2.2 (u.1 1).toInt x1.toInt)) (fun NF Z => v_Look_put_0 I0 n1 f1 x1 NF Z) := by
  show qN n1 _ (fun NF (Z : (Nat → Int32) × Nat × (Nat → Int32) → Prop) => ((I0 1 < (nI n1) → (v_Look_put_53 I0 n1 f1 x1  NF Z)) ∧ (¬ I0 1 < (nI n1) → (((4096 : Int32) ≤ (nI n1) → (v_Look_put_53 I0 n1 f1 x1  NF Z)) ∧ (¬ (4096 : Int32) ≤ (nI n1) → (n1 * 2 ≤ 4096 ∧ (n1 * 2 ≤ NF ∧ 0 < n1) ∧ (∀ i, i < n1 → zc (f1 i)) ∧ (v_Look_put_53 I0 (n1 * 2) (va_cpy f1 (fun _ => 0) (0 : Int32).toNatClampNeg (0 : Int32).toNatClampNeg (nI n1).toNatClampNeg) x1  NF Z)))))))
  refine qN_ite (fun h => ?_) (fun h1 => qN_ite (fun h => ?_) (fun h2 => ?_))
  · rw [zle_lt, qR_nI hR] at h
    obtain ⟨NF, e, hl, ⟨u, hb, he⟩, hv⟩ := lp53 (I0 := I0) (x1 := x1) hR
    exact ⟨NF, e, hl, ⟨u, ⟨hb.1, hb.2.1, fun a b L hL => hb.2.2 a b L hL (fun c => by omega)⟩, he⟩, hv⟩
  · rw [zle_le, qR_nI hR] at h; simp only [Int32.reduceToInt] at h
    have h3 := (qR_le hR).2
    obtain ⟨NF, e, hl, ⟨u, hb, he⟩, hv⟩ := lp53 (I0 := I0) (x1 := x1) hR
    exact ⟨NF, e, hl, ⟨u, ⟨hb.1, hb.2.1, fun a b L hL => hb.2.2 a b L hL (fun c => by omega)⟩, he⟩, hv⟩
  rw [zle_le, qR_nI hR] at h2; simp only [Int32.reduceToInt] at h2
  rw [zle_lt, qR_nI hR] at h1
  have h3 := hR.1
  have hcl : (nI n1).toNatClampNeg = n1 := by rw [zcl, qR_nI hR]; omega
  have hR2 : qR (n1 * 2) (va_cpy f1 (fun _ => 0) (0 : Int32).toNatClampNeg (0 : Int32).toNatClampNeg (nI n1).toNatClampNeg) := by
    refine ⟨by omega, fun i hi => ?_⟩
    by_cases hk : i < (nI n1).toNatClampNeg
    · rw [show (0 : Int32).toNatClampNeg = 0 from rfl, sb_cpy0 hk]
      refine hR.2 _ ?_
      rw [hcl] at hk
      omega
    · rw [show (0 : Int32).toNatClampNeg = 0 from rfl, pk_cpy_out (Or.inr (by omega))]
      exact ⟨0, by decide, rfl⟩
  obtain ⟨NF, e, hl, ⟨u, hb, he⟩, hv⟩ := lp53 (I0 := I0) (x1 := x1) hR2
  refine ⟨NF, e, by omega, ⟨u, ⟨hb.1, hb.2.1, fun a b L hL => hb.2.2 a b L ?_ (fun c => by have := hL.2.1; omega)⟩, he⟩, fun Z hz => ⟨by omega, ⟨hl, by omega⟩, hR.2, hv Z hz⟩⟩
  obtain ⟨p, q, r⟩ := hL
  refine ⟨p, by omega, fun i hi h6 => ?_⟩
  rw [show (0 : Int32).toNatClampNeg = 0 from rfl, sb_cpy0 (by rw [hcl]; omega)]
  exact r i hi h6
