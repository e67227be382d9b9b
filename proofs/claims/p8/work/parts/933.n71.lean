/-! items put behind: arrays and lists -/
theorem cl_app {K M : Nat → Int32} : ∀ (n m i : Nat), cl K M i (n + m) = cl K M i n ++ cl K M (i + n) m
  | 0, m, i => by rw [Nat.zero_add]; rfl
  | n + 1, m, i => by
    rw [show n + 1 + m = n + m + 1 by omega]
    show ((K i).toInt, (M i).toInt) :: cl K M (i + 1) (n + m) = ((K i).toInt, (M i).toInt) :: cl K M (i + 1) n ++ _
    rw [cl_app n m (i + 1), show i + 1 + n = i + (n + 1) by omega]; rfl
theorem cl_g {K M K2 M2 : Nat → Int32} : ∀ (n i : Nat), (∀ j : Nat, i ≤ j → j < i + n → K2 j = K j ∧ M2 j = M j) → cl K2 M2 i n = cl K M i n
  | 0, _, _ => rfl
  | n + 1, i, h => by
    have a := h i (by omega) (by omega)
    show ((K2 i).toInt, (M2 i).toInt) :: cl K2 M2 (i + 1) n = ((K i).toInt, (M i).toInt) :: cl K M (i + 1) n
    rw [a.1, a.2, cl_g n (i + 1) (fun j b c => h j (by omega) (by omega))]
section
variable {K M K2 M2 K3 M3 : Nat → Int32} {a b c n n2 n3 : Int} {X Y : List (Int × Int)}
theorem csL (h : a ≤ b) : ((cs K M a b).length : Int) = b - a := by unfold cs; rw [cl_len]; omega
theorem cs_app (h0 : 0 ≤ a) (h1 : a ≤ b) (h2 : b ≤ c) : cs K M a c = cs K M a b ++ cs K M b c := by
  unfold cs
  rw [show (c - a).toNat = (b - a).toNat + (c - b).toNat by omega, cl_app, show a.toNat + (b - a).toNat = b.toNat by omega]
theorem cs_g (h0 : 0 ≤ a) (h : ∀ j : Nat, a ≤ (j : Int) → (j : Int) < b → K2 j = K j ∧ M2 j = M j) : cs K2 M2 a b = cs K M a b := by
  unfold cs
  exact cl_g _ _ (fun j p q => h j (by omega) (by omega))
def apA (K M : Nat → Int32) (n : Int) (K2 M2 : Nat → Int32) (n2 : Int) (X : List (Int × Int)) : Prop := n2 = n + X.length ∧ (∀ j : Nat, (j : Int) < n → K2 j = K j ∧ M2 j = M j) ∧ cs K2 M2 n n2 = X
theorem apA_0 (h : n2 = n) : apA K M n K M n2 [] := by
  subst h
  exact ⟨(Int.add_zero _).symm, fun _ _ => ⟨rfl, rfl⟩, cs_x (Int.le_refl _)⟩
theorem apA_1 {x k m : Int32} (hx : x.toInt = n) (h0 : 0 ≤ n) (h2 : n2 = n + 1) : apA K M n (upd K x.toNatClampNeg k) (upd M x.toNatClampNeg m) n2 [(k.toInt, m.toInt)] := by
  have e : x.toNatClampNeg = n.toNat := by rw [zcl, hx]
  refine ⟨h2, fun j hj => ?_, ?_⟩
  · rw [pk_un (by rw [e]; omega), pk_un (by rw [e]; omega)]; exact ⟨rfl, rfl⟩
  · rw [cs_s (y := n + 1) h0 (by omega) rfl rfl rfl, cs_x (by omega), e, pk_us, pk_us]
theorem apA_t (h0 : 0 ≤ n) (h : apA K M n K2 M2 n2 X) (k : apA K2 M2 n2 K3 M3 n3 Y) : apA K M n K3 M3 n3 (X ++ Y) := by
  obtain ⟨a1, a2, a3⟩ := h
  obtain ⟨b1, b2, b3⟩ := k
  refine ⟨by rw [List.length_append]; omega, fun j hj => ?_, ?_⟩
  · have p := a2 j hj
    have q := b2 j (by omega)
    exact ⟨q.1.trans p.1, q.2.trans p.2⟩
  · rw [cs_app (b := n2) h0 (by omega) (by omega), b3, cs_g h0 (fun j _ q => b2 j q), a3]
theorem apA_cs (h : apA K M n K2 M2 n2 X) (h0 : 0 ≤ a) (h1 : a ≤ n) : cs K2 M2 a n2 = cs K M a n ++ X := by
  obtain ⟨a1, a2, a3⟩ := h
  rw [cs_app (b := n) h0 h1 (by omega), a3, cs_g h0 (fun j _ q => a2 j q)]
theorem apA_e (h : apA K M n K2 M2 n2 X) (e : X = Y) : apA K M n K2 M2 n2 Y := by subst e; exact h
end
theorem chL_s {k : Int} {f : Nat → Int32} {e : Int} : ∀ (n : Nat) (p : Int), chL k f e p (n + 1) = chL k f e p n ++ [(k, ych f e (p + n))]
  | 0, p => by show [(k, ych f e p)] = [(k, ych f e (p + ((0 : Nat) : Int)))]; rw [show p + ((0 : Nat) : Int) = p by omega]
  | n + 1, p => by
    show (k, ych f e p) :: chL k f e (p + 1) (n + 1) = (k, ych f e p) :: (chL k f e (p + 1) n ++ [(k, ych f e (p + ((n + 1 : Nat) : Int)))])
    rw [chL_s n (p + 1), show p + 1 + (n : Int) = p + ((n + 1 : Nat) : Int) by omega]
theorem chL_len {k : Int} {f : Nat → Int32} {e : Int} : ∀ (n : Nat) (p : Int), (chL k f e p n).length = n
  | 0, _ => rfl
  | n + 1, p => by show (chL k f e (p + 1) n).length + 1 = _; rw [chL_len n]
theorem cK_ch {j k : Int} {f : Nat → Int32} {e : Int} : ∀ (n : Nat) (p : Int), cK j (chL k f e p n) = if k = j then (n : Int) else 0
  | 0, _ => by show (0 : Int) = _; split <;> rfl
  | n + 1, p => by
    show (if k = j then 1 else 0) + cK j (chL k f e (p + 1) n) = _
    rw [cK_ch n]
    split <;> omega
theorem gvF_app : ∀ (l r : List (Int × Int)) (a : Int), gvF a (l ++ r) = gvF (gvF a l) r
  | [], _, _ => rfl
  | p :: l, r, a => gvF_app l r (if p.1 = 12 then 10 * a + p.2 - 48 else a)
theorem gvF_0 : ∀ (l : List (Int × Int)) (a : Int), cK 12 l = 0 → gvF a l = a
  | [], _, _ => rfl
  | p :: l, a, h => by
    have h : (if p.1 = 12 then 1 else 0) + cK 12 l = 0 := h
    have c := cK_0 (k := 12) l
    show gvF (if p.1 = 12 then 10 * a + p.2 - 48 else a) l = a
    by_cases d : p.1 = 12
    · rw [if_pos d] at h; omega
    · rw [if_neg d] at h ⊢; exact gvF_0 l a (by omega)
theorem pmA_00 : ∀ (l : List (Int × Int)) (a : Int), cK 29 l = 0 → pmA a l = a
  | [], _, _ => rfl
  | p :: l, a, h => by
    have h : (if p.1 = 29 then 1 else 0) + cK 29 l = 0 := h
    have c := cK_0 (k := 29) l
    show pmA (if p.1 = 29 ∧ a < p.2 then p.2 else a) l = a
    by_cases d : p.1 = 29
    · rw [if_pos d] at h; omega
    · rw [if_neg d] at h; rw [if_neg (fun q => d q.1)]; exact pmA_00 l a (by omega)
/-! what a section's cells say of its items -/
def sCt (S : Nat → Int32) (L : List (Int × Int)) (pc : Int) : Prop :=
  ((S 3).toInt = cK 2 L ∧ (S 4).toInt = cK 3 L ∧ (S 7).toInt = cK 6 L ∧ (S 8).toInt = pc) ∧ ((S 9).toInt = cK 8 L ∧ (S 10).toInt = cK 9 L ∧ (S 11).toInt = cK 11 L) ∧ (S 12).toInt = gvF 0 L ∧ (S 13).toInt = pmA 0 L ∧ (S 6).toInt = (if 0 < cK 5 L then 1 else 0) ∧ (S 14).toInt = (if 0 < cK 30 L then 1 else 0)
/-- kinds that a section's cells do not count -/
def neu (X : List (Int × Int)) : Prop := (cK 2 X = 0 ∧ cK 3 X = 0 ∧ cK 6 X = 0) ∧ (cK 8 X = 0 ∧ cK 9 X = 0 ∧ cK 11 X = 0) ∧ cK 12 X = 0 ∧ cK 29 X = 0 ∧ cK 5 X = 0 ∧ cK 30 X = 0
theorem neu_1 {k c : Int} (h : k = 0 ∨ k = 1 ∨ k = 4 ∨ k = 13 ∨ k = 15 ∨ (20 ≤ k ∧ k ≤ 28)) : neu [(k, c)] := by
  have z : ∀ j : Int, ¬ k = j → cK j [(k, c)] = 0 := fun j hj => by
    show (if k = j then 1 else 0) + 0 = (0 : Int)
    rw [if_neg hj]; rfl
  refine ⟨⟨z _ ?_, z _ ?_, z _ ?_⟩, ⟨z _ ?_, z _ ?_, z _ ?_⟩, z _ ?_, z _ ?_, z _ ?_, z _ ?_⟩ <;> omega
theorem neu_a {X Y : List (Int × Int)} (h : neu X) (k : neu Y) : neu (X ++ Y) := by
  unfold neu at *
  simp only [cK_a]
  omega
theorem neu_ch {f : Nat → Int32} {e p : Int} {n : Nat} : neu (chL 1 f e p n) := by
  have z : ∀ j : Int, ¬ (1 : Int) = j → cK j (chL 1 f e p n) = 0 := fun j hj => by rw [cK_ch, if_neg hj]
  exact ⟨⟨z _ (by decide), z _ (by decide), z _ (by decide)⟩, ⟨z _ (by decide), z _ (by decide), z _ (by decide)⟩, z _ (by decide), z _ (by decide), z _ (by decide), z _ (by decide)⟩
theorem neu_c {k c : Int} {X : List (Int × Int)} (h : neu [(k, c)]) (hX : neu X) : neu ((k, c) :: X) := neu_a h hX
theorem neu_qt {f : Nat → Int32} {e p : Int} : ∀ n : Nat, neu (qtL f e p n)
  | 0 => neu_1 (by omega)
  | n + 1 => neu_c (neu_1 (by omega)) neu_ch
theorem sC_app {S S2 : Nat → Int32} {L X : List (Int × Int)} {pc d : Int} (h : sCt S L pc) (e3 : (S2 3).toInt = (S 3).toInt + cK 2 X) (e4 : (S2 4).toInt = (S 4).toInt + cK 3 X) (e7 : (S2 7).toInt = (S 7).toInt + cK 6 X) (e8 : (S2 8).toInt = (S 8).toInt + d) (e9 : (S2 9).toInt = (S 9).toInt + cK 8 X) (e10 : (S2 10).toInt = (S 10).toInt + cK 9 X) (e11 : (S2 11).toInt = (S 11).toInt + cK 11 X) (e12 : (S2 12).toInt = gvF (S 12).toInt X) (e13 : (S2 13).toInt = pmA (S 13).toInt X) (e6 : (S2 6).toInt = (if 0 < cK 5 L + cK 5 X then 1 else 0)) (e14 : (S2 14).toInt = (if 0 < cK 30 L + cK 30 X then 1 else 0)) : sCt S2 (L ++ X) (pc + d) := by
  obtain ⟨⟨a1, a2, a3, a4⟩, ⟨b1, b2, b3⟩, c1, c2, c3, c4⟩ := h
  refine ⟨⟨?_, ?_, ?_, ?_⟩, ⟨?_, ?_, ?_⟩, ?_, ?_, ?_, ?_⟩
  · rw [e3, a1, cK_a]
  · rw [e4, a2, cK_a]
  · rw [e7, a3, cK_a]
  · rw [e8, a4]
  · rw [e9, b1, cK_a]
  · rw [e10, b2, cK_a]
  · rw [e11, b3, cK_a]
  · rw [e12, c1, gvF_app]
  · rw [e13, c2, pmA_app]
  · rw [e6, cK_a]
  · rw [e14, cK_a]
theorem az {a b : Int} (h : b = 0) : a = a + b := by omega
theorem sC_n {S : Nat → Int32} {L X : List (Int × Int)} {pc : Int} (h : sCt S L pc) (hX : neu X) : sCt S (L ++ X) (pc + 0) := by
  obtain ⟨⟨a1, a2, a3⟩, ⟨b1, b2, b3⟩, c1, c2, c3, c4⟩ := hX
  refine sC_app h (az a1) (az a2) (az a3) (az rfl) (az b1) (az b2) (az b3) (gvF_0 _ _ c1).symm (pmA_00 _ _ c2).symm ?_ ?_
  · rw [c3, Int.add_zero]; exact h.2.2.2.2.1
  · rw [c4, Int.add_zero]; exact h.2.2.2.2.2
theorem cK_11 {k c j : Int} : cK j [(k, c)] = if k = j then 1 else 0 := by
  show (if k = j then 1 else 0) + 0 = _
  rw [Int.add_zero]
section
variable {S : Nat → Int32} {L : List (Int × Int)} {pc c : Int}
theorem if5 {a d : Int} (h : sCt S L pc) (ha : a = (S 6).toInt) (hd : d = 0) : a = (if 0 < cK 5 L + d then 1 else 0) := by rw [ha, hd, Int.add_zero]; exact h.2.2.2.2.1
theorem if30 {a d : Int} (h : sCt S L pc) (ha : a = (S 14).toInt) (hd : d = 0) : a = (if 0 < cK 30 L + d then 1 else 0) := by rw [ha, hd, Int.add_zero]; exact h.2.2.2.2.2
theorem sC_2 (h : sCt S L pc) (hb : cK 2 L ≤ 1000) : sCt (zu S 3 (S 3 + 1)) (L ++ [(2, c)]) (pc + 0) := by
  have l0 := cK_0 (k := 2) L
  have e := h.1.1
  refine sC_app h ?_ (az rfl) (az rfl) (az rfl) (az rfl) (az rfl) (az rfl) rfl rfl (if5 h rfl rfl) (if30 h rfl rfl)
  show (S 3 + 1).toInt = (S 3).toInt + 1
  exact zadd1 (by simp only [Int32.reduceToInt]; omega) (by simp only [Int32.reduceToInt]; omega)
theorem sC_3 (h : sCt S L pc) (hb : cK 3 L ≤ 1000) : sCt (zu S 4 (S 4 + 1)) (L ++ [(3, c)]) (pc + 0) := by
  have l0 := cK_0 (k := 3) L
  have e := h.1.2.1
  refine sC_app h (az rfl) ?_ (az rfl) (az rfl) (az rfl) (az rfl) (az rfl) rfl rfl (if5 h rfl rfl) (if30 h rfl rfl)
  show (S 4 + 1).toInt = (S 4).toInt + 1
  exact zadd1 (by simp only [Int32.reduceToInt]; omega) (by simp only [Int32.reduceToInt]; omega)
theorem sC_4 (h : sCt S L pc) : sCt (zu S 5 1) (L ++ [(4, c)]) (pc + 0) := sC_app h (az rfl) (az rfl) (az rfl) (az rfl) (az rfl) (az rfl) (az rfl) rfl rfl (if5 h rfl rfl) (if30 h rfl rfl)
theorem sC_5 (h : sCt S L pc) : sCt (zu S 6 1) (L ++ [(5, c)]) (pc + 0) := by
  have l0 := cK_0 (k := 5) L
  refine sC_app h (az rfl) (az rfl) (az rfl) (az rfl) (az rfl) (az rfl) (az rfl) rfl rfl ?_ (if30 h rfl rfl)
  show (1 : Int32).toInt = (if 0 < cK 5 L + 1 then 1 else 0)
  rw [if_pos (by omega)]; decide
theorem sC_6 (h : sCt S L pc) (hb : cK 6 L ≤ 1000) : sCt (zu S 7 (S 7 + 1)) (L ++ [(6, c)]) (pc + 0) := by
  have l0 := cK_0 (k := 6) L
  have e := h.1.2.2.1
  refine sC_app h (az rfl) (az rfl) ?_ (az rfl) (az rfl) (az rfl) (az rfl) rfl rfl (if5 h rfl rfl) (if30 h rfl rfl)
  show (S 7 + 1).toInt = (S 7).toInt + 1
  exact zadd1 (by simp only [Int32.reduceToInt]; omega) (by simp only [Int32.reduceToInt]; omega)
theorem sC_pc (h : sCt S L pc) (h0 : 0 ≤ pc) (hb : pc ≤ 1000) : sCt (zu S 8 (S 8 + 1)) (L ++ [(1, c)]) (pc + 1) := by
  have e := h.1.2.2.2
  refine sC_app h (az rfl) (az rfl) (az rfl) ?_ (az rfl) (az rfl) (az rfl) rfl rfl (if5 h rfl rfl) (if30 h rfl rfl)
  show (S 8 + 1).toInt = (S 8).toInt + 1
  exact zadd1 (by simp only [Int32.reduceToInt]; omega) (by simp only [Int32.reduceToInt]; omega)
theorem sC_30 (h : sCt S L pc) : sCt (zu S 14 1) (L ++ [(30, c)]) (pc + 0) := by
  have l0 := cK_0 (k := 30) L
  refine sC_app h (az rfl) (az rfl) (az rfl) (az rfl) (az rfl) (az rfl) (az rfl) rfl rfl (if5 h rfl rfl) ?_
  show (1 : Int32).toInt = (if 0 < cK 30 L + 1 then 1 else 0)
  rw [if_pos (by omega)]; decide
theorem sC_29 {x : Int32} (h : sCt S L pc) : sCt (zu S 13 (zmax (S 13) x)) (L ++ [(29, x.toInt)]) (pc + 0) := by
  refine sC_app h (az rfl) (az rfl) (az rfl) (az rfl) (az rfl) (az rfl) (az rfl) rfl ?_ (if5 h rfl rfl) (if30 h rfl rfl)
  show (zmax (S 13) x).toInt = (if (29 : Int) = 29 ∧ (S 13).toInt < x.toInt then x.toInt else (S 13).toInt)
  rw [qmax]
  by_cases c : (S 13).toInt < x.toInt
  · rw [if_pos c, if_pos ⟨rfl, c⟩]
  · rw [if_neg c, if_neg (fun q => c q.2)]
theorem sC_7 {f : Nat → Int32} {e q : Int} {n : Nat} {x : Int32} (h : sCt S L pc) (h8 : cK 8 L = 0) (hx : x.toInt = n) : sCt (zu (zu S 0 3) 9 x) (L ++ (7, c) :: chL 8 f e q n) (pc + 0) := by
  have s : ∀ j : Int, ¬ (7 : Int) = j → cK j ((7, c) :: chL 8 f e q n) = cK j (chL 8 f e q n) := fun j hj => by
    show (if (7 : Int) = j then 1 else 0) + _ = _
    rw [if_neg hj, Int.zero_add]
  have z : ∀ j : Int, ¬ (7 : Int) = j → ¬ (8 : Int) = j → cK j ((7, c) :: chL 8 f e q n) = 0 := fun j h7 h8 => by rw [s j h7, cK_ch, if_neg h8]
  have e9 := h.2.1.1
  refine sC_app h (az (z 2 (by decide) (by decide))) (az (z 3 (by decide) (by decide))) (az (z 6 (by decide) (by decide))) (az rfl) ?_ (az (z 9 (by decide) (by decide))) (az (z 11 (by decide) (by decide))) (gvF_0 _ _ (z 12 (by decide) (by decide))).symm (pmA_00 _ _ (z 29 (by decide) (by decide))).symm ?_ ?_
  · show x.toInt = (S 9).toInt + _
    rw [s 8 (by decide), cK_ch, if_pos rfl, e9, h8, hx]; omega
  · rw [z 5 (by decide) (by decide), Int.add_zero]; exact h.2.2.2.2.1
  · rw [z 30 (by decide) (by decide), Int.add_zero]; exact h.2.2.2.2.2
end
/-! the numerator's change -/
def lk2 : List (Int × Int) → Prop
  | [] => True
  | [p] => ¬ p.1 = 2
  | _ :: q :: r => lk2 (q :: r)
theorem a2_f {B : List (Int × Int)} : ∀ (r : List (Int × Int)) (p : Int × Int), lk2 (p :: r) → a2 ((p :: r) ++ B) = false
  | [], p, h => by
    show (p.1 == 2 && a2 B) = false
    have : (p.1 == 2) = false := by rw [beq_eq_false_iff_ne]; exact h
    rw [this]; rfl
  | q :: r, p, h => by
    show (p.1 == 2 && a2 ((q :: r) ++ B)) = false
    rw [a2_f r q h, Bool.and_false]
theorem nrL_s {B : List (Int × Int)} : ∀ A : List (Int × Int), lk2 A → nrL (A ++ B) = A ++ nrL B
  | [], _ => rfl
  | [p], h => by
    show (if p.1 = 2 ∧ a2 B = true then (9, p.2) else p) :: nrL B = _
    rw [if_neg (fun q => h q.1)]; rfl
  | p :: q :: r, h => by
    show (if p.1 = 2 ∧ a2 ((q :: r) ++ B) = true then (9, p.2) else p) :: nrL ((q :: r) ++ B) = _
    rw [a2_f r q h, if_neg (fun w => by cases w.2), nrL_s (q :: r) h]; rfl
def m9 : List (Int × Int) → List (Int × Int)
  | [] => []
  | p :: r => (9, p.2) :: m9 r
theorem nrL_9 : ∀ B : List (Int × Int), a2 B = true → nrL B = m9 B
  | [], _ => rfl
  | p :: r, h => by
    have h : (p.1 == 2 && a2 r) = true := h
    rw [Bool.and_eq_true, beq_iff_eq] at h
    show (if p.1 = 2 ∧ a2 r = true then (9, p.2) else p) :: nrL r = _
    rw [if_pos h, nrL_9 r h.2]; rfl
