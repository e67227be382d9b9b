/-! minutes of the class -/
def pvK (h : Int) : List (Int × Int) → Int
  | [] => h
  | p :: r => pvK (if 20 ≤ p.1 then p.1 else h) r
theorem pvK_s : ∀ (A : List (Int × Int)) (p : Int × Int) (h : Int), pvK h (A ++ [p]) = if 20 ≤ p.1 then p.1 else pvK h A
  | [], _, _ => rfl
  | q :: A, p, h => pvK_s A p (if 20 ≤ q.1 then q.1 else h)
theorem zdec1 {x : Int32} (h1 : -1000 ≤ x.toInt) (h2 : x.toInt ≤ 1000) : (x + (-1)).toInt = x.toInt - 1 := by
  have m1 : (-1 : Int32).toInt = -1 := by decide
  rw [zadd1 (x := x) (y := -1) (by rw [m1]; omega) (by rw [m1]; omega), m1]; omega
section
variable {I0 I1 I2 f3 f4 M : Nat → Int32} {x1 : Int32}
theorem g_behind {Z1 Z2 : Int32 → Unit → Prop} (ha : 0 ≤ (I1 1).toInt) (hx : (I1 1).toInt ≤ x1.toInt) (hn : x1.toInt ≤ (I2 4).toInt) (h6 : (I2 4).toInt ≤ 64) (hZ : ∀ (r : Int32) (u : Unit), ((r.toInt = 1 ∧ (pvK 0 (cs f3 M (I1 1).toInt x1.toInt) = 23 ∨ pvK 0 (cs f3 M (I1 1).toInt x1.toInt) = 26)) ∨ (r.toInt = 0 ∧ ¬ (pvK 0 (cs f3 M (I1 1).toInt x1.toInt) = 23 ∨ pvK 0 (cs f3 M (I1 1).toInt x1.toInt) = 26))) → Z1 r u → Z2 r u) : v_Reader_isBehindHours_0 I0 I1 I2 64 f3 x1 Z1 → v_Reader_isBehindHours_0 I0 I1 I2 64 f3 x1 Z2 := by
  generalize hP : pvK 0 (cs f3 M (I1 1).toInt x1.toInt) = P at hZ
  have g57 : ∀ s : Int32, s.toInt = P → v_Reader_isBehindHours_57 I0 I1 I2 64 f3 s Z1 → v_Reader_isBehindHours_57 I0 I1 I2 64 f3 s Z2 := fun s hs => by
    refine x_Reader_isBehindHours_57 (fI_ite (fun c => hZ 1 () (Or.inl ⟨by decide, Or.inl ?_⟩)) (fun c => fI_ite' (fun d => hZ 0 () (Or.inr ⟨by decide, fun q => ?_⟩)) (fun d => hZ 1 () (Or.inl ⟨by decide, Or.inr ?_⟩))))
    · rw [← hs, c]; decide
    · rcases q with q | q
      · exact c (zle_eq.2 ((hs.trans q).trans (by decide)))
      · exact d (zle_eq.2 ((hs.trans q).trans (by decide)))
    · rw [← hs, d]; decide
  have g34 : ∀ x : Int32, x.toInt < (I2 4).toInt → (x.toInt < (I1 1).toInt → P = 0) → (¬ x.toInt < (I1 1).toInt → P = (f3 x.toInt.toNat).toInt) → v_Reader_isBehindHours_34 I0 I1 I2 64 f3 x Z1 → v_Reader_isBehindHours_34 I0 I1 I2 64 f3 x Z2 := fun x hl h1 h2 => by
    refine x_Reader_isBehindHours_34 (fI_ite (fun c => g57 0 ?_) (fun c => h_Code_kind trivial (fun r u hr => x_Reader_isBehindHours_53 (g57 r ?_))))
    · rw [zle_lt] at c; rw [h1 c]; decide
    · rw [zle_lt] at c
      rw [h2 c]
      rcases hr with ⟨w, _⟩ | ⟨_, w⟩
      · exact absurd ⟨by omega, by omega, by omega⟩ w
      · exact w
  have lp : ∀ (N : Nat) (x : Int32), (I1 1).toInt ≤ x.toInt + 1 → x.toInt + 1 ≤ x1.toInt → P = pvK 0 (cs f3 M (I1 1).toInt (x.toInt + 1)) → v_Reader_isBehindHours_4 I0 I1 I2 64 f3 Z1 N x → v_Reader_isBehindHours_4 I0 I1 I2 64 f3 Z2 N x := by
    intro N
    induction N with
    | zero => intro x _ _ _ h; exact h.elim
    | succ N ih =>
      intro x h1 h2 hp
      have ex : ¬ x.toInt < (I1 1).toInt → P = if 20 ≤ (f3 x.toInt.toNat).toInt then (f3 x.toInt.toNat).toInt else pvK 0 (cs f3 M (I1 1).toInt x.toInt) := fun c => by rw [hp, cs_lst ha (by omega), pvK_s]
      refine x_Reader_isBehindHours_4 (fI_ite (fun c => g34 x (by omega) (fun q => by rw [hp, cs_x (by omega)]; rfl) (fun q => absurd (zle_lt.1 c) q)) (fun c => h_Code_kind trivial (fun r u hr => x_Reader_isBehindHours_23 ?_)))
      rw [zle_lt] at c
      have hr2 : r.toInt = (f3 x.toInt.toNat).toInt := by
        rcases hr with ⟨w, _⟩ | ⟨_, w⟩
        · exact absurd ⟨by omega, by omega, by omega⟩ w
        · exact w
      have ex := ex c
      rw [← hr2] at ex
      refine fI_ite (fun d => g34 x (by omega) (fun q => absurd q c) (fun _ => ?_)) (fun d => ih _ ?_ ?_ ?_)
      · simp only [zle_le, Int32.reduceToInt] at d
        rw [if_pos d] at ex; rw [ex, hr2]
      · rw [zdec1 (by omega) (by omega)]; omega
      · rw [zdec1 (by omega) (by omega)]; omega
      · simp only [zle_le, Int32.reduceToInt] at d
        rw [if_neg d] at ex
        rw [zdec1 (by omega) (by omega), ex, show x.toInt - 1 + 1 = x.toInt by omega]
  have e1 : (x1 - 1).toInt = x1.toInt - 1 := zsub1 (by simp only [Int32.reduceToInt]; omega) (by simp only [Int32.reduceToInt]; omega)
  exact x_Reader_isBehindHours_0 (fI_ex (fun N => lp N (x1 - 1) (by omega) (by omega) (by rw [e1, ← hP, show x1.toInt - 1 + 1 = x1.toInt by omega])))
theorem g_before {Z1 Z2 : Int32 → Unit → Prop} (ha : 0 ≤ x1.toInt) (hx : x1.toInt < (I1 2).toInt) (hn : (I1 2).toInt ≤ (I2 4).toInt) (h6 : (I2 4).toInt ≤ 64) (hZ : ∀ (r : Int32) (u : Unit), ((r.toInt = 1 ∧ (nxK (cs f3 M (x1.toInt + 1) (I1 2).toInt) = 25 ∨ nxK (cs f3 M (x1.toInt + 1) (I1 2).toInt) = 28)) ∨ (r.toInt = 0 ∧ ¬ (nxK (cs f3 M (x1.toInt + 1) (I1 2).toInt) = 25 ∨ nxK (cs f3 M (x1.toInt + 1) (I1 2).toInt) = 28))) → Z1 r u → Z2 r u) : v_Reader_isBeforeSeconds_0 I0 I1 I2 64 f3 x1 Z1 → v_Reader_isBeforeSeconds_0 I0 I1 I2 64 f3 x1 Z2 := by
  generalize hP : nxK (cs f3 M (x1.toInt + 1) (I1 2).toInt) = P at hZ
  have g57 : ∀ s : Int32, s.toInt = P → v_Reader_isBeforeSeconds_57 I0 I1 I2 64 f3 s Z1 → v_Reader_isBeforeSeconds_57 I0 I1 I2 64 f3 s Z2 := fun s hs => by
    refine x_Reader_isBeforeSeconds_57 (fI_ite (fun c => hZ 1 () (Or.inl ⟨by decide, Or.inl ?_⟩)) (fun c => fI_ite' (fun d => hZ 0 () (Or.inr ⟨by decide, fun q => ?_⟩)) (fun d => hZ 1 () (Or.inl ⟨by decide, Or.inr ?_⟩))))
    · rw [← hs, c]; decide
    · rcases q with q | q
      · exact c (zle_eq.2 ((hs.trans q).trans (by decide)))
      · exact d (zle_eq.2 ((hs.trans q).trans (by decide)))
    · rw [← hs, d]; decide
  have g34 : ∀ x : Int32, 0 ≤ x.toInt → ((I1 2).toInt ≤ x.toInt → P = 0) → (¬ (I1 2).toInt ≤ x.toInt → P = (f3 x.toInt.toNat).toInt) → v_Reader_isBeforeSeconds_34 I0 I1 I2 64 f3 x Z1 → v_Reader_isBeforeSeconds_34 I0 I1 I2 64 f3 x Z2 := fun x hl h1 h2 => by
    refine x_Reader_isBeforeSeconds_34 (fI_ite (fun c => g57 0 ?_) (fun c => h_Code_kind trivial (fun r u hr => x_Reader_isBeforeSeconds_53 (g57 r ?_))))
    · rw [zle_le] at c; rw [h1 c]; decide
    · rw [zle_le] at c
      rw [h2 c]
      rcases hr with ⟨w, _⟩ | ⟨_, w⟩
      · exact absurd ⟨by omega, by omega, by omega⟩ w
      · exact w
  have lp : ∀ (N : Nat) (x : Int32), 0 ≤ x.toInt → x.toInt ≤ (I1 2).toInt → P = nxK (cs f3 M x.toInt (I1 2).toInt) → v_Reader_isBeforeSeconds_4 I0 I1 I2 64 f3 Z1 N x → v_Reader_isBeforeSeconds_4 I0 I1 I2 64 f3 Z2 N x := by
    intro N
    induction N with
    | zero => intro x _ _ _ h; exact h.elim
    | succ N ih =>
      intro x h1 h2 hp
      have ex : ¬ (I1 2).toInt ≤ x.toInt → P = if 20 ≤ (f3 x.toInt.toNat).toInt then (f3 x.toInt.toNat).toInt else nxK (cs f3 M (x.toInt + 1) (I1 2).toInt) := fun c => by rw [hp, cs_s (x := x.toInt) (y := x.toInt + 1) h1 (by omega) rfl rfl rfl]; rfl
      refine x_Reader_isBeforeSeconds_4 (fI_ite (fun c => g34 x h1 (fun q => by rw [hp, cs_x (by omega)]; rfl) (fun q => absurd (zle_le.1 c) q)) (fun c => h_Code_kind trivial (fun r u hr => x_Reader_isBeforeSeconds_23 ?_)))
      rw [zle_le] at c
      have hr2 : r.toInt = (f3 x.toInt.toNat).toInt := by
        rcases hr with ⟨w, _⟩ | ⟨_, w⟩
        · exact absurd ⟨by omega, by omega, by omega⟩ w
        · exact w
      have ex := ex c
      rw [← hr2] at ex
      refine fI_ite (fun d => g34 x h1 (fun q => absurd q c) (fun _ => ?_)) (fun d => ih _ ?_ ?_ ?_)
      · simp only [zle_le, Int32.reduceToInt] at d
        rw [if_pos d] at ex; rw [ex, hr2]
      all_goals
        have e1 : (x + 1).toInt = x.toInt + 1 := zadd1 (by simp only [Int32.reduceToInt]; omega) (by simp only [Int32.reduceToInt]; omega)
        rw [e1]
      · omega
      · omega
      · simp only [zle_le, Int32.reduceToInt] at d
        rw [if_neg d] at ex
        exact ex
  have e1 : (x1 + 1).toInt = x1.toInt + 1 := zadd1 (by simp only [Int32.reduceToInt]; omega) (by simp only [Int32.reduceToInt]; omega)
  exact x_Reader_isBeforeSeconds_0 (fI_ex (fun N => lp N (x1 + 1) (by omega) (by omega) (by rw [e1, ← hP])))
theorem g_findMinutes {Z1 Z2 : (Nat → Int32) → Prop} (ha : 0 ≤ (I1 1).toInt) (hx : (I1 1).toInt ≤ (I1 2).toInt) (hn : (I1 2).toInt ≤ (I2 4).toInt) (h6 : (I2 4).toInt ≤ 64) (hZ : ∀ g : Nat → Int32, cs g f4 (I1 1).toInt (I1 2).toInt = mnG 0 (cs f3 f4 (I1 1).toInt (I1 2).toInt) → (∀ j : Nat, (j : Int) < (I1 1).toInt → g j = f3 j) → Z1 g → Z2 g) : v_Reader_findMinutes_0 I0 I1 I2 64 f3 64 f4 Z1 → v_Reader_findMinutes_0 I0 I1 I2 64 f3 64 f4 Z2 := by
  have lp : ∀ (N : Nat) (g : Nat → Int32) (x : Int32) (h : Int), (I1 1).toInt ≤ x.toInt → x.toInt ≤ (I1 2).toInt → (∀ j : Nat, (j : Int) < (I1 1).toInt → g j = f3 j) → (∀ j : Nat, x.toInt ≤ (j : Int) → g j = f3 j) → mnG 0 (cs f3 f4 (I1 1).toInt (I1 2).toInt) = cs g f4 (I1 1).toInt x.toInt ++ mnG h (cs f3 f4 x.toInt (I1 2).toInt) → ((h = 23 ∨ h = 26) ↔ (pvK 0 (cs g f4 (I1 1).toInt x.toInt) = 23 ∨ pvK 0 (cs g f4 (I1 1).toInt x.toInt) = 26)) → v_Reader_findMinutes_8 I0 I1 I2 64 64 f4 Z1 N g x → v_Reader_findMinutes_8 I0 I1 I2 64 64 f4 Z2 N g x := by
    intro N
    induction N with
    | zero => intro g x h _ _ _ _ _ _ q; exact q.elim
    | succ N ih =>
      intro g x h hx1 hx2 hl hh hm hp
      refine x_Reader_findMinutes_8 (fI_ite (fun c => hZ g ?_ hl) (fun c => h_Code_kind trivial (fun r u hr => ?_)))
      · rw [zle_le] at c
        rw [hm, cs_x (x := x.toInt) (by omega), show (I1 2).toInt = x.toInt by omega]
        exact (List.append_nil _).symm
      · rw [zle_le] at c
        have hr2 : r.toInt = (g x.toInt.toNat).toInt := by
          rcases hr with ⟨w, _⟩ | ⟨_, w⟩
          · exact absurd ⟨by omega, by omega, by omega⟩ w
          · exact w
        have gx : g x.toInt.toNat = f3 x.toInt.toNat := hh _ (by omega)
        have e1 : (x + 1).toInt = x.toInt + 1 := zadd1 (by simp only [Int32.reduceToInt]; omega) (by simp only [Int32.reduceToInt]; omega)
        have es := cs_s (K := f3) (M := f4) (x := x.toInt) (y := x.toInt + 1) (e := (I1 2).toInt) (by omega) (by omega) rfl rfl rfl
        have eg : cs g f4 (x.toInt + 1) (I1 2).toInt = cs f3 f4 (x.toInt + 1) (I1 2).toInt := cs_g (by omega) (fun j a _ => ⟨hh j (by omega), rfl⟩)
        rw [es] at hm
        have hm : mnG 0 (cs f3 f4 (I1 1).toInt (I1 2).toInt) = cs g f4 (I1 1).toInt x.toInt ++ ((if (f3 x.toInt.toNat).toInt = 21 ∧ (f4 x.toInt.toNat).toInt ≤ 2 ∧ (h = 23 ∨ h = 26 ∨ nxK (cs f3 f4 (x.toInt + 1) (I1 2).toInt) = 25 ∨ nxK (cs f3 f4 (x.toInt + 1) (I1 2).toInt) = 28) then (24, (f4 x.toInt.toNat).toInt) else ((f3 x.toInt.toNat).toInt, (f4 x.toInt.toNat).toInt)) :: mnG (if 20 ≤ (f3 x.toInt.toNat).toInt then (f3 x.toInt.toNat).toInt else h) (cs f3 f4 (x.toInt + 1) (I1 2).toInt)) := hm
        rw [← eg, ← gx, ← hr2] at hm
        -- no change
        have g80 : ¬ (r.toInt = 21 ∧ (f4 x.toInt.toNat).toInt ≤ 2 ∧ (h = 23 ∨ h = 26 ∨ nxK (cs g f4 (x.toInt + 1) (I1 2).toInt) = 25 ∨ nxK (cs g f4 (x.toInt + 1) (I1 2).toInt) = 28)) → v_Reader_findMinutes_80 I0 I1 I2 64 g 64 f4 x (v_Reader_findMinutes_8 I0 I1 I2 64 64 f4 Z1 N) Z1 → v_Reader_findMinutes_80 I0 I1 I2 64 g 64 f4 x (v_Reader_findMinutes_8 I0 I1 I2 64 64 f4 Z2 N) Z2 := fun q => by
          refine x_Reader_findMinutes_80 (ih g (x + 1) (if 20 ≤ r.toInt then r.toInt else h) (by omega) (by omega) hl (fun j a => hh j (by omega)) ?_ ?_)
          · rw [if_neg q] at hm
            rw [e1, hm, cs_lst ha hx1, hr2, List.append_assoc, eg]; rfl
          · rw [e1, cs_lst ha hx1, pvK_s, ← hr2]
            by_cases w : 20 ≤ r.toInt
            · rw [if_pos w, if_pos w]
            · rw [if_neg w, if_neg w]; exact hp
        have g70 : (r.toInt = 21 ∧ (f4 x.toInt.toNat).toInt ≤ 2 ∧ (h = 23 ∨ h = 26 ∨ nxK (cs g f4 (x.toInt + 1) (I1 2).toInt) = 25 ∨ nxK (cs g f4 (x.toInt + 1) (I1 2).toInt) = 28)) → v_Reader_findMinutes_70 I0 I1 I2 64 g 64 f4 x (v_Reader_findMinutes_8 I0 I1 I2 64 64 f4 Z1 N) Z1 → v_Reader_findMinutes_70 I0 I1 I2 64 g 64 f4 x (v_Reader_findMinutes_8 I0 I1 I2 64 64 f4 Z2 N) Z2 := fun q => by
          have ez : x.toNatClampNeg = x.toInt.toNat := zcl x
          have el : cs (upd g x.toNatClampNeg 24) f4 (I1 1).toInt x.toInt = cs g f4 (I1 1).toInt x.toInt := cs_g ha (fun j _ b => ⟨pk_un (by rw [ez]; omega), rfl⟩)
          have ev : (upd g x.toNatClampNeg 24 x.toInt.toNat).toInt = 24 := by rw [← ez, pk_us]; decide
          refine x_Reader_findMinutes_70 (g_Code_change (by omega) (by omega) h6 (x_Reader_findMinutes_80 (ih _ (x + 1) 21 (by omega) (by omega) (fun j a => ?_) (fun j a => ?_) ?_ ?_)))
          · rw [pk_un (by rw [ez]; omega)]; exact hl j a
          · rw [pk_un (by rw [ez]; omega)]; exact hh j (by omega)
          · rw [if_pos q, if_pos (by omega), q.1] at hm
            rw [e1, hm, cs_lst ha hx1, ev, el, List.append_assoc, eg]; rfl
          · rw [e1, cs_lst ha hx1, pvK_s, ev]
            rw [if_pos (show (20 : Int) ≤ 24 by decide)]
            constructor <;> (intro w; omega)
        have g49 : ∀ s : Int32, (s.toInt = 1 ∧ (r.toInt = 21 ∧ (f4 x.toInt.toNat).toInt ≤ 2) ∨ s.toInt = 0 ∧ ¬ (r.toInt = 21 ∧ (f4 x.toInt.toNat).toInt ≤ 2)) → v_Reader_findMinutes_49 I0 I1 I2 64 g 64 f4 x s (v_Reader_findMinutes_8 I0 I1 I2 64 64 f4 Z1 N) Z1 → v_Reader_findMinutes_49 I0 I1 I2 64 g 64 f4 x s (v_Reader_findMinutes_8 I0 I1 I2 64 64 f4 Z2 N) Z2 := fun s hs => by
          refine x_Reader_findMinutes_49 (fI_ite (fun d => g80 (fun q => ?_)) (fun d => ?_))
          · rcases hs with ⟨w, _⟩ | ⟨_, w⟩
            · rw [d] at w; exact absurd w (by decide)
            · exact w ⟨q.1, q.2.1⟩
          · have hs : r.toInt = 21 ∧ (f4 x.toInt.toNat).toInt ≤ 2 := by
              rcases hs with ⟨_, w⟩ | ⟨w, _⟩
              · exact w
              · exact absurd (zle_eq.2 (w.trans (by decide))) d
            refine g_behind (M := f4) ha hx1 (by omega) h6 (fun r3 u3 hr3 => x_Reader_findMinutes_59 (fI_ite' (fun d3 => g70 ?_) (fun d3 => g_before (M := f4) (by omega) (by omega) hn h6 (fun r4 u4 hr4 => x_Reader_findMinutes_67 (fI_ite (fun d4 => g80 (fun q => ?_)) (fun d4 => g70 ?_))))))
            · rcases hr3 with ⟨_, w⟩ | ⟨w, _⟩
              · have w := hp.2 w
                exact ⟨hs.1, hs.2, by omega⟩
              · exact absurd (zle_eq.2 (w.trans (by decide))) d3
            · have n3 : ¬ (h = 23 ∨ h = 26) := by
                rcases hr3 with ⟨w, _⟩ | ⟨_, w⟩
                · rw [d3] at w; exact absurd w (by decide)
                · exact fun q => w (hp.1 q)
              rcases hr4 with ⟨w, _⟩ | ⟨_, w⟩
              · rw [d4] at w; exact absurd w (by decide)
              · have q2 := q.2.2
                omega
            · rcases hr4 with ⟨_, w⟩ | ⟨w, _⟩
              · exact ⟨hs.1, hs.2, by omega⟩
              · exact absurd (zle_eq.2 (w.trans (by decide))) d4
        refine x_Reader_findMinutes_27 (fI_ite' (fun d => x_Reader_findMinutes_48 (g49 0 (Or.inr ⟨by decide, fun q => ?_⟩))) (fun d => h_Code_mark trivial (fun r5 u5 hr5 => x_Reader_findMinutes_40 ?_)))
        · exact d (zle_eq.2 (q.1.trans (by decide)))
        · have r21 : r.toInt = 21 := by rw [d]; decide
          have hr6 : r5.toInt = (f4 x.toInt.toNat).toInt := by
            rcases hr5 with ⟨w, _⟩ | ⟨_, w⟩
            · exact absurd ⟨by omega, by omega, by omega⟩ w
            · exact w
          refine fI_ite (fun d => x_Reader_findMinutes_48 (g49 0 (Or.inr ⟨by decide, fun q => ?_⟩))) (fun d => g49 1 (Or.inl ⟨by decide, r21, ?_⟩))
          · simp only [zle_lt, Int32.reduceToInt] at d; omega
          · simp only [zle_lt, Int32.reduceToInt] at d; omega
  exact x_Reader_findMinutes_0 (fI_ex (fun N => lp N f3 (I1 1) 0 (Int.le_refl _) hx (fun _ _ => rfl) (fun _ _ => rfl) (by rw [cs_x (x := (I1 1).toInt) (Int.le_refl _)]; rfl) (by rw [cs_x (x := (I1 1).toInt) (Int.le_refl _)]; exact Iff.rfl)))
end
