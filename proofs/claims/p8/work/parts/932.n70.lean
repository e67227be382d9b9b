/-! the items of a section as one list (kind 15: the first literal of quotes) -/
def chL (k : Int) (f : Nat → Int32) (e : Int) : Int → Nat → List (Int × Int)
  | _, 0 => []
  | p, n + 1 => (k, ych f e p) :: chL k f e (p + 1) n
def qtL (f : Nat → Int32) (e p : Int) : Nat → List (Int × Int)
  | 0 => [(0, 0)]
  | n + 1 => (15, ych f e p) :: chL 1 f e (p + 1) n
def cmL (f : Nat → Int32) (e p c : Int) : List (Int × Int) :=
  if ych f e p = 34 then qtL f e (p + 1) (c - 2).toNat else if ych f e p = 92 then [(1, ych f e (p + 1))] else if ych f e p = 95 then [(1, 32)] else if ych f e p = 42 ∨ ych f e p = 91 then [(0, 0)] else [(1, ych f e p)]
def nuL (f : Nat → Int32) (e p la pt r : Int) : List (Int × Int) :=
  if ysm (ych f e p) = 48 ∨ ysm (ych f e p) = 35 ∨ ysm (ych f e p) = 63 then [(if pt = 0 then 2 else 3, ysm (ych f e p))]
  else if ysm (ych f e p) = 46 then [(4, 46)]
  else if ysm (ych f e p) = 44 then (if la = 2 ∧ (ych f e (p + 1) = 48 ∨ ych f e (p + 1) = 35 ∨ ych f e (p + 1) = 63) then [(5, 44)] else [(6, 44)])
  else if ysm (ych f e p) = 37 then [(1, 37)]
  else if ysm (ych f e p) = 101 then (7, ych f e (p + 1)) :: chL 8 f e (p + 2) (r - 2).toNat
  else (10, 47) :: chL (if ych f e (p + 1) = 48 ∨ ych f e (p + 1) = 35 ∨ ych f e (p + 1) = 63 then 11 else 12) f e (p + 1) (r - 1).toNat
def daL (f : Nat → Int32) (e p r : Int) : List (Int × Int) :=
  if ysm (ych f e p) = 121 ∨ ysm (ych f e p) = 109 ∨ ysm (ych f e p) = 100 ∨ ysm (ych f e p) = 104 ∨ ysm (ych f e p) = 115 then [(rkR (ysm (ych f e p)), r)]
  else if ych f e p = 91 then [(rkA (ysm (ych f e (p + 1))), r - 2)]
  else if ysm (ych f e p) = 97 then [(30, if r = 5 then 2 else 1)]
  else if ych f e p = 46 ∧ ¬ r = 1 then [(29, r - 1)]
  else [(1, ych f e p)]
def itL (f : Nat → Int32) (e p kd la pt r c : Int) : List (Int × Int) :=
  if 0 < c then cmL f e p c else if kd = 2 then nuL f e p la pt r else if kd = 5 then daL f e p r else if kd = 6 ∧ ych f e p = 64 then [(13, 64)] else [(1, ych f e p)]
def pcI (f : Nat → Int32) (e p kd c : Int) : Int := if ¬ 0 < c ∧ kd = 2 ∧ ysm (ych f e p) = 37 then 1 else 0
/-- whole places at the end become the numerator's -/
def a2 : List (Int × Int) → Bool
  | [] => true
  | p :: r => p.1 == 2 && a2 r
def nrL : List (Int × Int) → List (Int × Int)
  | [] => []
  | p :: r => (if p.1 = 2 ∧ a2 r = true then (9, p.2) else p) :: nrL r
def stL (kd kd' : Int) (L X : List (Int × Int)) : List (Int × Int) := (if kd = 2 ∧ kd' = 4 then nrL L else L) ++ X
/-- minutes -/
def nxK : List (Int × Int) → Int
  | [] => 0
  | p :: r => if 20 ≤ p.1 then p.1 else nxK r
def mnG (h : Int) : List (Int × Int) → List (Int × Int)
  | [] => []
  | p :: r => (if p.1 = 21 ∧ p.2 ≤ 2 ∧ (h = 23 ∨ h = 26 ∨ nxK r = 25 ∨ nxK r = 28) then (24, p.2) else p) :: mnG (if 20 ≤ p.1 then p.1 else h) r
/-- as the class keeps them, as the reference does -/
def exC : List (Int × Int) → List (Int × Int)
  | [] => []
  | p :: r => if p.1 = 15 then (0, 0) :: (1, p.2) :: exC r else p :: exC r
def exR : List (Int × Int) → List (Int × Int)
  | [] => []
  | p :: r => (if p.1 = 15 then (1, p.2) else p) :: exR r
theorem exC_a : ∀ l r : List (Int × Int), exC (l ++ r) = exC l ++ exC r
  | [], _ => rfl
  | p :: l, r => by
    show (if p.1 = 15 then (0, 0) :: (1, p.2) :: exC (l ++ r) else p :: exC (l ++ r)) = (if p.1 = 15 then (0, 0) :: (1, p.2) :: exC l else p :: exC l) ++ exC r
    rw [exC_a l r]
    split <;> rfl
theorem exR_a : ∀ l r : List (Int × Int), exR (l ++ r) = exR l ++ exR r
  | [], _ => rfl
  | p :: l, r => by
    show (if p.1 = 15 then _ else p) :: exR (l ++ r) = _
    rw [exR_a l r]; rfl
theorem ex_fl : ∀ l : List (Int × Int), fl (exC l) = fl (exR l)
  | [] => rfl
  | p :: l => by
    show fl (if p.1 = 15 then (0, 0) :: (1, p.2) :: exC l else p :: exC l) = fl ((if p.1 = 15 then (1, p.2) else p) :: exR l)
    by_cases c : p.1 = 15
    · rw [if_pos c, if_pos c, fl_0 rfl, fl_1 (show ¬ (1 : Int) = 0 by decide), fl_1 (show ¬ (1 : Int) = 0 by decide), ex_fl l]
    · rw [if_neg c, if_neg c]
      by_cases d : p.1 = 0
      · rw [fl_0 d, fl_0 d, ex_fl l]
      · rw [fl_1 d, fl_1 d, ex_fl l]
theorem a2_C : ∀ l : List (Int × Int), a2 (exC l) = a2 l
  | [] => rfl
  | p :: l => by
    show a2 (if p.1 = 15 then (0, 0) :: (1, p.2) :: exC l else p :: exC l) = (p.1 == 2 && a2 l)
    by_cases c : p.1 = 15
    · rw [if_pos c, c]; rfl
    · rw [if_neg c]
      show (p.1 == 2 && a2 (exC l)) = _
      rw [a2_C l]
theorem a2_R : ∀ l : List (Int × Int), a2 (exR l) = a2 l
  | [] => rfl
  | p :: l => by
    show a2 ((if p.1 = 15 then (1, p.2) else p) :: exR l) = (p.1 == 2 && a2 l)
    by_cases c : p.1 = 15
    · rw [if_pos c, c]; rfl
    · rw [if_neg c]
      show (p.1 == 2 && a2 (exR l)) = _
      rw [a2_R l]
theorem nr_C : ∀ l : List (Int × Int), exC (nrL l) = nrL (exC l)
  | [] => rfl
  | p :: l => by
    show exC ((if p.1 = 2 ∧ a2 l = true then (9, p.2) else p) :: nrL l) = nrL (if p.1 = 15 then (0, 0) :: (1, p.2) :: exC l else p :: exC l)
    by_cases c : p.1 = 15
    · rw [if_neg (by omega), if_pos c]
      show (if p.1 = 15 then (0, 0) :: (1, p.2) :: exC (nrL l) else p :: exC (nrL l)) = (0, 0) :: (1, p.2) :: nrL (exC l)
      rw [if_pos c, nr_C l]
    · rw [if_neg c]
      show _ = (if p.1 = 2 ∧ a2 (exC l) = true then (9, p.2) else p) :: nrL (exC l)
      rw [a2_C, ← nr_C l]
      by_cases d : p.1 = 2 ∧ a2 l = true
      · rw [if_pos d]; rfl
      · rw [if_neg d]
        show (if p.1 = 15 then _ else p :: exC (nrL l)) = _
        rw [if_neg c]
theorem nr_R : ∀ l : List (Int × Int), exR (nrL l) = nrL (exR l)
  | [] => rfl
  | p :: l => by
    show exR ((if p.1 = 2 ∧ a2 l = true then (9, p.2) else p) :: nrL l) = (if (if p.1 = 15 then (1, p.2) else p).1 = 2 ∧ a2 (exR l) = true then (9, (if p.1 = 15 then (1, p.2) else p).2) else (if p.1 = 15 then (1, p.2) else p)) :: nrL (exR l)
    rw [a2_R, ← nr_R l]
    by_cases c : p.1 = 15
    · rw [if_neg (by omega), if_pos c, if_neg (fun q => absurd q.1 (show ¬ (1 : Int) = 2 by decide))]
      show (if p.1 = 15 then (1, p.2) else p) :: _ = _
      rw [if_pos c]
    · rw [if_neg c]
      by_cases d : p.1 = 2 ∧ a2 l = true
      · rw [if_pos d]; rfl
      · rw [if_neg d]
        show (if p.1 = 15 then (1, p.2) else p) :: _ = _
        rw [if_neg c]
theorem nx_C : ∀ l : List (Int × Int), nxK (exC l) = nxK l
  | [] => rfl
  | p :: l => by
    show nxK (if p.1 = 15 then (0, 0) :: (1, p.2) :: exC l else p :: exC l) = (if 20 ≤ p.1 then p.1 else nxK l)
    by_cases c : p.1 = 15
    · rw [if_pos c, if_neg (by omega)]
      show nxK (exC l) = _
      exact nx_C l
    · rw [if_neg c]
      show (if 20 ≤ p.1 then p.1 else nxK (exC l)) = _
      rw [nx_C l]
theorem nx_R : ∀ l : List (Int × Int), nxK (exR l) = nxK l
  | [] => rfl
  | p :: l => by
    show nxK ((if p.1 = 15 then (1, p.2) else p) :: exR l) = (if 20 ≤ p.1 then p.1 else nxK l)
    by_cases c : p.1 = 15
    · rw [if_pos c, if_neg (by omega)]
      show nxK (exR l) = _
      exact nx_R l
    · rw [if_neg c]
      show (if 20 ≤ p.1 then p.1 else nxK (exR l)) = _
      rw [nx_R l]
theorem mn_C : ∀ (l : List (Int × Int)) (h : Int), exC (mnG h l) = mnG h (exC l)
  | [], _ => rfl
  | p :: l, h => by
    show exC ((if p.1 = 21 ∧ p.2 ≤ 2 ∧ (h = 23 ∨ h = 26 ∨ nxK l = 25 ∨ nxK l = 28) then (24, p.2) else p) :: mnG (if 20 ≤ p.1 then p.1 else h) l) = mnG h (if p.1 = 15 then (0, 0) :: (1, p.2) :: exC l else p :: exC l)
    by_cases c : p.1 = 15
    · rw [if_neg (by omega), if_neg (by omega), if_pos c]
      show (if p.1 = 15 then (0, 0) :: (1, p.2) :: exC (mnG h l) else p :: exC (mnG h l)) = (0, 0) :: (1, p.2) :: mnG h (exC l)
      rw [if_pos c, mn_C l h]
    · rw [if_neg c]
      show _ = (if p.1 = 21 ∧ p.2 ≤ 2 ∧ (h = 23 ∨ h = 26 ∨ nxK (exC l) = 25 ∨ nxK (exC l) = 28) then (24, p.2) else p) :: mnG (if 20 ≤ p.1 then p.1 else h) (exC l)
      rw [nx_C, ← mn_C l]
      by_cases d : p.1 = 21 ∧ p.2 ≤ 2 ∧ (h = 23 ∨ h = 26 ∨ nxK l = 25 ∨ nxK l = 28)
      · rw [if_pos d]; rfl
      · rw [if_neg d]
        show (if p.1 = 15 then _ else p :: exC (mnG _ l)) = _
        rw [if_neg c]
theorem mn_R : ∀ (l : List (Int × Int)) (h : Int), exR (mnG h l) = mnG h (exR l)
  | [], _ => rfl
  | p :: l, h => by
    show exR ((if p.1 = 21 ∧ p.2 ≤ 2 ∧ (h = 23 ∨ h = 26 ∨ nxK l = 25 ∨ nxK l = 28) then (24, p.2) else p) :: mnG (if 20 ≤ p.1 then p.1 else h) l) = mnG h ((if p.1 = 15 then (1, p.2) else p) :: exR l)
    by_cases c : p.1 = 15
    · rw [if_neg (by omega), if_neg (by omega), if_pos c]
      show (if p.1 = 15 then (1, p.2) else p) :: exR (mnG h l) = (1, p.2) :: mnG h (exR l)
      rw [if_pos c, mn_R l h]
    · rw [if_neg c]
      show _ = (if p.1 = 21 ∧ p.2 ≤ 2 ∧ (h = 23 ∨ h = 26 ∨ nxK (exR l) = 25 ∨ nxK (exR l) = 28) then (24, p.2) else p) :: mnG (if 20 ≤ p.1 then p.1 else h) (exR l)
      rw [nx_R, ← mn_R l]
      by_cases d : p.1 = 21 ∧ p.2 ≤ 2 ∧ (h = 23 ∨ h = 26 ∨ nxK l = 25 ∨ nxK l = 28)
      · rw [if_pos d]; rfl
      · rw [if_neg d]
        show (if p.1 = 15 then (1, p.2) else p) :: _ = _
        rw [if_neg c]
theorem chL_C {k : Int} {f : Nat → Int32} {e : Int} (hk : ¬ k = 15) : ∀ (n : Nat) (p : Int), exC (chL k f e p n) = chL k f e p n
  | 0, _ => rfl
  | n + 1, p => by
    show (if k = 15 then _ else (k, ych f e p) :: exC (chL k f e (p + 1) n)) = _
    rw [if_neg hk, chL_C hk n]; rfl
theorem chL_R {k : Int} {f : Nat → Int32} {e : Int} (hk : ¬ k = 15) : ∀ (n : Nat) (p : Int), exR (chL k f e p n) = chL k f e p n
  | 0, _ => rfl
  | n + 1, p => by
    show (if k = 15 then (1, ych f e p) else (k, ych f e p)) :: exR (chL k f e (p + 1) n) = _
    rw [if_neg hk, chL_R hk n]; rfl
theorem qtL_C {f : Nat → Int32} {e p : Int} : ∀ n : Nat, exC (qtL f e p n) = (0, 0) :: chL 1 f e p n
  | 0 => rfl
  | n + 1 => by
    show (0, 0) :: (1, ych f e p) :: exC (chL 1 f e (p + 1) n) = _
    rw [chL_C (by decide)]; rfl
theorem qtL_R {f : Nat → Int32} {e p : Int} : ∀ n : Nat, exR (qtL f e p n) = if n = 0 then [(0, 0)] else chL 1 f e p n
  | 0 => rfl
  | n + 1 => by
    show (1, ych f e p) :: exR (chL 1 f e (p + 1) n) = _
    rw [chL_R (by decide)]; rfl
/-! a section's run with its items -/
def kRLn (f : Nat → Int32) (e to : Int) : Nat → Int → Int → Int → Int → Int → Int → Int → List (Int × Int) → Int → Int → List (Int × Int) → Int → Prop
  | 0, _, _, _, _, _, _, _, _, _, _, _, _ => False
  | n + 1, p, kd, la, pt, pa, co, pe, L, pc, res, M, q => (to ≤ p ∧ res = kd ∧ M = L ∧ q = pc) ∨ (p < to ∧ ∃ r kd' la' pt' pa' co' pe' c : Int, kIt f e p kd la pt pa co pe r kd' la' pt' pa' co' pe' ∧ kCl f e p c ∧ ((r ≤ 0 ∧ res = -1) ∨ (0 < r ∧ kRLn f e to n (p + r) kd' la' pt' pa' co' pe' (stL kd kd' L (itL f e p kd la pt r c)) (pc + pcI f e p kd c) res M q)))
def kRL (f : Nat → Int32) (e to p kd la pt pa co pe : Int) (L : List (Int × Int)) (pc res : Int) (M : List (Int × Int)) (q : Int) : Prop := ∃ n, kRLn f e to n p kd la pt pa co pe L pc res M q
section
variable {f : Nat → Int32} {e to p kd la pt pa co pe r kd' la' pt' pa' co' pe' c pc res q : Int} {L M : List (Int × Int)}
theorem kRL_end (h : to ≤ p) : kRL f e to p kd la pt pa co pe L pc kd L pc := ⟨1, Or.inl ⟨h, rfl, rfl, rfl⟩⟩
theorem kRL_no (h : p < to) (hi : kIt f e p kd la pt pa co pe r kd' la' pt' pa' co' pe') (hc : kCl f e p c) (h0 : r ≤ 0) : kRL f e to p kd la pt pa co pe L pc (-1) M q := ⟨1, Or.inr ⟨h, r, kd', la', pt', pa', co', pe', c, hi, hc, Or.inl ⟨h0, rfl⟩⟩⟩
theorem kRL_go (h : p < to) (hi : kIt f e p kd la pt pa co pe r kd' la' pt' pa' co' pe') (hc : kCl f e p c) (h0 : 0 < r) (hn : kRL f e to (p + r) kd' la' pt' pa' co' pe' (stL kd kd' L (itL f e p kd la pt r c)) (pc + pcI f e p kd c) res M q) : kRL f e to p kd la pt pa co pe L pc res M q := by
  obtain ⟨n, hn⟩ := hn; exact ⟨n + 1, Or.inr ⟨h, r, kd', la', pt', pa', co', pe', c, hi, hc, Or.inr ⟨h0, hn⟩⟩⟩
end
theorem itL_e {f : Nat → Int32} {e p kd la pt pa co pe lb qt qa qo qe r c : Int} (hq : kEq kd la pt pa co pe lb qt qa qo qe) : itL f e p kd la pt r c = itL f e p kd lb qt r c := by
  by_cases k : kd = 2
  · obtain ⟨a, b, _⟩ := hq.1 k
    rw [a, b]
  · unfold itL; rw [if_neg k, if_neg k]
theorem kRLn_det {f : Nat → Int32} {e to : Int} : ∀ (n m : Nat) (p kd la pt pa co pe lb qt qa qo qe : Int) (L : List (Int × Int)) (pc res res2 : Int) (M M2 : List (Int × Int)) (q q2 : Int), kEq kd la pt pa co pe lb qt qa qo qe → kRLn f e to n p kd la pt pa co pe L pc res M q → kRLn f e to m p kd lb qt qa qo qe L pc res2 M2 q2 → res = res2 ∧ (¬ res = -1 → M = M2 ∧ q = q2)
  | 0, _, _, _, _, _, _, _, _, _, _, _, _, _, _, _, _, _, _, _, _, _, _, h, _ => h.elim
  | _ + 1, 0, _, _, _, _, _, _, _, _, _, _, _, _, _, _, _, _, _, _, _, _, _, _, h => h.elim
  | n + 1, m + 1, p, kd, la, pt, pa, co, pe, lb, qt, qa, qo, qe, L, pc, res, res2, M, M2, q, q2, hq, h, k => by
    rcases h with ⟨a, h1, h2, h3⟩ | ⟨a, r, kd1, la1, pt1, pa1, co1, pe1, c1, hi, hc, h⟩ <;> rcases k with ⟨b, k1, k2, k3⟩ | ⟨b, s, kd2, la2, pt2, pa2, co2, pe2, c2, ki, kc, k⟩
    · exact ⟨by omega, fun _ => ⟨h2.trans k2.symm, by omega⟩⟩
    · exfalso; omega
    · exfalso; omega
    · obtain ⟨g1, g2⟩ := kIt_det hi ki hq
      subst g1
      have gc := kCl_det hc kc
      subst gc
      rcases h with ⟨h0, h⟩ | ⟨h0, h⟩ <;> rcases k with ⟨k0, k⟩ | ⟨k0, k⟩
      · exact ⟨by omega, fun w => absurd h w⟩
      · exfalso; omega
      · exfalso; omega
      · obtain ⟨g3, g4⟩ := g2 h0
        subst g3
        rw [itL_e hq] at h
        exact kRLn_det n m _ _ _ _ _ _ _ _ _ _ _ _ _ _ _ _ _ _ _ _ g4 h k
theorem kRL_det {f : Nat → Int32} {e to p kd la pt pa co pe pc res res2 q q2 : Int} {L M M2 : List (Int × Int)} (h : kRL f e to p kd la pt pa co pe L pc res M q) (k : kRL f e to p kd la pt pa co pe L pc res2 M2 q2) : res = res2 ∧ (¬ res = -1 → M = M2 ∧ q = q2) := by
  obtain ⟨n, h⟩ := h; obtain ⟨m, k⟩ := k
  exact kRLn_det n m _ _ _ _ _ _ _ _ _ _ _ _ _ _ _ _ _ _ _ _ ⟨fun _ => ⟨rfl, rfl, rfl, rfl, rfl⟩, fun _ => rfl⟩ h k
def kScL (f : Nat → Int32) (e i p to res : Int) (L : List (Int × Int)) (pc : Int) : Prop :=
  (kGe f e p to ∧ (i = 3 ∧ res = -1 ∨ ¬ i = 3 ∧ res = 0 ∧ L = [] ∧ pc = 0)) ∨ (¬ kGe f e p to ∧ ∃ K kp : Int, kK f e to p K kp ∧ ((i = 3 ∧ (K = 2 ∨ K = 5) ∧ res = -1) ∨ (¬ (i = 3 ∧ (K = 2 ∨ K = 5)) ∧ ∃ L0, kRL f e to p K 0 0 0 0 0 [] 0 res L0 pc ∧ L = (if res = 5 then mnG 0 L0 else L0))))
theorem kScL_det {f : Nat → Int32} {e i p to r s pc pd : Int} {L M : List (Int × Int)} (h : kScL f e i p to r L pc) (k : kScL f e i p to s M pd) : r = s ∧ (¬ r = -1 → L = M ∧ pc = pd) := by
  rcases h with ⟨a, h⟩ | ⟨a, K, kp, hK, h⟩ <;> rcases k with ⟨b, k⟩ | ⟨b, K2, lp, hL, k⟩
  · rcases h with h | ⟨h0, h1, h2, h3⟩ <;> rcases k with k | ⟨k0, k1, k2, k3⟩
    · exact ⟨by omega, fun w => absurd h.2 w⟩
    · omega
    · omega
    · exact ⟨by omega, fun _ => ⟨h2.trans k2.symm, by omega⟩⟩
  · exact absurd a b
  · exact absurd b a
  · obtain ⟨g, _⟩ := kK_det hK hL
    subst g
    rcases h with ⟨h1, h2, h⟩ | ⟨h1, L0, h, hl⟩ <;> rcases k with ⟨k1, k2, k⟩ | ⟨k1, M0, k, kl⟩
    · exact ⟨by omega, fun w => absurd h w⟩
    · exact absurd ⟨h1, h2⟩ k1
    · exact absurd ⟨k1, k2⟩ h1
    · obtain ⟨g1, g2⟩ := kRL_det h k
      refine ⟨g1, fun w => ?_⟩
      obtain ⟨g3, g4⟩ := g2 w
      rw [hl, kl, g1, g3]
      exact ⟨rfl, g4⟩
/-- where section j begins -/
def kFt (f : Nat → Int32) (e : Int) : Nat → Int → Prop
  | 0, p => p = 0
  | j + 1, p => ∃ p' to : Int, kFt f e j p' ∧ yS f e to p' ∧ to < e ∧ p = to + 1
theorem kFt_det {f : Nat → Int32} {e : Int} : ∀ (j : Nat) (p q : Int), kFt f e j p → kFt f e j q → p = q
  | 0, p, q, h, k => h.trans k.symm
  | j + 1, p, q, ⟨p1, t1, h1, h2, _, h4⟩, ⟨q1, s1, k1, k2, _, k4⟩ => by
    have := kFt_det j _ _ h1 k1
    subst this
    have := yS_det h2 k2
    omega
def kLs (f : Nat → Int32) (e : Int) (j : Nat) (k : Int) (L : List (Int × Int)) (pc : Int) : Prop := ¬ k = -1 ∧ ∃ p to : Int, kFt f e j p ∧ yS f e to p ∧ kScL f e j p to k L pc
theorem kLs_det {f : Nat → Int32} {e : Int} {j : Nat} {k k2 pc pd : Int} {L M : List (Int × Int)} (h : kLs f e j k L pc) (g : kLs f e j k2 M pd) : k = k2 ∧ L = M ∧ pc = pd := by
  obtain ⟨n1, p, to, h1, h2, h3⟩ := h
  obtain ⟨_, q, s, g1, g2, g3⟩ := g
  have := kFt_det j _ _ h1 g1
  subst this
  have := yS_det h2 g2
  subst this
  obtain ⟨a, b⟩ := kScL_det h3 g3
  exact ⟨a, b n1⟩
