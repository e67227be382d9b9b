/-! a section of the reference: its run with its items -/
def rL (f K A B Q : Nat → Int32) (e i fr to p n a w sk pt pa co pe : Int) : Prop := ¬ (i = 3 ∧ (w = 2 ∨ w = 5)) → ∃ (L : List (Int × Int)) (pc : Int), rinv K A B Q a n sk pe L pc ∧ ∀ (res : Int) (N : List (Int × Int)) (q : Int), kRL f e to p sk (kLr K A a n) pt pa co pe L pc res N q → kScL f e i fr to res (if res = 5 then mnG 0 N else N) q
section
variable {f K A B Q K2 A2 B2 Q2 : Nat → Int32} {e i fr to p n a w bh sk pt pa co pe r kd m pt' pa' co' pe' c q : Int}
theorem rL_it (h : rL f K A B Q e i fr to p n a w sk pt pa co pe) (hp : p < to) (hc : kCl f e p c) (hr : 0 < r) (hq : q = p + r) (hi : ¬ (i = 3 ∧ (w = 2 ∨ w = 5)) → kIt f e p sk (kLr K A a n) pt pa co pe r kd (kLr K2 A2 a m) pt' pa' co' pe') (hst : ¬ (i = 3 ∧ (w = 2 ∨ w = 5)) → rstp K A B Q n K2 A2 B2 Q2 m a sk kd pe pe' (itL f e p sk (kLr K A a n) pt r c) (pcI f e p sk c)) : rL f K2 A2 B2 Q2 e i fr to q m a w kd pt' pa' co' pe' := by
  intro hn
  obtain ⟨L, pc, h1, h2⟩ := h hn
  subst hq
  exact ⟨_, _, (hst hn).2 L pc h1, fun res N q hR => h2 res N q (kRL_go hp (hi hn) hc hr hR)⟩
theorem rL_cm (hY : rY f K A e i fr to p n a w bh sk pt pa co pe) (h : rL f K A B Q e i fr to p n a w sk pt pa co pe) (hp : p < to) (hc : kCl f e p c) (h0 : 0 < c) (hm : n < m) (hC : rC K2 A2 m = 0) (hq : q = p + c) (hA : apR K A B Q n K2 A2 B2 Q2 m (cmR f e p c)) : rL f K2 A2 B2 Q2 e i fr to q m a w sk pt pa co pe := by
  have hb := hY.1
  have hk := hY.2.2.1
  have hl : kLr K2 A2 a m = 0 := kLr_C (by omega) hC
  obtain ⟨e1, e2, e3⟩ := cm_R hc h0
  refine rL_it h hp hc h0 hq (fun _ => kIt_cm hc h0 rfl hl) (fun _ => ?_)
  unfold itL pcI
  rw [if_pos h0, if_neg (fun z => z.1 h0)]
  exact rs_a hA ⟨hb.2.2.2.2.2, hb.2.2.2.2.1⟩ e1 (fun z => by omega) e3 (fun z => ⟨z, rfl⟩) (fun S hS => rOk_1 hS e2)
theorem rL_pl (hY : rY f K A e i fr to p n a w bh sk pt pa co pe) (h : rL f K A B Q e i fr to p n a w sk pt pa co pe) (hp : p < to) (hc : kCl f e p 0) (hw : w = 1 ∨ w = 6 ∨ (i = 3 ∧ (w = 2 ∨ w = 5))) (hl : kLit (ych f e p)) (h64 : ¬ w = 6 ∨ ¬ ych f e p = 64) (hm : m = n + 1) (hC : rC K2 A2 m = 0) (hq : q = p + 1) (hA : apR K A B Q n K2 A2 B2 Q2 m [(1, ych f e p, 0, 0)]) : rL f K2 A2 B2 Q2 e i fr to q m a w sk pt pa co pe := by
  have hb := hY.1
  have hk := hY.2.2.1
  refine rL_it h hp hc (by omega) hq (fun hn => ?_) (fun hn => ?_)
  · rcases hw with hw | hw | hw
    · exact kIt_pl hc (by omega) (by omega) (Or.inl ⟨rfl, hl⟩) (by omega)
    · exact kIt_tx hc (by omega) (by omega) (Or.inr ⟨by omega, Or.inl ⟨rfl, hl⟩⟩) (by omega)
    · exact absurd hw hn
  · have hw2 : w = 1 ∨ w = 6 := by
      rcases hw with z | z | z
      · exact Or.inl z
      · exact Or.inr z
      · exact absurd z hn
    unfold itL pcI
    rw [if_neg (by omega), if_neg (by omega), if_neg (by omega), if_neg (by omega), if_neg (by omega)]
    exact rs_a hA ⟨hb.2.2.2.2.2, hb.2.2.2.2.1⟩ rfl (fun z => by omega) rfl (fun z => ⟨z, rfl⟩) (fun S hS => rOk_1 hS ⟨Or.inr rfl, True.intro⟩)
theorem rL_at (hY : rY f K A e i fr to p n a w bh sk pt pa co pe) (h : rL f K A B Q e i fr to p n a w sk pt pa co pe) (hp : p < to) (hc : kCl f e p 0) (hw : w = 6) (hl : ych f e p = 64) (hq : q = p + 1) (hA : apR K A B Q n K2 A2 B2 Q2 m [(16, 0, 0, 0)]) : rL f K2 A2 B2 Q2 e i fr to q m a w sk pt pa co pe := by
  have hb := hY.1
  have hk := hY.2.2.1
  have h6 : sk = 6 := by omega
  refine rL_it h hp hc (by omega) hq (fun hn => kIt_tx hc (by omega) h6 (Or.inl ⟨hl, rfl⟩) h6) (fun hn => ?_)
  unfold itL pcI
  rw [if_neg (by omega), if_neg (by omega), if_neg (by omega), if_pos ⟨h6, hl⟩, if_neg (by omega), h6]
  exact rs_k hA ⟨hb.2.2.2.2.2, hb.2.2.2.2.1⟩ rfl (Or.inr (Or.inr (Or.inr rfl))) rfl (fun z => ⟨z, rfl⟩) (Or.inr (Or.inr (Or.inr (Or.inr ⟨rfl, rfl⟩))))
theorem rL_nu (hY : rY f K A e i fr to p n a w bh sk pt pa co pe) (h : rL f K A B Q e i fr to p n a w sk pt pa co pe) (hp : p < to) (hc : kCl f e p 0) (hw : w = 2) (hb0 : bh = 0) (hN : kNu f e p (kLr K A a n) pt pa co pe r kd (rC K2 A2 m) pt' pa' co' pe') (hr : 0 < r) (hm : m = n + 1) (hq : q = p + r) (hst : rstp K A B Q n K2 A2 B2 Q2 m a 2 kd pe pe' (nuL f e p (kLr K A a n) pt r) (if ysm (ych f e p) = 37 then 1 else 0)) : rL f K2 A2 B2 Q2 e i fr to q m a w kd pt' pa' co' pe' := by
  have hb := hY.1
  have hk := hY.2.2.1
  have h2 : sk = 2 := by omega
  have hl : kLr K2 A2 a m = rC K2 A2 m := kLr_C (by omega) rfl
  refine rL_it h hp hc hr hq (fun hn => ⟨0, hc, Or.inr ⟨by omega, Or.inl ⟨h2, by rw [hl]; exact hN⟩⟩⟩) (fun hn => ?_)
  subst h2
  unfold itL pcI
  rw [if_neg (by omega), if_pos rfl]
  by_cases z : ysm (ych f e p) = 37
  · rw [if_pos z] at hst
    rw [if_pos ⟨by omega, rfl, z⟩]; exact hst
  · rw [if_neg z] at hst
    rw [if_neg (fun y => z y.2.2)]; exact hst
theorem rL_da (hY : rY f K A e i fr to p n a w bh sk pt pa co pe) (h : rL f K A B Q e i fr to p n a w sk pt pa co pe) (hp : p < to) (hc : kCl f e p 0) (hw : w = 5) (hD : kDa f e p (kLr K A a n) r (rC K2 A2 m)) (hr : 0 < r) (hm : m = n + 1) (hq : q = p + r) (hst : rstp K A B Q n K2 A2 B2 Q2 m a 5 5 pe pe (daL f e p r) 0) : rL f K2 A2 B2 Q2 e i fr to q m a w sk pt pa co pe := by
  have hb := hY.1
  have hk := hY.2.2.1
  have h5 : sk = 5 := by omega
  have hl : kLr K2 A2 a m = rC K2 A2 m := kLr_C (by omega) rfl
  subst h5
  refine rL_it h hp hc hr hq (fun hn => ⟨0, hc, Or.inr ⟨by omega, Or.inr (Or.inl ⟨rfl, by rw [hl]; exact hD, rfl⟩)⟩⟩) (fun hn => ?_)
  unfold itL pcI
  rw [if_neg (by omega), if_neg (by omega), if_pos rfl, if_neg (by omega)]
  exact hst
theorem rL_0 (hG : ¬ (to - fr = 7 ∧ kW f e fr k_gen)) (hK : ∃ kp : Int, kK f e to fr w kp) : rL f K A B Q e i fr to fr n n w w 0 0 0 0 := by
  intro hn
  obtain ⟨kp, hK⟩ := hK
  have hr := kK_rng hK
  refine ⟨[], 0, ⟨by rw [rvs_x (Int.le_refl _)]; rfl, by rw [rvs_x (Int.le_refl _)]; exact Or.inl ⟨hr, True.intro⟩, by rw [rvs_x (Int.le_refl _)]; rfl, fun _ => rfl⟩, fun res N q hR => ?_⟩
  rw [kLr_0 (Int.le_refl _)] at hR
  exact Or.inr ⟨hG, w, kp, hK, Or.inr ⟨hn, N, hR, rfl⟩⟩
theorem rL_end (hY : rY f K A e i fr to p n a w bh sk pt pa co pe) (h : rL f K A B Q e i fr to p n a w sk pt pa co pe) (hp : to ≤ p) : ∃ (L : List (Int × Int)) (pc : Int), rinv K A B Q a n sk pe L pc ∧ kScL f e i fr to sk (if sk = 5 then mnG 0 L else L) pc := by
  have hn : ¬ (i = 3 ∧ (w = 2 ∨ w = 5)) := by
    rcases hY.2.2.2 with ⟨z, _⟩ | ⟨z, ⟨kp, hK⟩, _⟩
    · exact z
    · have := kK_le hK (by omega); omega
  obtain ⟨L, pc, h1, h2⟩ := h hn
  exact ⟨L, pc, h1, h2 _ _ _ (kRL_end hp)⟩
end
