/-! a section of the class with its items -/
theorem cK_mn {k : Int} (h1 : ¬ k = 21) (h2 : ¬ k = 24) : ∀ (L : List (Int × Int)) (h : Int), cK k (mnG h L) = cK k L
  | [], _ => rfl
  | p :: r, h => by
    show (if (if p.1 = 21 ∧ p.2 ≤ 2 ∧ (h = 23 ∨ h = 26 ∨ nxK r = 25 ∨ nxK r = 28) then (24, p.2) else p).1 = k then 1 else 0) + cK k (mnG (if 20 ≤ p.1 then p.1 else h) r) = (if p.1 = k then 1 else 0) + cK k r
    rw [cK_mn h1 h2 r]
    by_cases c : p.1 = 21 ∧ p.2 ≤ 2 ∧ (h = 23 ∨ h = 26 ∨ nxK r = 25 ∨ nxK r = 28)
    · rw [if_pos c, if_neg (show ¬ (24 : Int) = k by omega), if_neg (by omega)]
    · rw [if_neg c]
theorem gv_mn : ∀ (L : List (Int × Int)) (h a : Int), gvF a (mnG h L) = gvF a L
  | [], _, _ => rfl
  | p :: r, h, a => by
    show gvF (if (if p.1 = 21 ∧ p.2 ≤ 2 ∧ (h = 23 ∨ h = 26 ∨ nxK r = 25 ∨ nxK r = 28) then (24, p.2) else p).1 = 12 then 10 * a + (if p.1 = 21 ∧ p.2 ≤ 2 ∧ (h = 23 ∨ h = 26 ∨ nxK r = 25 ∨ nxK r = 28) then (24, p.2) else p).2 - 48 else a) (mnG _ r) = gvF (if p.1 = 12 then 10 * a + p.2 - 48 else a) r
    rw [gv_mn r]
    by_cases c : p.1 = 21 ∧ p.2 ≤ 2 ∧ (h = 23 ∨ h = 26 ∨ nxK r = 25 ∨ nxK r = 28)
    · rw [if_pos c, if_neg (show ¬ (24 : Int) = 12 by decide), if_neg (by omega)]
    · rw [if_neg c]
theorem pm_mn : ∀ (L : List (Int × Int)) (h a : Int), pmA a (mnG h L) = pmA a L
  | [], _, _ => rfl
  | p :: r, h, a => by
    show pmA (if (if p.1 = 21 ∧ p.2 ≤ 2 ∧ (h = 23 ∨ h = 26 ∨ nxK r = 25 ∨ nxK r = 28) then (24, p.2) else p).1 = 29 ∧ a < (if p.1 = 21 ∧ p.2 ≤ 2 ∧ (h = 23 ∨ h = 26 ∨ nxK r = 25 ∨ nxK r = 28) then (24, p.2) else p).2 then (if p.1 = 21 ∧ p.2 ≤ 2 ∧ (h = 23 ∨ h = 26 ∨ nxK r = 25 ∨ nxK r = 28) then (24, p.2) else p).2 else a) (mnG _ r) = pmA (if p.1 = 29 ∧ a < p.2 then p.2 else a) r
    rw [pm_mn r]
    by_cases c : p.1 = 21 ∧ p.2 ≤ 2 ∧ (h = 23 ∨ h = 26 ∨ nxK r = 25 ∨ nxK r = 28)
    · rw [if_pos c, if_neg (fun q => absurd q.1 (show ¬ (24 : Int) = 29 by decide)), if_neg (by omega)]
    · rw [if_neg c]
theorem mn_len : ∀ (L : List (Int × Int)) (h : Int), (mnG h L).length = L.length
  | [], _ => rfl
  | p :: r, h => by show (mnG _ r).length + 1 = r.length + 1; rw [mn_len r]
theorem sCt_mn {S : Nat → Int32} {L : List (Int × Int)} {pc h : Int} (q : sCt S L pc) : sCt S (mnG h L) pc := by
  have z : ∀ j : Int, ¬ j = 21 → ¬ j = 24 → cK j (mnG h L) = cK j L := fun j u v => cK_mn u v L h
  obtain ⟨⟨a1, a2, a3, a4⟩, ⟨b1, b2, b3⟩, c1, c2, c3, c4⟩ := q
  refine ⟨⟨?_, ?_, ?_, a4⟩, ⟨?_, ?_, ?_⟩, ?_, ?_, ?_, ?_⟩
  · rw [z 2 (by decide) (by decide)]; exact a1
  · rw [z 3 (by decide) (by decide)]; exact a2
  · rw [z 6 (by decide) (by decide)]; exact a3
  · rw [z 8 (by decide) (by decide)]; exact b1
  · rw [z 9 (by decide) (by decide)]; exact b2
  · rw [z 11 (by decide) (by decide)]; exact b3
  · rw [gv_mn]; exact c1
  · rw [pm_mn]; exact c2
  · rw [z 5 (by decide) (by decide)]; exact c3
  · rw [z 30 (by decide) (by decide)]; exact c4
def secE (S K M : Nat → Int32) (L : List (Int × Int)) (pc : Int) : Prop := cs K M (S 1).toInt (S 2).toInt = exC L ∧ (0 ≤ (S 1).toInt ∧ (S 1).toInt ≤ (S 2).toInt ∧ (S 2).toInt ≤ 64) ∧ sCt S L pc ∧ (0 ≤ pc ∧ pc ≤ L.length)
theorem secE_g {S K M K2 M2 : Nat → Int32} {L : List (Int × Int)} {pc : Int} (h : secE S K M L pc) (hf : ∀ j : Nat, (j : Int) < (S 2).toInt → K2 j = K j ∧ M2 j = M j) : secE S K2 M2 L pc := by
  obtain ⟨a, b, c, d⟩ := h
  exact ⟨by rw [cs_g b.1 (fun j _ q => hf j q)]; exact a, b, c, d⟩
def secD (f : Nat → Int32) (e i fr to first n : Int) (S K M F8 F9 : Nat → Int32) : Prop := (∃ (L : List (Int × Int)) (pc : Int), kScL f e i fr to (S 0).toInt L pc ∧ secE S K M L pc) ∧ (0 ≤ (S 0).toInt ∧ (S 1).toInt = first ∧ (S 2).toInt = n) ∧ (∀ j : Nat, (j : Int) < first → K j = F8 j ∧ M j = F9 j)
def sLV (f S K M F8 F9 : Nat → Int32) (e i fr to p n b : Int) : Prop := (b = 0 → ∃ (L : List (Int × Int)) (pc : Int), secO S K M n L pc ∧ ∀ (res : Int) (N : List (Int × Int)) (q : Int), kRL f e to p (S 0).toInt (kLf K (S 1).toInt n) (S 5).toInt (kps (S 7).toInt) (kco (S 6).toInt (S 7).toInt) (kps (S 8).toInt) L pc res N q → kScL f e i fr to res (if res = 5 then mnG 0 N else N) q) ∧ (∀ j : Nat, (j : Int) < (S 1).toInt → K j = F8 j ∧ M j = F9 j)
def cl0 (S : Nat → Int32) (n : Int) : Prop := ((S 1).toInt = n ∧ (S 2).toInt = n) ∧ ((S 3).toInt = 0 ∧ (S 4).toInt = 0 ∧ (S 5).toInt = 0 ∧ (S 6).toInt = 0 ∧ (S 7).toInt = 0 ∧ (S 8).toInt = 0) ∧ (S 9).toInt = 0 ∧ (S 10).toInt = 0 ∧ (S 11).toInt = 0 ∧ (S 12).toInt = 0 ∧ (S 13).toInt = 0 ∧ (S 14).toInt = 0
theorem cl0_F {S : Nat → Int32} {n : Int} (h : cl0 S n) (h0 : 0 ≤ n) (h6 : n ≤ 64) : qF9 S n := by
  obtain ⟨⟨a1, a2⟩, ⟨a3, a4, a5, a6, a7, a8⟩, a9, a10, _⟩ := h
  exact qF9_i (x := S 1) ⟨⟨rfl, by omega, a3, a4, a9, a10⟩, a5, a6, a7, a8⟩ a1 (by omega) (by omega)
theorem cl0_z {S : Nat → Int32} {n : Int} {a : Int32} (h : cl0 S n) : cl0 (zu S 0 a) n := h
theorem cl0_s {S : Nat → Int32} {n : Int} (h : cl0 S n) : sCt S [] 0 := by
  obtain ⟨⟨a1, a2⟩, ⟨a3, a4, a5, a6, a7, a8⟩, a9, a10, a11, a12, a13, a14⟩ := h
  exact ⟨⟨a3, a4, a7, a8⟩, ⟨a9, a10, a11⟩, a12, a13, a6.trans (by rw [if_neg (by decide)]), a14.trans (by rw [if_neg (by decide)])⟩
theorem cl0_E {S K M : Nat → Int32} {n : Int} (h : cl0 S n) (h0 : 0 ≤ n) (h6 : n ≤ 64) : secE S K M [] 0 := by
  have a := h.1
  refine ⟨by rw [a.1, a.2, cs_x (Int.le_refl _)]; rfl, by omega, cl0_s h, Int.le_refl _, Int.le_refl _⟩
theorem sLV_0 {f S K M : Nat → Int32} {e i fr to n kp b : Int} {a : Int32} (h : cl0 S n) (h0 : 0 ≤ n) (h6 : n ≤ 64) (hG : ¬ kGe f e fr to) (hK : kK f e to fr a.toInt kp) (hb : b = 0 → ¬ (i = 3 ∧ (a.toInt = 2 ∨ a.toInt = 5))) : sLV f (zu S 0 a) K M K M e i fr to fr n b := by
  refine ⟨fun b0 => ⟨[], 0, ⟨?_, ?_, cl0_s (cl0_z h), ⟨Or.inr ⟨rfl, rfl⟩, Or.inr ⟨rfl, rfl, rfl⟩⟩, Int.le_refl _, Int.le_refl _⟩, fun res N q hr => ?_⟩, fun _ _ => ⟨rfl, rfl⟩⟩
  · have a1 : ((zu S 0 a) 1).toInt = n := h.1.1
    rw [a1, cs_x (Int.le_refl _)]; rfl
  · have a1 : ((zu S 0 a) 1).toInt = n := h.1.1
    omega
  · have hl : kLf K ((zu S 0 a) 1).toInt n = 0 := kLf_0 (by have a1 : ((zu S 0 a) 1).toInt = n := h.1.1; omega)
    have a5 : ((zu S 0 a) 5).toInt = 0 := h.2.1.2.2.1
    have a6 : ((zu S 0 a) 6).toInt = 0 := h.2.1.2.2.2.1
    have a7 : ((zu S 0 a) 7).toInt = 0 := h.2.1.2.2.2.2.1
    have a8 : ((zu S 0 a) 8).toInt = 0 := h.2.1.2.2.2.2.2
    rw [hl, a5, a6, a7, a8] at hr
    exact Or.inr ⟨hG, a.toInt, kp, hK, Or.inr ⟨hb b0, N, hr, rfl⟩⟩
theorem sLV_end {f S K M F8 F9 : Nat → Int32} {e i fr to p n kp b : Int} (hV : qV f K S e i fr to p n kp b) (h : sLV f S K M F8 F9 e i fr to p n b) (hp : to ≤ p) : (∃ (L : List (Int × Int)) (pc : Int), secO S K M n L pc ∧ kScL f e i fr to (S 0).toInt (if (S 0).toInt = 5 then mnG 0 L else L) pc) ∧ (∀ j : Nat, (j : Int) < (S 1).toInt → K j = F8 j ∧ M j = F9 j) := by
  refine ⟨?_, h.2⟩
  rcases hV.2.1 with ⟨b0, _⟩ | ⟨_, ⟨hK, hk, _⟩, _⟩
  · obtain ⟨L, pc, h1, h2⟩ := h.1 b0
    exact ⟨L, pc, h1, h2 _ _ _ (kRL_end hp)⟩
  · have := kK_le hK (by omega); omega
theorem secD_n {f S K M F8 F9 : Nat → Int32} {e i fr to n : Int} {x : Int32} (hx : x.toInt = n) (h5 : ¬ (S 0).toInt = 5) (h00 : 0 ≤ (S 0).toInt) (h : (∃ (L : List (Int × Int)) (pc : Int), secO S K M n L pc ∧ kScL f e i fr to (S 0).toInt (if (S 0).toInt = 5 then mnG 0 L else L) pc) ∧ (∀ j : Nat, (j : Int) < (S 1).toInt → K j = F8 j ∧ M j = F9 j)) : secD f e i fr to (S 1).toInt n (zu S 2 x) K M F8 F9 := by
  obtain ⟨⟨L, pc, h1, h2⟩, h3⟩ := h
  rw [if_neg h5] at h2
  obtain ⟨a, b, c, _, d⟩ := h1
  subst hx
  exact ⟨⟨L, pc, h2, a, b, c, d⟩, ⟨h00, rfl, rfl⟩, h3⟩
theorem secD_5 {f S K M F8 F9 g : Nat → Int32} {e i fr to n : Int} {x : Int32} (hx : x.toInt = n) (h5 : (S 0).toInt = 5) (hg : cs g M (S 1).toInt n = mnG 0 (cs K M (S 1).toInt n)) (hf : ∀ j : Nat, (j : Int) < (S 1).toInt → g j = K j) (h : (∃ (L : List (Int × Int)) (pc : Int), secO S K M n L pc ∧ kScL f e i fr to (S 0).toInt (if (S 0).toInt = 5 then mnG 0 L else L) pc) ∧ (∀ j : Nat, (j : Int) < (S 1).toInt → K j = F8 j ∧ M j = F9 j)) : secD f e i fr to (S 1).toInt n (zu S 2 x) g M F8 F9 := by
  obtain ⟨⟨L, pc, h1, h2⟩, h3⟩ := h
  rw [if_pos h5] at h2
  obtain ⟨a, b, c, _, d⟩ := h1
  subst hx
  refine ⟨⟨mnG 0 L, pc, h2, ?_, b, sCt_mn c, d.1, by rw [mn_len]; exact d.2⟩, ⟨by show 0 ≤ (S 0).toInt; omega, rfl, rfl⟩, fun j hj => ⟨(hf j hj).trans (h3 j hj).1, (h3 j hj).2⟩⟩
  show cs g M (S 1).toInt x.toInt = _
  rw [hg, a, mn_C]
/-! one item -/
section
variable {I0 S I1 f7 f8 f9 F8 F9 : Nat → Int32} {x7 : Int32} {i fr to kp b : Int}
theorem rs_it {Z1 Z2 : Int32 → (Nat → Int32) × (Nat → Int32) × (Nat → Int32) × (Nat → Int32) → Prop} (hc : qC f7) (hV : qV f7 f8 S (I0 1).toInt i fr to x7.toInt (I1 4).toInt kp b) (hL : sLV f7 S f8 f9 F8 F9 (I0 1).toInt i fr to x7.toInt (I1 4).toInt b) (h0 : 0 ≤ x7.toInt) (ht : x7.toInt < to) (h6 : (I0 1).toInt ≤ 64) (h1 : 0 ≤ (I1 4).toInt) (h2 : (I1 4).toInt ≤ x7.toInt) (hb : b = 0 ∨ x7.toInt < kp)
    (hZ : ∀ (r : Int32) (T J g8 g9 : Nat → Int32), (r.toInt ≤ 0 ∨ (0 < r.toInt ∧ r.toInt ≤ 64 ∧ qV f7 g8 T (I0 1).toInt i fr to (x7.toInt + r.toInt) (J 4).toInt kp b ∧ sLV f7 T g8 g9 F8 F9 (I0 1).toInt i fr to (x7.toInt + r.toInt) (J 4).toInt b ∧ (J 1).toInt = (I1 1).toInt ∧ (T 1).toInt = (S 1).toInt ∧ 0 ≤ (J 4).toInt ∧ (J 4).toInt ≤ x7.toInt + r.toInt)) → Z1 r (T, J, g8, g9) → Z2 r (T, J, g8, g9)) :
    v_Reader_readItem_0 I0 64 f7 S I1 64 f8 64 f9 x7 Z1 → v_Reader_readItem_0 I0 64 f7 S I1 64 f8 64 f9 x7 Z2 := by
  have hle := qV_le hV
  have pre := qV_ri (I0 := I0) (I3 := I1) hc hV h0 (by omega) h6 h1 h2 (by omega)
  have p2 := pre
  obtain ⟨_, _, _, _, a1, _, _, _, a3, a4, _, _, _, _, a10, a11, _, _, _, _, _, a12, _⟩ := p2
  refine fun h => h_Reader_readItem pre (fun r u hp q => q hp) (g_readItem (Z2 := fun r u => _ → Z2 r u) hc h0 (by omega) h6 ⟨a1, a12⟩ h2 ⟨by omega, by omega⟩ ⟨by omega, by omega⟩ (fun r T J g8 g9 hg z1 hp => hZ r T J g8 g9 ?_ z1) h)
  have hv := qV_it hV rfl (by omega) ht hb hp
  obtain ⟨_, hv, e1, _, e3, e4, e5⟩ := hv
  have e4 : (I1 4).toInt ≤ (J 4).toInt := e4
  have e5 : (J 4).toInt ≤ (I1 4).toInt + r.toInt := e5
  rcases hv with ⟨hr, _⟩ | ⟨hr, hv⟩
  · exact Or.inl hr
  refine Or.inr ⟨hr, e3, hv, ⟨fun b0 => ?_, fun j hj => ?_⟩, e1, ?_, by omega, by omega⟩
  · obtain ⟨c, hcl, hs⟩ := hg
    have hs := hs.resolve_left (by omega)
    obtain ⟨L, pc, k1, k2⟩ := hL.1 b0
    obtain ⟨_, _, _, _, _, _, _, _, _, _, _, _, _, _, _, _, _, _, hi⟩ := hp
    exact ⟨_, _, hs.2 L pc k1, fun res N q hr2 => k2 res N q (kRL_go ht hi hcl hr hr2)⟩
  · obtain ⟨c, hcl, hs⟩ := hg
    have hs := hs.resolve_left (by omega)
    have e7 : (T 1).toInt = (S 1).toInt := hp.2.2.2.2.2.2.1
    rw [e7] at hj
    have q1 := hs.1 j hj
    have q2 := hL.2 j hj
    exact ⟨q1.1.trans q2.1, q1.2.trans q2.2⟩
  · exact hp.2.2.2.2.2.2.1
end
