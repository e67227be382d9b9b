/-! NUMBER and POWER: both looks are one -/
theorem vR_lt {v s : Int} {g : Nat → Int32} {c p : Int} {e : Nat} (hv : vO g c p) (h : c + (e : Int) ≤ 17) : dV g c.toNat * 10 ^ e < 100000000000000000 := by
  have b := (dV_bd c.toNat hv.2.1).2
  have q : dV g c.toNat * 10 ^ e < 10 ^ c.toNat * 10 ^ e := Int.mul_lt_mul_of_pos_right b (p10 e)
  rw [← Int.pow_add] at q
  have := hv.1
  have := p10_le (show c.toNat + e ≤ 17 by omega)
  have e17 : (10 : Int) ^ 17 = 100000000000000000 := by decide
  omega
theorem vR_rd {v s : Int} {g : Nat → Int32} {c p x d : Int} (h : vR v s g c p) : rdM v (s + x) d = rdM (dV g c.toNat) (p + x - c) d := by
  have hV := vO_17 h.1
  obtain ⟨hv, l, e, ev, ep, e17⟩ := h
  rcases ep with c0 | ep
  · have z : dV g c.toNat = 0 := by rw [c0]; rfl
    rw [ev, z, Int.zero_mul, rdM_0, rdM_0]
  · rw [ev, rdM_z hV.1 (vR_lt (v := v) (s := s) hv e17), show s + x + (e : Int) = p + x - c by omega]
theorem vR_nd {v s : Int} {g : Nat → Int32} {c p nd : Int} (h : vR v s g c p) (hd : dgs v nd) : (v ≤ 0 ↔ c ≤ 0) ∧ (0 < c → nd + s = p) := by
  have h0 := vR_0 h
  have hV := vO_17 h.1
  obtain ⟨hv, l, e, ev, ep, e17⟩ := h
  have c0 := hv.1
  have v0 : 0 ≤ v := by rw [ev]; exact Int.mul_nonneg hV.1 (Int.le_of_lt (p10 e))
  refine ⟨⟨fun k => by have := h0.1 (by omega); omega, fun k => by have := h0.2 (by omega); omega⟩, fun k => ?_⟩
  have lo := dV_lo (g := g) (c.toNat - 1) (by rw [show c.toNat - 1 + 1 = c.toNat by omega]; exact hv.2.1) (hv.2.2.resolve_left (by omega))
  rw [show c.toNat - 1 + 1 = c.toNat by omega] at lo
  have hi := (dV_bd c.toNat hv.2.1).2
  have l1 : (10 : Int) ^ (c.toNat - 1) * 10 ^ e ≤ v := by rw [ev]; exact Int.mul_le_mul_of_nonneg_right lo (Int.le_of_lt (p10 e))
  have l2 : v < 10 ^ c.toNat * 10 ^ e := by rw [ev]; exact Int.mul_lt_mul_of_pos_right hi (p10 e)
  rw [← Int.pow_add] at l1 l2
  have d2 : dgs v (c + (e : Int)) := by
    refine ⟨by omega, by omega, fun j hj => ?_, Or.inr ?_⟩
    · exact Int.le_trans (p10_le (show j ≤ c.toNat - 1 + e by omega)) l1
    · rw [show (c + (e : Int)).toNat = c.toNat + e by omega]; exact l2
  have := dgs_det hd d2
  have := ep.resolve_left (by omega)
  omega
section
variable {v s c p b W d P th x n n0 : Int} {g : Nat → Int32} {Lc Lr : List (Int × Int)} {I0 I4 : Nat → Int32} {J4 : Nat → Int64} {G0 G3 : Nat → Int32} {H3 : Nat → Int64} {G4 : Nat → Int32} {H4 : Nat → Int64}
theorem nm_all (h : vR v s g c p) (hT : nTk 2 v s W d x I0 I4 J4 G0 G3 H3 G4 H4) (hn : dnc (rdM (dV g c.toNat) (p + x - c) d) n) (hW : W = cK 2 Lc) (hd : d = cK 3 Lc) (hP : P = cK 8 Lc) (hth : th = if 0 < cK 5 Lc then 1 else 0) (hL : fl Lc = Lr) (h7 : cK 7 Lc = 0) (h8 : cK 8 Lc = 0) : sgn b (dgN G3 H3) ++ nrun (nEv (dgD G3 H3) (dgW G3) (G3 3).toInt W th (G0 2).toInt (dgD G4 H4) (dgW G4) P) W 0 P Lc = nLk (rdM (dV g c.toNat) (p + x - c) d) n d 0 b Lr := by
  rcases hT with ⟨_, a, _⟩ | ⟨a, _⟩
  · rw [vR_rd h] at a
    exact n_eqN a hn hW hd hP hth hL h7 h8
  · omega
theorem pw_all (h : vR v s g c p) (hT : nTk 3 v s W d x I0 I4 J4 G0 G3 H3 G4 H4) (hn0 : dnc (rdM (dV g c.toNat) (p + -(pE c p (pW W)) - c) d) n0) (hn : dnc (rdM (dV g c.toNat) (p + -(pF c p (pW W) n0 d) - c) d) n) (hW : W = cK 2 Lc) (hd : d = cK 3 Lc) (hP : P = cK 8 Lc) (hth : th = if 0 < cK 5 Lc then 1 else 0) (hL : fl Lc = Lr) (hWb : 0 ≤ W ∧ W ≤ 64) : sgn b (dgN G3 H3) ++ nrun (nEv (dgD G3 H3) (dgW G3) (G3 3).toInt W th (G0 2).toInt (dgD G4 H4) (dgW G4) P) W 0 P Lc = nLk (rdM (dV g c.toNat) (p + -(pF c p (pW W) n0 d) - c) d) n d (pF c p (pW W) n0 d) b Lr := by
  rcases hT with ⟨a, _⟩ | ⟨_, nd, m0, t1, t2, t3, t4, t5⟩
  · omega
  have q := vR_nd h t1
  have hvb := h.1.1
  have eE : pE v (nd + s) (pW W) = pE c p (pW W) := by
    unfold pE
    by_cases k : c ≤ 0
    · rw [if_pos k, if_pos (q.1.2 k)]
    · rw [if_neg k, if_neg (fun w => k (q.1.1 w)), q.2 (by omega)]
  rw [eE, Int.sub_eq_add_neg, vR_rd h] at t2
  have em := dnc_det t2 hn0
  subst em
  have eF : pF v (nd + s) (pW W) m0 d = pF c p (pW W) m0 d := by unfold pF; rw [eE]
  rw [eF] at t3 t4 t5
  rw [Int.sub_eq_add_neg, vR_rd h] at t3
  rw [t5]
  have w1 : 1 ≤ pW W ∧ pW W ≤ 64 := by unfold pW; split <;> omega
  have hE : iab (pF c p (pW W) m0 d) ≤ 999 := by
    have e := pE_b (c := c) (p := p) (w := pW W) w1.1
    unfold iab pF
    split <;> split <;> omega
  exact n_eqP t3 t4 hE hn hW hd hP hth hL
end
/-! one section of both sides -/
def secR (I K M : Nat → Int32) (k : Int) (K2 A B Q : Nat → Int32) (x e : Int) : Prop :=
  ((I 0).toInt = k ∧ 0 ≤ x) ∧ (k = 0 ∨ fl (cs K M (I 1).toInt (I 2).toInt) = rs K2 A B Q x e) ∧ (k = 2 → cK 7 (cs K M (I 1).toInt (I 2).toInt) = 0 ∧ cK 8 (cs K M (I 1).toInt (I 2).toInt) = 0)
  ∧ ((k = 2 ∨ k = 3) → (I 6).toInt = (if 0 < cK 5 (cs K M (I 1).toInt (I 2).toInt) then 1 else 0) ∧ (I 8).toInt = zrem K2 7 x e ∧ (I 7).toInt = zrem K2 5 x e)
  ∧ (k = 4 → (I 12).toInt = gvF 0 (rs K2 A B Q x e) ∧ (I 11).toInt = cK 11 (rs K2 A B Q x e) ∧ nzS (I 11).toInt (cs K M (I 1).toInt (I 2).toInt))
  ∧ (k = 5 → (I 13).toInt = pmA 0 (cs K M (I 1).toInt (I 2).toInt) ∧ (I 14).toInt = hdR K2 x e ∧ dtK K2 A B x e) ∧ ((k = 1 ∨ k = 6) → wk K2 x e)
theorem sec_eq {I K M K2 A B Q g : Nat → Int32} {k x e v s b c p ng sx b2 m : Int} {TX T1 T2 : List Int} (h : vR v s g c p) (hc0 : c = 0 → p ≤ 7) (hP : secP I K M m) (hR : secR I K M k K2 A B Q x e) (h1 : cSec I K M v s b TX T1) (hk : ¬ k = 0) (h2 : rSec k K2 A B Q x e g c p ng sx b2 TX T2) (hb : ((k = 1 ∨ k = 6) ∨ (b = b2 ∧ (b = 0 ↔ (ng = 0 ∨ sx = 1))))) : T1 = T2 := by
  obtain ⟨⟨r0, x0⟩, rL, r2, r23, r4, r5, r16⟩ := hR
  have rL := rL.resolve_left hk
  obtain ⟨pk, p23, p4, p5, p16⟩ := hP
  have z2 : zrem K2 2 x e = cK 2 (rs K2 A B Q x e) := zr_c (fun _ _ _ _ => rx_22) _ _ x0 rfl
  have z3 : zrem K2 3 x e = cK 3 (rs K2 A B Q x e) := zr_c (fun _ _ _ _ => rx_3) _ _ x0 rfl
  have f2 : cK 2 (rs K2 A B Q x e) = cK 2 (cs K M (I 1).toInt (I 2).toInt) := by rw [← rL, cK_fl (by decide)]
  have f3 : cK 3 (rs K2 A B Q x e) = cK 3 (cs K M (I 1).toInt (I 2).toInt) := by rw [← rL, cK_fl (by decide)]
  rcases h1 with ⟨a, _⟩ | ⟨a, a1⟩ | ⟨a, a1⟩ | ⟨a, a1⟩ | ⟨a, a1⟩
  · omega
  · have kk : k = 2 ∨ k = 3 := by omega
    have hb := hb.resolve_left (by omega)
    have s23 := r23 kk
    have pp := p23 a
    have e3 : (I 3).toInt = cK 2 (cs K M (I 1).toInt (I 2).toInt) := pp.1.2.2.1.symm
    have e4 : (I 4).toInt = cK 3 (cs K M (I 1).toInt (I 2).toInt) := pp.1.2.2.2.1.symm
    have e9 : (I 9).toInt = cK 8 (cs K M (I 1).toInt (I 2).toInt) := pp.1.2.2.2.2.symm
    have z2' : zrem K2 2 x e = (I 3).toInt := by rw [z2, f2, e3]
    have z3' : zrem K2 3 x e = (I 4).toInt := by rw [z3, f3, e4]
    obtain ⟨I0, I4, J4, G0, G3, H3, G4, H4, tk, tT⟩ := a1
    rw [r0, s23.2.1, s23.2.2] at tk
    unfold rSec at h2
    rw [z3', z2'] at h2
    rcases h2 with ⟨b1, n, hn, hT2⟩ | ⟨b1, n0, n, hn0, hn, hT2⟩ | ⟨b1, _⟩ | ⟨b1, _⟩ | ⟨b1, _⟩
    · rw [b1] at tk
      rw [tT, hT2, hb.1]
      exact nm_all h tk hn e3 e4 e9 s23.1 rL (r2 b1).1 (r2 b1).2
    · rw [b1] at tk
      rw [tT, hT2, hb.1]
      have l64 := cK_le (k := 2) (cs K M (I 1).toInt (I 2).toInt)
      have l0 := cK_0 (k := 2) (cs K M (I 1).toInt (I 2).toInt)
      have ll : ((cs K M (I 1).toInt (I 2).toInt).length : Int) ≤ 64 := by
        unfold cs; rw [cl_len]; have := pp.1.1; omega
      exact pw_all h tk hn0 hn e3 e4 e9 s23.1 rL ⟨by omega, by omega⟩
    · omega
    · omega
    · omega
  · have hb := hb.resolve_left (by omega)
    obtain ⟨I3, J3, I7, J7, fd⟩ := a1
    have s4 := r4 (by omega)
    have pp := p4 a
    rcases h2 with ⟨b1, _⟩ | ⟨b1, _⟩ | ⟨b1, fc⟩ | ⟨b1, _⟩ | ⟨b1, _⟩
    · omega
    · omega
    · rw [← s4.1, ← s4.2.1, ← hb.1] at fc
      exact f_all h fd fc rL pp.1.2.2.1.symm pp.1.2.2.2.1.symm s4.2.2
    · omega
    · exact absurd b1.2.2.1 (fun q => q (by omega))
  · have hb := hb.resolve_left (by omega)
    have s5 := r5 (by omega)
    rcases h2 with ⟨b1, _⟩ | ⟨b1, _⟩ | ⟨b1, _⟩ | ⟨b1, rd⟩ | ⟨b1, _⟩
    · omega
    · omega
    · omega
    · have eP : pmA 0 (rs K2 A (fun _ => 0) (fun _ => 0) x e) = (I 13).toInt := by
        rw [pm_z (B2 := B) (Q2 := Q) _ x 0 x0 rfl, ← rL, pmA_fl, s5.1]
      have eL : rs K2 A B (fun _ => 0) x e = rs K2 A B Q x e := rs_q _ x x0 rfl (fun j j1 j2 => (s5.2.2 j j1 j2).1.2)
      rw [eP, eL, ← s5.2.1] at rd
      exact dt_all h hc0 a1 rd rL hb.2
    · exact absurd b1.2.2.2 (fun q => q (by omega))
  · have kk : k = 1 ∨ k = 6 := by omega
    rcases h2 with ⟨b1, _⟩ | ⟨b1, _⟩ | ⟨b1, _⟩ | ⟨b1, _⟩ | ⟨_, hT2⟩
    · omega
    · omega
    · omega
    · omega
    · rw [a1, hT2]
      exact w_eq x0 (r16 kk) rL
