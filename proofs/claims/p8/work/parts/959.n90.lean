/-! readSection of the reference -/
theorem c7_5 : ∀ R : List (Int × Int × Int × Int32), rWA 5 R → c7 R = 0
  | [], _ => rfl
  | p :: R, h => by
    have hp := h.1
    unfold rIt at hp
    show (if p.1 = 7 then 1 else 0) + c7 R = 0
    rw [if_neg (by omega), c7_5 R h.2]; rfl
def rFr (a : Int) (F4 F5 F6 F7 g4 g5 g6 g7 : Nat → Int32) : Prop := ∀ j : Nat, (j : Int) < 160 + a → sm4 F4 F5 F6 F7 g4 g5 g6 g7 j
theorem rFr_t {a : Int} {F4 F5 F6 F7 g4 g5 g6 g7 k4 k5 k6 k7 : Nat → Int32} (h : rFr a F4 F5 F6 F7 g4 g5 g6 g7) (k : ∀ j : Nat, (j : Int) < 160 + a → sm4 g4 g5 g6 g7 k4 k5 k6 k7 j) : rFr a F4 F5 F6 F7 k4 k5 k6 k7 := fun j hj => by
  obtain ⟨p1, p2, p3, p4⟩ := h j hj
  obtain ⟨q1, q2, q3, q4⟩ := k j hj
  exact ⟨q1.trans p1, q2.trans p2, q3.trans p3, q4.trans p4⟩
/-- a section that is read -/
def rEnd (f : Nat → Int32) (e i fr to a n k : Int) (K A B Q : Nat → Int32) : Prop := (a ≤ n ∧ n ≤ to) ∧ 0 ≤ k ∧ ∃ (L : List (Int × Int)) (pc : Int), kScL f e i fr to k L pc ∧ fR (rvs K A B Q (160 + a) (160 + n)) = exR L ∧ (k = 0 ∨ rOk k (rvs K A B Q (160 + a) (160 + n))) ∧ c7 (rvs K A B Q (160 + a) (160 + n)) = pc
def rsI (f1 I f2 f4 f5 f6 f7 : Nat → Int32) (e i fr to w a : Int) (Y : Nat) : Prop := (w = 0 ∧ to ≤ (I 14).toInt ∧ (f2 Y).toInt = 0 ∧ (I 12).toInt = a ∧ a ≤ to ∧ kScL f1 e i fr to 0 [] 0) ∨ (rY f1 f4 f5 e i fr to (I 14).toInt (I 12).toInt a w (I 17).toInt (f2 Y).toInt (I 15).toInt (I 16).toInt (I 18).toInt (I 19).toInt ∧ rL f1 f4 f5 f6 f7 e i fr to (I 14).toInt (I 12).toInt a w (f2 Y).toInt (I 15).toInt (I 16).toInt (I 18).toInt (I 19).toInt)
section
variable {f1 f3 f8 F2 F4 F5 F6 F7 : Nat → Int32} {J0 : Nat → Int64} {x1 x2 x3 x4 x5 x6 : Int32} {e : Int}
theorem gm_rsl {Z1 Z2 : (Nat → Int32) × (Nat → Int32) × (Nat → Int32) × (Nat → Int32) × (Nat → Int32) × (Nat → Int32) × (Nat → Int32) × (Nat → Int32) → Prop} (h5 : (x5 = 0 ∧ ¬ x1.toInt = 3) ∨ (¬ x5 = 0 ∧ x1.toInt = 3)) (h1 : 0 ≤ x1.toInt ∧ x1.toInt ≤ 3) (he : e ≤ 64) (h3 : x3.toInt ≤ e) (h6 : 0 ≤ x6.toInt)
    (hB : ∀ I g2 g4 g5 g6 g7 : Nat → Int32, ((I 3).toInt = e ∧ kFm F2 g2 x1) → (0 ≤ (I 13).toInt ∨ ((I 13).toInt = -1 ∧ rFr x6.toInt F4 F5 F6 F7 g4 g5 g6 g7 ∧ rEnd f1 e x1.toInt x2.toInt x3.toInt x6.toInt (I 12).toInt (g2 (5 + x1).toNatClampNeg).toInt g4 g5 g6 g7)) → Z1 (I, g2, f3, g4, g5, g6, g7, upd f8 (5 + x1).toNatClampNeg (160 + I 12)) → Z2 (I, g2, f3, g4, g5, g6, g7, upd f8 (5 + x1).toNatClampNeg (160 + I 12))) :
    ∀ (N : Nat) (I f2 f4 f5 f6 f7 : Nat → Int32), ((I 3).toInt = e ∧ kFm F2 f2 x1) → (0 ≤ (I 13).toInt ∨ ((I 13).toInt = -1 ∧ rFr x6.toInt F4 F5 F6 F7 f4 f5 f6 f7 ∧ rsI f1 I f2 f4 f5 f6 f7 e x1.toInt x2.toInt x3.toInt x4.toInt x6.toInt (5 + x1).toNatClampNeg)) → v_M_readSection_107 J0 64 f1 10 10 f3 320 320 320 320 10 f8 x1 x3 x4 x5 x6 Z1 N I f2 f4 f5 f6 f7 → v_M_readSection_107 J0 64 f1 10 10 f3 320 320 320 320 10 f8 x1 x3 x4 x5 x6 Z2 N I f2 f4 f5 f6 f7 := by
  have g230 : ∀ I g2 g4 g5 g6 g7 : Nat → Int32, ((I 3).toInt = e ∧ kFm F2 g2 x1) → (0 ≤ (I 13).toInt ∨ ((I 13).toInt = -1 ∧ rFr x6.toInt F4 F5 F6 F7 g4 g5 g6 g7 ∧ rEnd f1 e x1.toInt x2.toInt x3.toInt x6.toInt (I 12).toInt (g2 (5 + x1).toNatClampNeg).toInt g4 g5 g6 g7)) → v_M_readSection_230 I J0 64 f1 10 g2 10 f3 320 g4 320 g5 320 g6 320 g7 10 f8 x1 Z1 → v_M_readSection_230 I J0 64 f1 10 g2 10 f3 320 g4 320 g5 320 g6 320 g7 10 f8 x1 Z2 := fun I g2 g4 g5 g6 g7 q1 q2 => x_M_readSection_230 (fI_and (fun _ => hB I g2 g4 g5 g6 g7 q1 q2))
  have gbad : ∀ I g2 g4 g5 g6 g7 : Nat → Int32, ((I 3).toInt = e ∧ kFm F2 g2 x1) → 0 ≤ (I 13).toInt → v_M_readSection_218 I J0 64 f1 10 g2 10 f3 320 g4 320 g5 320 g6 320 g7 10 f8 x1 x4 x6 Z1 → v_M_readSection_218 I J0 64 f1 10 g2 10 f3 320 g4 320 g5 320 g6 320 g7 10 f8 x1 x4 x6 Z2 := fun I g2 g4 g5 g6 g7 q1 q2 => x_M_readSection_218 (fI_ite' (fun _ => g230 I g2 g4 g5 g6 g7 q1 (Or.inl q2)) (fun _ => f_M_minutes trivial (fun g _ => g230 I g2 g4 g g6 g7 q1 (Or.inl q2))))
  intro N
  induction N with
  | zero => intro I f2 f4 f5 f6 f7 _ _ h; exact h.elim
  | succ N ih =>
    intro I f2 f4 f5 f6 f7 hI hW
    rcases hW with hW | ⟨hw, hF, hW⟩
    · refine x_M_readSection_107 (fI_ite (fun _ => gbad I f2 f4 f5 f6 f7 hI hW) (fun _ => fI_ite (fun _ => gbad I f2 f4 f5 f6 f7 hI hW) (fun c => ?_)))
      exact absurd (zle_le.2 (by rw [z32_0]; exact hW)) c
    rcases hW with ⟨w0, wt, wk, wn, wa, wS⟩ | ⟨hY, hL⟩
    · have good : v_M_readSection_218 I J0 64 f1 10 f2 10 f3 320 f4 320 f5 320 f6 320 f7 10 f8 x1 x4 x6 Z1 → v_M_readSection_218 I J0 64 f1 10 f2 10 f3 320 f4 320 f5 320 f6 320 f7 10 f8 x1 x4 x6 Z2 := by
        refine x_M_readSection_218 (fI_ite' (fun _ => g230 I f2 f4 f5 f6 f7 hI (Or.inr ⟨hw, hF, ?_⟩)) (fun c => ?_))
        · have ez : rvs f4 f5 f6 f7 (160 + x6.toInt) (160 + (I 12).toInt) = [] := rvs_x (by omega)
          unfold rEnd
          rw [ez, wk]
          exact ⟨by omega, Int.le_refl _, [], 0, wS, rfl, Or.inl rfl, rfl⟩
        · have : x4.toInt = 5 := by rw [c]; decide
          omega
      refine x_M_readSection_107 (fI_ite (fun _ => good) (fun c => ?_))
      exact absurd (zle_le.2 wt) c
    have hb := rY_b hY
    have hyS := hY.1.1
    have hle := yS_le hyS hb.1.2.1
    refine x_M_readSection_107 (fI_ite (fun c => ?_) (fun c => fI_ite (fun c2 => ?_) (fun c2 => ?_)))
    · rw [zle_le] at c
      obtain ⟨L, pc, r1, r2⟩ := rL_end hY hL c
      have hE := rY_end hY c
      refine x_M_readSection_218 (fI_ite' (fun d => g230 I f2 f4 f5 f6 f7 hI (Or.inr ⟨hw, hF, ⟨hb.1.2.2.2.1, hE.1⟩, hE.2.1, L, pc, ?_, r1.1, Or.inr r1.2.1, r1.2.2.1⟩)) (fun d => ?_))
      · have d : ¬ x4.toInt = 5 := fun q => d (zle_eq.2 (q.trans (by decide)))
        rw [if_neg (by omega)] at r2; exact r2
      · have d : x4.toInt = 5 := by rw [d]; decide
        have s5 : (f2 (5 + x1).toNatClampNeg).toInt = 5 := by omega
        rw [if_pos s5] at r2
        have hW5 : rWA 5 (rvs f4 f5 f6 f7 (160 + x6.toInt) (160 + (I 12).toInt)) := by
          have z := r1.2.1
          rw [s5] at z
          rcases z with ⟨_, z⟩ | ⟨z, _⟩ | ⟨z, _⟩
          · exact z
          · exact absurd z (by decide)
          · exact absurd z (by decide)
        refine gm_minutes (Q := f7) h6 hb.1.2.2.2.1 (by omega) hW5 (fun g hg hgW hgl => g230 I f2 f4 g f6 f7 hI (Or.inr ⟨hw, rFr_t hF (fun j hj => ⟨rfl, hgl j hj, rfl, rfl⟩), ⟨hb.1.2.2.2.1, hE.1⟩, hE.2.1, mnG 0 L, pc, r2, ?_, Or.inr ?_, ?_⟩))
        · rw [hg, r1.1, mn_R]
        · rw [s5]; exact Or.inl ⟨Or.inr (Or.inr (Or.inl rfl)), hgW⟩
        · rw [c7_5 _ hgW, ← r1.2.2.1, c7_5 _ hW5]
    · rw [zle_le, z32_0] at c2; omega
    · rw [zle_le] at c
      have hpt : (I 14).toInt < x3.toInt := by omega
      refine qm_common ⟨by omega, by rw [hI.1]; omega, by rw [hI.1]; exact he, by omega, by omega, by omega⟩ (fun r I2 g4 g5 g6 g7 hc => x_M_readSection_126 ?_)
      dsimp only
      obtain ⟨hf2, hc⟩ := hc
      rw [hI.1] at hc
      have e3 : (I2 3).toInt = e := by rw [hf2 3 (by decide)]; exact hI.1
      have e13 : I2 13 = I 13 := hf2 13 (by decide)
      have e15 : I2 15 = I 15 := hf2 15 (by decide)
      have e16 : I2 16 = I 16 := hf2 16 (by decide)
      have e17 : I2 17 = I 17 := hf2 17 (by decide)
      have e18 : I2 18 = I 18 := hf2 18 (by decide)
      have e19 : I2 19 = I 19 := hf2 19 (by decide)
      rcases hc with ⟨r0, ⟨e14, e12⟩, hcl, k1, k2, k3, k4⟩ | ⟨r1, ⟨l1, l2, l3⟩, hcl, hC, hA⟩
      · subst k1; subst k2; subst k3; subst k4
        have hY2 : rY f1 g4 g5 e x1.toInt x2.toInt x3.toInt (I2 14).toInt (I2 12).toInt x6.toInt x4.toInt (I2 17).toInt (f2 (5 + x1).toNatClampNeg).toInt (I2 15).toInt (I2 16).toInt (I2 18).toInt (I2 19).toInt := by rw [e14, e12, e15, e16, e17, e18, e19]; exact hY
        have hL2 : rL f1 g4 g5 g6 g7 e x1.toInt x2.toInt x3.toInt (I2 14).toInt (I2 12).toInt x6.toInt x4.toInt (f2 (5 + x1).toNatClampNeg).toInt (I2 15).toInt (I2 16).toInt (I2 18).toInt (I2 19).toInt := by rw [e14, e12, e15, e16, e18, e19]; exact hL
        rw [← e14] at hcl
        have hw2 : (I2 13).toInt = -1 := by rw [e13]; exact hw
        rw [← e14] at hpt
        clear hY hL hw e14 e12 e15 e16 e17 e18 e19 e13 hf2
        have hb := rY_b hY2
        refine fI_ite' (fun z => absurd (zle_eq.2 (r0.trans (by decide))) z) (fun _ => ?_)
        have g211 : (x4.toInt = 1 ∨ x4.toInt = 6 ∨ (x1.toInt = 3 ∧ (x4.toInt = 2 ∨ x4.toInt = 5))) → (¬ x4.toInt = 6 ∨ ¬ ych f1 e (I2 14).toInt = 64) → v_M_readSection_211 I2 J0 64 f1 10 f2 10 f3 320 g4 320 g5 320 g6 320 g7 10 f8 x1 x3 x4 x5 x6 (v_M_readSection_107 J0 64 f1 10 10 f3 320 320 320 320 10 f8 x1 x3 x4 x5 x6 Z1 N) Z1 → v_M_readSection_211 I2 J0 64 f1 10 f2 10 f3 320 g4 320 g5 320 g6 320 g7 10 f8 x1 x3 x4 x5 x6 (v_M_readSection_107 J0 64 f1 10 10 f3 320 320 320 320 10 f8 x1 x3 x4 x5 x6 Z2 N) Z2 := fun hw4 h64 => by
          refine x_M_readSection_211 (qm_plainItem ⟨by omega, by omega, by omega, by omega, by omega⟩ (fun I3 k4 k5 k6 k7 hq => x_M_readSection_215 (ih I3 f2 k4 k5 k6 k7 ?_ ?_)))
          · exact ⟨by rw [hq.1 3 (by decide)]; exact e3, hI.2⟩
          · obtain ⟨hz, hq⟩ := hq
            rw [e3] at hq
            rcases hq with ⟨y1, y2, y3, y4, y5, y6⟩ | ⟨y1, _⟩
            · have y6 := y6.resolve_left (by omega)
              refine Or.inr ⟨by omega, rFr_t hF (fun j hj => y6.2.1 j (by omega)), Or.inr ⟨?_, ?_⟩⟩
              · rw [hz 15 (by decide), hz 16 (by decide), hz 17 (by decide), hz 18 (by decide), hz 19 (by decide)]
                exact rY_pl hY2 hpt hcl hw4 y4 h64 y3 y5 y2
              · rw [hz 15 (by decide), hz 16 (by decide), hz 18 (by decide), hz 19 (by decide)]
                exact rL_pl hY2 hL2 hpt hcl hw4 y4 h64 y3 y5 y2 y6
            · exact Or.inl (by omega)
        have g191 : ¬ (x4.toInt = 2 ∧ x5 = 0) → (¬ x4.toInt = 6 ∨ ¬ ych f1 e (I2 14).toInt = 64) → v_M_readSection_191 I2 J0 64 f1 10 f2 10 f3 320 g4 320 g5 320 g6 320 g7 10 f8 x1 x3 x4 x5 x6 (v_M_readSection_107 J0 64 f1 10 10 f3 320 320 320 320 10 f8 x1 x3 x4 x5 x6 Z1 N) Z1 → v_M_readSection_191 I2 J0 64 f1 10 f2 10 f3 320 g4 320 g5 320 g6 320 g7 10 f8 x1 x3 x4 x5 x6 (v_M_readSection_107 J0 64 f1 10 10 f3 320 320 320 320 10 f8 x1 x3 x4 x5 x6 Z2 N) Z2 := fun hn2 h64 => by
          have hw4 : ¬ (x4.toInt = 5 ∧ x5 = 0) → (x4.toInt = 1 ∨ x4.toInt = 6 ∨ (x1.toInt = 3 ∧ (x4.toInt = 2 ∨ x4.toInt = 5))) := fun hn5 => by
            by_cases y : x5 = 0
            · have n2 : ¬ x4.toInt = 2 := fun q => hn2 ⟨q, y⟩
              have n5 : ¬ x4.toInt = 5 := fun q => hn5 ⟨q, y⟩
              omega
            · have := h5.resolve_left (fun q => y q.1)
              omega
          refine x_M_readSection_191 (fI_ite' (fun d => g211 (hw4 (fun q => d (zle_eq.2 (q.1.trans (by decide))))) h64) (fun d => fI_ite' (fun d2 => g211 (hw4 (fun q => d2 q.2)) h64) (fun d2 => ?_)))
          have d5 : x4.toInt = 5 := by rw [d]; decide
          refine qm_dateItem ⟨by omega, by omega, by omega, by omega, by omega, h6⟩ (by omega) (fun I3 k4 k5 k6 k7 hq => x_M_readSection_208 (ih I3 f2 k4 k5 k6 k7 ?_ ?_))
          · exact ⟨by rw [hq.1 3 (by decide)]; exact e3, hI.2⟩
          · obtain ⟨hz, hq⟩ := hq
            rw [e3, hz 19 (by decide)] at hq
            have n3 : ¬ x1.toInt = 3 := by
              rcases h5 with q | q
              · exact q.2
              · exact absurd d2 q.1
            rcases hq with ⟨y1, y2, y3, y4, y6⟩ | ⟨y1, _⟩
            · have y6 := y6.resolve_left (by omega)
              refine Or.inr ⟨by omega, rFr_t hF y6.1, Or.inr ⟨?_, ?_⟩⟩
              · rw [hz 15 (by decide), hz 16 (by decide), hz 17 (by decide), hz 18 (by decide), hz 19 (by decide)]
                exact rY_da hY2 hpt hcl d5 n3 y4 (by omega) y3 (by omega)
              · rw [hz 15 (by decide), hz 16 (by decide), hz 18 (by decide), hz 19 (by decide)]
                exact rL_da hY2 hL2 hpt hcl d5 y4 (by omega) y3 (by omega) y6
            · exact Or.inl (by omega)
        have g170 : (¬ x4.toInt = 6 ∨ ¬ ych f1 e (I2 14).toInt = 64) → v_M_readSection_170 I2 J0 64 f1 10 f2 10 f3 320 g4 320 g5 320 g6 320 g7 10 f8 x1 x3 x4 x5 x6 (v_M_readSection_107 J0 64 f1 10 10 f3 320 320 320 320 10 f8 x1 x3 x4 x5 x6 Z1 N) Z1 → v_M_readSection_170 I2 J0 64 f1 10 f2 10 f3 320 g4 320 g5 320 g6 320 g7 10 f8 x1 x3 x4 x5 x6 (v_M_readSection_107 J0 64 f1 10 10 f3 320 320 320 320 10 f8 x1 x3 x4 x5 x6 Z2 N) Z2 := fun h64 => by
          refine x_M_readSection_170 (fI_ite' (fun d => g191 (fun q => d (zle_eq.2 (q.1.trans (by decide)))) h64) (fun d => fI_ite' (fun d2 => g191 (fun q => d2 q.2) h64) (fun d2 => ?_)))
          have dd : x4.toInt = 2 := by rw [d]; decide
          have n3 : ¬ x1.toInt = 3 := by
            rcases h5 with q | q
            · exact q.2
            · exact absurd d2 q.1
          refine qm_numberItem (x1 := x6) (x2 := x1) ⟨by omega, by omega, by omega, by omega, by omega, h6, h1.1, h1.2, hb.2.1.1, hb.2.1.2.1, hb.2.1.2.2.1, hb.2.1.2.2.2.1, hb.2.1.2.2.2.2, by omega⟩ (by omega) (fun I3 k4 k5 k6 k7 k2 hq hst => x_M_readSection_188 (ih I3 k2 k4 k5 k6 k7 ?_ ?_))
          · exact ⟨by rw [hq.1 3 (by decide)]; exact e3, fun j hj => (hq.2.1 j hj).trans (hI.2 j hj)⟩
          · obtain ⟨hz, hfm, hq⟩ := hq
            rw [e3] at hq hst
            rcases hq with ⟨b0, ⟨⟨y1, y2, y3, y4⟩, yk, yN⟩ | ⟨y1, _⟩⟩ | ⟨_, y1⟩
            · have hst := (hst.resolve_left (fun q => q b0)).resolve_left (by omega)
              exact Or.inr ⟨by omega, rFr_t hF hst.1, Or.inr ⟨rY_nu hY2 hpt hcl dd n3 b0 yN (by omega) y3 (by omega) y4 yk, rL_nu hY2 hL2 hpt hcl dd b0 yN (by omega) y3 (by omega) hst⟩⟩
            · exact Or.inl (by omega)
            · exact Or.inl (by omega)
        refine fI_ite' (fun d => g170 (Or.inl (fun q => d (zle_eq.2 (q.trans (by decide)))))) (fun d => f_M_ch ⟨by omega, by omega⟩ (fun r9 hr9 => x_M_readSection_144 (fI_ite' (fun z => g170 (Or.inr (fun q => z (zle_eq.2 ?_)))) (fun z => gm_item (by omega) (by omega) (fun k4 k5 k6 k7 b => x_M_readSection_157 (ih _ f2 k4 k5 k6 k7 ⟨e3, hI.2⟩ (Or.inr ⟨hw2, rFr_t hF (fun j hj => b.2.1 j (by omega)), Or.inr ?_⟩)))))))
        · rw [hr9, e3, q]; decide
        · have d6 : x4.toInt = 6 := by rw [d]; decide
          have z64 : ych f1 e (I2 14).toInt = 64 := by rw [← e3, ← hr9, z]; decide
          have a1 : (I2 14 + 1).toInt = (I2 14).toInt + 1 := zadd1 (by simp only [Int32.reduceToInt]; omega) (by simp only [Int32.reduceToInt]; omega)
          have b1 : (I2 12 + 1).toInt = (I2 12).toInt + 1 := zadd1 (by simp only [Int32.reduceToInt]; omega) (by simp only [Int32.reduceToInt]; omega)
          have hC : rC k4 k5 ((zu I2 12 (I2 12 + 1)) 12).toInt = 0 := by
            have bb := b.2.2
            rw [show ((zu I2 12 (I2 12 + 1)) 12).toInt = (I2 12).toInt + 1 from b1] at bb ⊢
            rw [rvs_s (by omega) (by omega), rvs_x (by omega)] at bb
            injection bb with bb _
            injection bb with q1 _
            unfold rC
            rw [show 160 + ((I2 12).toInt + 1) - 1 = 160 + (I2 12).toInt by omega, q1]; rfl
          exact ⟨rY_at hY2 hpt hcl d6 z64 b1 hC a1, rL_at hY2 hL2 hpt hcl d6 z64 a1 b⟩
      · refine fI_ite' (fun _ => ih I2 f2 g4 g5 g6 g7 ⟨e3, hI.2⟩ (Or.inr ⟨by rw [e13]; exact hw, rFr_t hF (fun j hj => hA.2.1 j (by omega)), Or.inr ⟨?_, ?_⟩⟩)) (fun z => ?_)
        · rw [e15, e16, e17, e18, e19]
          exact rY_cm hY hpt hcl (by omega) ⟨l2, l3⟩ hC (by omega)
        · rw [e15, e16, e18, e19]
          exact rL_cm hY hL hpt hcl (by omega) l2 hC (by omega) hA
        · rw [z] at r1; exact absurd r1 (by decide)
end
