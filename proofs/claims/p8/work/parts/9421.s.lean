section
variable {I0 I3 I5 I6 f7 F8 F9 : Nat → Int32} {x2 x3 b : Int32} {i first : Int}
theorem gs_lp1 {Z1 Z2 : Int32 → (Nat → Int32) × (Nat → Int32) × (Nat → Int32) × (Nat → Int32) × (Nat → Int32) × (Nat → Int32) × (Nat → Int32) × (Nat → Int32) × Nat → Prop} {kp : Int} {c1 : Int} (hkp : (I0 4).toInt = kp) (hc : qC f7) (h2 : 0 ≤ x2.toInt) (h6 : (I0 1).toInt ≤ 64) (hN : ∀ r u, 0 ≤ r.toInt → Z1 r u → Z2 r u)
    (hB : ∀ I1 S g8 g9 : Nat → Int32, secD f7 (I0 1).toInt i x2.toInt x3.toInt first (I1 4).toInt S g8 g9 F8 F9 → (I1 1).toInt = c1 → 0 ≤ (I1 4).toInt → (I1 4).toInt ≤ x3.toInt → Z1 (-1) (I0, I1, I3, S, I5, I6, g8, g9, 1) → Z2 (-1) (I0, I1, I3, S, I5, I6, g8, g9, 1)) :
    ∀ (N : Nat) (I1 S f8 f9 : Nat → Int32) (x7 : Int32), 0 ≤ x7.toInt → qV f7 f8 S (I0 1).toInt i x2.toInt x3.toInt x7.toInt (I1 4).toInt kp b.toInt → sLV f7 S f8 f9 F8 F9 (I0 1).toInt i x2.toInt x3.toInt x7.toInt (I1 4).toInt b.toInt → (I1 1).toInt = c1 → (S 1).toInt = first → 0 ≤ (I1 4).toInt → (I1 4).toInt ≤ x7.toInt → v_Reader_readSection_102 I0 1 64 f7 64 64 x3 b Z1 N I1 I3 S I5 I6 f8 f9 x7 → v_Reader_readSection_102 I0 1 64 f7 64 64 x3 b Z2 N I1 I3 S I5 I6 f8 f9 x7 := by
  intro N
  induction N with
  | zero => intro I1 S f8 f9 x7 _ _ _ _ _ _ _ h; exact h.elim
  | succ N ih =>
    intro I1 S f8 f9 x7 h0 hV hL hc1 hf hn0 hn7
    have hle := qV_le hV
    have hs0 := hV.1.2.2.2.2.1
    have g132 : ∀ (r : Int32) (T J g8 g9 : Nat → Int32), (r.toInt ≤ 0 ∨ (0 < r.toInt ∧ r.toInt ≤ 64 ∧ qV f7 g8 T (I0 1).toInt i x2.toInt x3.toInt (x7.toInt + r.toInt) (J 4).toInt kp b.toInt ∧ sLV f7 T g8 g9 F8 F9 (I0 1).toInt i x2.toInt x3.toInt (x7.toInt + r.toInt) (J 4).toInt b.toInt ∧ (J 1).toInt = (I1 1).toInt ∧ (T 1).toInt = (S 1).toInt ∧ 0 ≤ (J 4).toInt ∧ (J 4).toInt ≤ x7.toInt + r.toInt)) → v_Reader_readSection_132 I0 1 J I3 T I5 I6 64 f7 64 g8 64 g9 x3 b x7 r (v_Reader_readSection_102 I0 1 64 f7 64 64 x3 b Z1 N) Z1 → v_Reader_readSection_132 I0 1 J I3 T I5 I6 64 f7 64 g8 64 g9 x3 b x7 r (v_Reader_readSection_102 I0 1 64 f7 64 64 x3 b Z2 N) Z2 := fun r T J g8 g9 hr => by
      refine x_Reader_readSection_132 (fI_ite (fun c => ?_) (fun c => hN x7 _ h0))
      have c : 0 < r.toInt := by simp only [zle_lt, Int32.reduceToInt] at c; exact c
      obtain ⟨_, r6, v1, v2, v3, v4, v5, v6⟩ := hr.resolve_left (by omega)
      have e7 : (x7 + r).toInt = x7.toInt + r.toInt := zadd1 (by omega) (by omega)
      exact ih J T g8 g9 (x7 + r) (by omega) (by rw [e7]; exact v1) (by rw [e7]; exact v2) (v3.trans hc1) (v4.trans hf) v5 (by omega)
    have g126 : x7.toInt < x3.toInt → (b.toInt = 0 ∨ x7.toInt < kp) → v_Reader_readSection_126 I0 1 I1 I3 S I5 I6 64 f7 64 f8 64 f9 x3 b x7 (v_Reader_readSection_102 I0 1 64 f7 64 64 x3 b Z1 N) Z1 → v_Reader_readSection_126 I0 1 I1 I3 S I5 I6 64 f7 64 f8 64 f9 x3 b x7 (v_Reader_readSection_102 I0 1 64 f7 64 64 x3 b Z2 N) Z2 := fun ht hb =>
      x_Reader_readSection_126 (fI_4 (fun q => absurd q (by decide)) (fun _ => rs_it hc hV hL h0 ht h6 hn0 hn7 hb g132) (fun q => absurd q (by decide)) (fun q => absurd q (by decide)))
    refine x_Reader_readSection_102 (fI_ite (fun c => fI_4 (fun q => absurd q (by decide)) (fun _ => ?_) (fun q => absurd q (by decide)) (fun q => absurd q (by decide))) (fun c => fI_ite (fun d => g126 (by rw [zle_le] at c; omega) (Or.inl (by rw [d]; decide))) (fun d => fI_ite (fun d2 => g126 (by rw [zle_le] at c; omega) (Or.inr (by rw [zle_lt, hkp] at d2; exact d2))) (fun d2 => g132 0 S I1 f8 f9 (Or.inl (by decide))))))
    rw [zle_le] at c
    have hE := sLV_end hV hL c
    refine fI_ite' (fun d => x_Reader_readSection_181 (hB I1 _ f8 f9 ?_ hc1 hn0 (by omega))) (fun d => g_findMinutes (I1 := zu S 2 (I1 4)) ?_ ?_ (Int.le_refl _) (by omega) (fun g hg hgf => x_Reader_readSection_181 (hB I1 _ g f9 ?_ hc1 hn0 (by omega))))
    · rw [← hf]; exact secD_n rfl (fun q => d (zle_eq.2 (q.trans (by decide)))) (by omega) hE
    · show 0 ≤ (S 1).toInt; exact (qV_1 hV).1
    · show (S 1).toInt ≤ (I1 4).toInt; exact hV.1.2.2.2.2.2
    · rw [← hf]; exact secD_5 rfl (by rw [d]; decide) hg hgf hE
theorem gs_sec1 {Z1 Z2 : Int32 → (Nat → Int32) × (Nat → Int32) × (Nat → Int32) × (Nat → Int32) × (Nat → Int32) × (Nat → Int32) × (Nat → Int32) × (Nat → Int32) × Nat → Prop} {I1 S f8 f9 : Nat → Int32} {x1 : Int32} (hc : qC f7) (hcl : cl0 S (I1 4).toInt) (hy : yS f7 (I0 1).toInt x3.toInt x2.toInt) (h2 : 0 ≤ x2.toInt) (h23 : x2.toInt ≤ x3.toInt) (h3 : x3.toInt ≤ (I0 1).toInt) (h6 : (I0 1).toInt ≤ 64) (hn0 : 0 ≤ (I1 4).toInt) (hn2 : (I1 4).toInt ≤ x2.toInt) (hN : ∀ r u, 0 ≤ r.toInt → Z1 r u → Z2 r u)
    (hB : ∀ J0 J1 T g8 g9 : Nat → Int32, secD f7 (I0 1).toInt x1.toInt x2.toInt x3.toInt (I1 4).toInt (J1 4).toInt T g8 g9 f8 f9 → (J0 1).toInt = (I0 1).toInt → (J1 1).toInt = (I1 1).toInt → 0 ≤ (J1 4).toInt → (J1 4).toInt ≤ x3.toInt → Z1 (-1) (J0, J1, I3, T, I5, I6, g8, g9, 1) → Z2 (-1) (J0, J1, I3, T, I5, I6, g8, g9, 1)) :
    v_Reader_readSection_7v1 I0 I1 I3 S I5 I6 64 f7 64 f8 64 f9 x1 x2 x3 1 Z1 → v_Reader_readSection_7v1 I0 I1 I3 S I5 I6 64 f7 64 f8 64 f9 x1 x2 x3 1 Z2 := by
  have e32 : (x3 - x2).toInt = x3.toInt - x2.toInt := zsub1 (by omega) (by omega)
  have g71 : ∀ x5 : Int32, ((x5.toInt = 0 ∧ ¬ x1.toInt = 3) ∨ (x5.toInt = 1 ∧ x1.toInt = 3)) → ¬ kGe f7 (I0 1).toInt x2.toInt x3.toInt → v_Reader_readSection_71 I0 1 I1 I3 S I5 I6 64 f7 64 f8 64 f9 x2 x3 x5 Z1 → v_Reader_readSection_71 I0 1 I1 I3 S I5 I6 64 f7 64 f8 64 f9 x2 x3 x5 Z2 := fun x5 h5 hG => by
    refine x_Reader_readSection_71 (fI_4 (fun q => absurd q (by decide)) (fun _ => h_Reader_findKind ⟨hc, h2, h23, by omega, h6⟩ (fun u hu => ?_)) (fun q => absurd q (by decide)) (fun q => absurd q (by decide)))
    obtain ⟨⟨hf1, hf2⟩, hK⟩ := hu
    obtain ⟨a4, e4⟩ := zcn1 hf1
    obtain ⟨a0, e0⟩ := zcn1 hf2
    rw [e4, e0] at hK ⊢
    have hK : kK f7 (I0 1).toInt x3.toInt x2.toInt a0.toInt a4.toInt := hK
    have hU := qU_0 (g := f8) (i := x1.toInt) (cl0_F hcl hn0 (by omega)) hG hK hy h2 (by omega)
    have hr := kK_rng hK
    have g97 : ∀ b : Int32, ((b.toInt = 0 ∧ (¬ x1.toInt = 3 ∨ a0.toInt = 1 ∨ a0.toInt = 6)) ∨ (b.toInt = 1 ∧ x1.toInt = 3 ∧ ¬ a0.toInt = 1 ∧ ¬ a0.toInt = 6)) → v_Reader_readSection_97 (zu I0 4 a4) 1 I1 I3 (zu S 0 a0) I5 I6 64 f7 64 f8 64 f9 x2 x3 b Z1 → v_Reader_readSection_97 (zu I0 4 a4) 1 I1 I3 (zu S 0 a0) I5 I6 64 f7 64 f8 64 f9 x2 x3 b Z2 := fun b hb => by
      refine x_Reader_readSection_97 (fI_ex (fun N => gs_lp1 (I0 := zu I0 4 a4) (F8 := f8) (F9 := f9) (i := x1.toInt) (first := (I1 4).toInt) (kp := a4.toInt) (c1 := (I1 1).toInt) rfl hc h2 h6 hN (fun J T g8 g9 hD q1 q2 q3 => hB _ J T g8 g9 hD rfl q1 q2 q3) N I1 _ f8 f9 x2 h2 (qU_X hU hb) (sLV_0 hcl hn0 (by omega) hG hK (fun b0 => ?_)) rfl hcl.1.1 hn0 hn2))
      omega
    refine x_Reader_readSection_77 (fI_ite (fun c => x_Reader_readSection_96 (g97 0 (Or.inl ⟨by decide, Or.inl ?_⟩))) (fun c => fI_4 (fun q => absurd q (by decide)) (fun _ => h_Section_isBarredFromFourth trivial (fun r u hr2 => x_Reader_readSection_89 (fI_ite (fun d => x_Reader_readSection_96 (g97 0 (Or.inl ⟨by decide, Or.inr ?_⟩))) (fun d => g97 1 (Or.inr ⟨by decide, ?_⟩))))) (fun q => absurd q (by decide)) (fun q => absurd q (by decide))))
    · have c : x5.toInt = 0 := by rw [c]; decide
      omega
    · have hr2 : (r.toInt = 0 ∧ (a0.toInt = 1 ∨ a0.toInt = 6)) ∨ (r.toInt = 1 ∧ ¬ a0.toInt = 1 ∧ ¬ a0.toInt = 6) := hr2
      have d : r.toInt = 0 := by rw [d]; decide
      omega
    · have hr2 : (r.toInt = 0 ∧ (a0.toInt = 1 ∨ a0.toInt = 6)) ∨ (r.toInt = 1 ∧ ¬ a0.toInt = 1 ∧ ¬ a0.toInt = 6) := hr2
      have d : ¬ r.toInt = 0 := fun q => d (zle_eq.2 (q.trans (by decide)))
      have c : ¬ x5.toInt = 0 := fun q => c (zle_eq.2 (q.trans (by decide)))
      omega
  have g32 : ∀ x5 : Int32, ((x5.toInt = 0 ∧ ¬ x1.toInt = 3) ∨ (x5.toInt = 1 ∧ x1.toInt = 3)) → v_Reader_readSection_32 I0 1 I1 I3 S I5 I6 64 f7 64 f8 64 f9 x2 x3 x5 Z1 → v_Reader_readSection_32 I0 1 I1 I3 S I5 I6 64 f7 64 f8 64 f9 x2 x3 x5 Z2 := fun x5 h5 => by
    refine x_Reader_readSection_32 (fI_ite' (fun c => g71 x5 h5 (kGe_n (fun q => c (zle_eq.2 ((e32.trans q).trans (by decide)))))) (fun c => h_Reader_goesOn ⟨hc, by decide, h2, by omega, h6⟩ (fun r u hr => x_Reader_readSection_49 (fI_ite (fun d => g71 x5 h5 (kGe_n2 ?_)) (fun d => fI_4 (fun q => absurd q (by decide)) (fun _ => fI_ite (fun e => hB I0 I1 _ f8 f9 ?_ rfl rfl hn0 (by omega)) (fun e => hN x2 _ h2)) (fun q => absurd q (by decide)) (fun q => absurd q (by decide)))))))
    · rcases hr with ⟨w, _⟩ | ⟨_, w⟩
      · rw [d] at w; exact absurd w (by decide)
      · exact w
    · have hg : kGo f7 (I0 1).toInt x2.toInt 9 := by
        rcases hr with ⟨_, w⟩ | ⟨w, _⟩
        · exact w
        · exact absurd (zle_eq.2 (w.trans (by decide))) d
      have e0 : x5.toInt = 0 := by rw [e]; decide
      have c7 : x3.toInt - x2.toInt = 7 := by rw [← e32, c]; decide
      exact ⟨⟨[], 0, Or.inl ⟨kGe_y c7 hg, Or.inr ⟨by omega, rfl, rfl, rfl⟩⟩, cl0_E (cl0_z hcl) hn0 (by omega)⟩, ⟨Int.le_refl 0, hcl.1⟩, fun _ _ => ⟨rfl, rfl⟩⟩
  exact x_Reader_readSection_7v1 (fI_ite' (fun c => g32 0 (Or.inl ⟨by decide, fun q => c (zle_eq.2 (q.trans (by decide)))⟩)) (fun c => g32 1 (Or.inr ⟨by decide, by rw [c]; decide⟩)))
end
