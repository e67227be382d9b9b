/-! the sign of both sides -/
theorem b_g {n k0 k1 k2 it ng z sx b b2 : Int} (hT : kTr n k0 k1 k2 it ng z sx) (hb : bR ng n k0 k1 k2 b) (h0 : it = 0) (h2 : gbR ng sx b2) : b = b2 := by
  obtain ⟨m, hm, hb⟩ := hb
  rcases hT with ⟨a, _⟩ | ⟨_, m2, hm2, hs⟩
  · exact absurd h0 a
  have e : m = m2 := by
    rcases hm with ⟨a, q⟩ | ⟨a, q⟩ <;> rcases hm2 with ⟨a2, q2⟩ | ⟨a2, q2⟩
    · omega
    · exact absurd a a2
    · exact absurd a2 a
    · omega
  subst e
  unfold gbR at h2
  omega
theorem b_n {n k0 k1 k2 it ng z sx b b2 : Int} (hT : kTr n k0 k1 k2 it ng z sx) (hb : bR ng n k0 k1 k2 b) (h0 : it = 0) (hx : 0 ≤ sx) (h2 : nbR ng sx b2) : b = b2 ∧ (b = 0 ↔ (ng = 0 ∨ sx = 1)) := by
  obtain ⟨m, hm, hb⟩ := hb
  rcases hT with ⟨a, _⟩ | ⟨_, m2, hm2, hs⟩
  · exact absurd h0 a
  have e : m = m2 := by
    rcases hm with ⟨a, q⟩ | ⟨a, q⟩ <;> rcases hm2 with ⟨a2, q2⟩ | ⟨a2, q2⟩
    · omega
    · exact absurd a a2
    · exact absurd a2 a
    · omega
  subst e
  unfold nbR at h2
  omega
theorem kTt_c {n k0 k1 k2 l0 l1 l2 : Int} (hn : 1 ≤ n ∧ n ≤ 4) (h0 : k0 = l0) (h1 : n ≤ 1 ∨ k1 = l1) (h2 : n ≤ 2 ∨ k2 = l2) : kTt n k0 k1 k2 ↔ kTt n l0 l1 l2 := by unfold kTt; omega
/-- a section with its place, the same on both sides -/
theorem sec_all {I K M K2 A B Q g : Nat → Int32} {k x e v s b c p n k0 k1 k2 it ng z sx m : Int} {TX T1 T2 : List Int} (h : vR v s g c p) (hc0 : c = 0 → p ≤ 7) (hP : secP I K M m) (hR : secR I K M k K2 A B Q x e) (hT : kTr n k0 k1 k2 it ng z sx) (hb : bR ng n k0 k1 k2 b) (hsx : 0 ≤ sx) (hit : it = 0 ∨ k = 1 ∨ k = 6) (h1 : cSec I K M v s b TX T1)
    (h2 : (k = 0 ∧ ∃ (b2 : Int) (r : Nat → Int32) (m t : Int), gbR ng sx b2 ∧ tkO r g m c t p ∧ T2 = gnr r m t b2) ∨ (¬ k = 0 ∧ ∃ b2 : Int, nbR ng sx b2 ∧ rSec k K2 A B Q x e g c p ng sx b2 TX T2)) : T1 = T2 := by
  rcases h2 with ⟨k0, b2, r, m2, t, hg, ht, hT2⟩ | ⟨k0, b2, hn, hr⟩
  · have i0 := hit.resolve_right (by omega)
    have e := b_g hT hb i0 hg
    have r0 := hR.1.1
    rcases h1 with ⟨_, a⟩ | ⟨a, _⟩ | ⟨a, _⟩ | ⟨a, _⟩ | ⟨a, _⟩
    · rw [hT2, ← e]; exact g_all h a ht.2.2 ht.1 ht.2.1
    · omega
    · omega
    · omega
    · omega
  · refine sec_eq h hc0 hP hR h1 k0 hr ?_
    rcases hit with i0 | i0
    · exact Or.inr (b_n hT hb i0 hsx hn)
    · exact Or.inl i0
theorem ds_rs {C V : Nat → Int32} {W : Nat → Int64} {S0 S1 S2 S3 wd K M : Nat → Int32} {T1 T2 TX : List Int} {sk si se K2 A B Q g : Nat → Int32} {n k0 k1 k2 it ng c p m : Int}
    (h1 : dsP C V W S0 S1 S2 S3 wd K M T1) (h2 : rsP n k0 k1 k2 it ng sk si se K2 A B Q g c p TX T2) (hn : n = (C 1).toInt) (hnb : 1 ≤ n ∧ n ≤ 4) (hk0 : (S0 0).toInt = k0) (hk1 : n ≤ 1 ∨ (S1 0).toInt = k1) (hk2 : n ≤ 2 ∨ (S2 0).toInt = k2) (hit : it = (V 0).toInt) (hng : ng = (V 1).toInt) (hv : vR (W 2).toInt (V 3).toInt g c p) (hc0 : c = 0 → p ≤ 7) (hTX : TX = txs wd 0 (V 5).toInt)
    (h3 : n = 4 → (S3 0).toInt = 1 ∨ (S3 0).toInt = 6)
    (q0 : secP S0 K M m ∧ secR S0 K M (sk 0).toInt K2 A B Q (si 0).toInt (se 0).toInt) (q1 : 1 < n → secP S1 K M m ∧ secR S1 K M (sk 1).toInt K2 A B Q (si 1).toInt (se 1).toInt) (q2 : 2 < n → secP S2 K M m ∧ secR S2 K M (sk 2).toInt K2 A B Q (si 2).toInt (se 2).toInt) (q3 : 3 < n → secP S3 K M m ∧ secR S3 K M (sk 3).toInt K2 A B Q (si 3).toInt (se 3).toInt) : T1 = T2 := by
  obtain ⟨sx, b, hT, hb, h1⟩ := h1
  obtain ⟨sx2, hT2, h2⟩ := h2
  rw [← hn, ← hit, ← hng] at hT
  rw [← hn, ← hng] at hb
  have eT : kTt n (S0 0).toInt (S1 0).toInt (S2 0).toInt ↔ kTt n k0 k1 k2 := kTt_c hnb hk0 hk1 hk2
  have hT2' : kTr n (S0 0).toInt (S1 0).toInt (S2 0).toInt it ng c sx2 := by
    unfold kTr at hT2 ⊢; rw [eT]; exact hT2
  have es := kTr_det hT hT2' (vR_0 hv)
  subst es
  have lt := kTr_lt hT hnb.1
  have i0 : ∀ j : Int, sx = j → 0 ≤ j → it = 0 ∨ (j = n - 1 ∧ kTt n (S0 0).toInt (S1 0).toInt (S2 0).toInt) := fun j hj h0 => by
    rcases hT with ⟨_, ⟨a, b⟩ | ⟨a, b⟩⟩ | ⟨a, _⟩
    · exact Or.inr ⟨by omega, a⟩
    · omega
    · exact Or.inl a
  rcases h1 with ⟨a, h1⟩ | ⟨a, h1⟩ | ⟨a, h1⟩ | ⟨a, h1⟩ | ⟨a, h1⟩
  · rcases h2 with ⟨_, b1, b2⟩ | ⟨b1, b2, r, m2, t, hg, ht, hT2⟩ | ⟨b1, _⟩
    · rcases h1 with ⟨_, h1⟩ | ⟨h1, _⟩
      · rw [h1, b2, hTX]
      · exact absurd (hit.trans h1) b1
    · have z : it = 0 := by
        rcases b1 with b1 | b1
        · exact b1.2
        · omega
      rcases h1 with ⟨h1, _⟩ | ⟨_, h1⟩
      · exact absurd (hit.symm.trans z) h1
      · rw [hT2, ← b_g hT hb z hg]; exact g_all hv h1 ht.2.2 ht.1 ht.2.1
    · omega
  all_goals
    rw [← hTX] at h1
    have h2 := h2.resolve_left (by omega)
  · subst a
    refine sec_all hv hc0 q0.1 q0.2 hT hb (by decide) ?_ h1 ?_
    · rcases i0 0 rfl (by decide) with z | ⟨z, t⟩
      · exact Or.inl z
      · have r0 := q0.2.1.1
        unfold kTt at t
        exact Or.inr (Or.inr (by omega))
    · rcases h2 with ⟨b1, b2⟩ | ⟨b1, b2⟩
      · exact Or.inl ⟨by rcases b1 with b1 | b1; omega; exact b1.2, b2⟩
      · exact Or.inr ⟨b1.2, b2⟩
  · subst a
    have q1 := q1 lt
    refine sec_all hv hc0 q1.1 q1.2 hT hb (by decide) ?_ h1 ?_
    · rcases i0 1 rfl (by decide) with z | ⟨z, t⟩
      · exact Or.inl z
      · have r0 := q1.2.1.1
        unfold kTt at t
        exact Or.inr (Or.inr (by omega))
    · rcases h2 with ⟨b1, b2⟩ | ⟨b1, b2⟩
      · exact Or.inl ⟨by rcases b1 with b1 | b1; omega; exact b1.2, b2⟩
      · exact Or.inr ⟨b1.2, b2⟩
  · subst a
    have q2 := q2 lt
    refine sec_all hv hc0 q2.1 q2.2 hT hb (by decide) ?_ h1 ?_
    · rcases i0 2 rfl (by decide) with z | ⟨z, t⟩
      · exact Or.inl z
      · have r0 := q2.2.1.1
        unfold kTt at t
        exact Or.inr (Or.inr (by omega))
    · rcases h2 with ⟨b1, b2⟩ | ⟨b1, b2⟩
      · exact Or.inl ⟨by rcases b1 with b1 | b1; omega; exact b1.2, b2⟩
      · exact Or.inr ⟨b1.2, b2⟩
  · subst a
    have q3 := q3 lt
    refine sec_all hv hc0 q3.1 q3.2 hT hb (by decide) ?_ h1 ?_
    · have r0 := q3.2.1.1
      have := h3 (by omega)
      exact Or.inr (by omega)
    · rcases h2 with ⟨b1, b2⟩ | ⟨b1, b2⟩
      · exact Or.inl ⟨by rcases b1 with b1 | b1; omega; exact b1.2, b2⟩
      · exact Or.inr ⟨b1.2, b2⟩
