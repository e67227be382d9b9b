/-! type: the bytes of a word, and what its three ends say -/
abbrev qb (w k : Int32) : Int32 := (w.toUInt32 >>> (k.toUInt32 &&& Int32.toUInt32 31)).toInt32 &&& (255 : Int32)
theorem qbv (x : BitVec 32) (k : Nat) (hk : k ≤ 24) : (x >>> k) &&& 255#32 = (x.sshiftRight k) &&& 255#32 := by
  apply BitVec.eq_of_getLsbD_eq; intro i hi
  rw [BitVec.getLsbD_and, BitVec.getLsbD_and, BitVec.getLsbD_ushiftRight, BitVec.getLsbD_sshiftRight]
  by_cases h8 : i < 8
  · rw [if_pos (by omega), decide_eq_false (by omega : ¬ 32 ≤ i)]; rfl
  · have : (255#32).getLsbD i = false := by
      rw [BitVec.getLsbD_ofNat]
      have : Nat.testBit 255 i = false := Nat.testBit_lt_two_pow (Nat.lt_of_lt_of_le (by decide : 255 < 2 ^ 8) (Nat.pow_le_pow_right (by decide) (by omega)))
      rw [this, Bool.and_false]
    rw [this, Bool.and_false, Bool.and_false]
theorem qby (w : Int32) : qb w 24 = (w >>> ((24 : Int32) &&& 31)) &&& 255 ∧ qb w 16 = (w >>> ((16 : Int32) &&& 31)) &&& 255 ∧ qb w 8 = (w >>> ((8 : Int32) &&& 31)) &&& 255 ∧ qb w 0 = (w >>> ((0 : Int32) &&& 31)) &&& 255 := by
  refine ⟨?_, ?_, ?_, ?_⟩ <;> apply Int32.toBitVec_inj.1
  · exact qbv w.toBitVec 24 (by decide)
  · exact qbv w.toBitVec 16 (by decide)
  · exact qbv w.toBitVec 8 (by decide)
  · exact qbv w.toBitVec 0 (by decide)
theorem qbyte {w x : Int32} {i : Nat} (h : x.toInt = 24 - 8 * (i : Int)) (hi : i ≤ 3) : qb w x = (w >>> (x &&& 31)) &&& 255 := by
  have hx := ybX h hi
  have hq := qby w
  rcases (show i = 0 ∨ i = 1 ∨ i = 2 ∨ i = 3 by omega) with e | e | e | e
  · subst e; subst hx; exact hq.1
  · subst e; subst hx; exact hq.2.1
  · subst e; subst hx; exact hq.2.2.1
  · subst e; subst hx; exact hq.2.2.2
theorem ybB_to4 (B : Int32 → Int) {i : Nat} (hi : i ≤ 3) (h : ybB B (i + 1) = 1) : ybB B 4 = 1 := by
  rcases (show i = 0 ∨ i = 1 ∨ i = 2 ∨ i = 3 by omega) with e | e | e | e <;> subst e
  · exact ybB_up _ _ (ybB_up _ _ (ybB_up _ _ h))
  · exact ybB_up _ _ (ybB_up _ _ h)
  · exact ybB_up _ _ h
  · exact h
theorem qC_upd {f : Nat → Int32} {k : Nat} {x : Int32} (h : qC f) (hx : zc x) : qC (upd f k x) := fun i => by
  by_cases e : i = k
  · subst e; rw [pk_us]; exact hx
  · rw [pk_un e]; exact h i
theorem kNar0 : ∀ k : Fin 256, vp_nar .char ((nI k.1).toUInt32 % 65536).toInt32 = nI k.1 := by decide +kernel
theorem kNar {y : Int32} (h0 : 0 ≤ y.toInt) (h1 : y.toInt ≤ 255) : vp_nar .char (y.toUInt32 % 65536).toInt32 = y := by
  have e : y = nI y.toInt.toNat := by rw [zle_eq, znI (by omega)]; omega
  have := kNar0 ⟨y.toInt.toNat, by omega⟩
  dsimp only at this
  rw [← e] at this; exact this
section
variable {I0 f1 : Nat → Int32} {x1 : Int32}
theorem qty85 {Z : Int32 → (Nat → Int32) × (Nat → Int32) → Prop} {l0 : Int} (h0 : 0 ≤ l0) (h64 : l0 + ycB (ybM x1) 4 ≤ 64) (hZ : ∀ I' f', (I' 1).toInt = l0 + ycB (ybM x1) 4 → qC f' → f' = kTf x1 f1 l0 4 → Z (I' 1) (I', f')) :
    ∀ (j i : Nat) (I f : Nat → Int32) (x3 : Int32), i + j = 4 → x3.toInt = 24 - 8 * (i : Int) → (I 1).toInt = l0 + ycB (ybM x1) i → qC f → f = kTf x1 f1 l0 i → v_ND_type_85 64 x1 Z (j + 1) I f x3
  | 0, i, I, f, x3, hij, hx, hI, hf, hk => by
    have hi : i = 4 := by omega
    subst hi
    refine u_ND_type_85 ⟨fun _ => hZ I f hI hf hk, fun h => absurd (show x3 < 0 from zle_lt.2 (by rw [hx]; decide)) h⟩
  | j + 1, i, I, f, x3, hij, hx, hI, hf, hk => by
    have hi3 : i ≤ 3 := by omega
    have hb := (ybM_s (w := x1) hx hi3).1
    have hle := ycB_le (ybM x1) i (by omega)
    have hbd := ycB_bd (ybM x1) i
    have hx8 : (x3 + (-8 : Int32)).toInt = 24 - 8 * ((i + 1 : Nat) : Int) := by
      rw [zadd1] <;> simp only [zm8] <;> omega
    refine u_ND_type_85 ⟨fun h => ?_, fun _ y hy => ?_⟩
    · rw [zle_lt, hx] at h; simp only [Int32.reduceToInt] at h; omega
    · have hy2 : y = (x1 >>> (x3 &&& 31)) &&& 255 := hy.trans (qbyte hx hi3)
      clear hy
      rw [← hy2] at hb
      refine ⟨fun h => u_ND_type_144 (qty85 h0 h64 hZ j (i + 1) I f _ (by omega) hx8 ?_ hf (kTf_n hk hx hi3 (by rw [← hy2, h]; decide))), fun h => ⟨fun h2 => ?_, fun h2 => ⟨fun h3 => ?_, fun h3 => ⟨?_, ?_⟩⟩⟩⟩
      · rw [hb, if_pos (by rw [h]; rfl)]; omega
      · rw [zle_lt, hI] at h2; simp only [Int32.reduceToInt] at h2; omega
      · rw [zle_le, hI, qnI64] at h3
        rw [zle_eq] at h; simp only [Int32.reduceToInt] at h
        rw [if_neg h] at hb; omega
      · rw [zin_iff]; rw [zle_lt] at h2; rw [zle_le, qnI64] at h3; simp only [Int32.reduceToInt] at h2; omega
      · rw [zle_eq] at h; simp only [Int32.reduceToInt] at h
        rw [if_neg h] at hb
        have hp : 0 < y.toInt := by have := (zand255 (x1 >>> (x3 &&& 31))).1; rw [← hy2] at this; omega
        have h255 : y.toInt ≤ 255 := by have := (zand255 (x1 >>> (x3 &&& 31))).2; rw [← hy2] at this; exact this
        refine u_ND_type_144 (qty85 h0 h64 hZ j (i + 1) _ _ _ (by omega) hx8 ?_ (qC_upd hf (qnar _)) ?_)
        · rw [zu_s, zadd1] <;> simp only [Int32.reduceToInt] <;> omega
        · rw [kNar (by omega) h255, hy2]
          exact kTf_y hk hI hx hi3 (by rw [← hy2]; omega)
theorem qty5 {Z : Int32 → (Nat → Int32) × (Nat → Int32) → Prop} (h0 : 0 ≤ (I0 1).toInt) (hB : ybB (ybM x1) 4 = 0) (h64 : (I0 1).toInt + ycB (ybM x1) 4 ≤ 64) (hZ : ∃ Nx, v_ND_type_85 64 x1 Z Nx I0 f1 (24 : Int32)) :
    ∀ (j i : Nat) (x2 x3 : Int32), i + j = 4 → x3.toInt = 24 - 8 * (i : Int) → x2.toInt = ycB (ybM x1) i → v_ND_type_5 I0 64 f1 x1 Z (j + 1) x2 x3
  | 0, i, x2, x3, hij, hx, h2 => by
    have hi : i = 4 := by omega
    subst hi
    refine u_ND_type_5 ⟨fun _ => ⟨fun _ => hZ, fun h => h ?_⟩, fun h => absurd (show x3 < 0 from zle_lt.2 (by rw [hx]; decide)) h⟩
    have := ycB_bd (ybM x1) 4
    rw [zle_le, zadd1] <;> (try simp only [Int32.reduceToInt]) <;> omega
  | j + 1, i, x2, x3, hij, hx, h2 => by
    have hi3 : i ≤ 3 := by omega
    obtain ⟨hb, hbb⟩ := ybM_s (w := x1) hx hi3
    have hbd := ycB_bd (ybM x1) i
    have hno : ¬ ybB (ybM x1) (i + 1) = 1 := fun h => by have := ybB_to4 _ hi3 h; omega
    have hx8 : (x3 + (-8 : Int32)).toInt = 24 - 8 * ((i + 1 : Nat) : Int) := by
      rw [zadd1] <;> simp only [zm8] <;> omega
    refine u_ND_type_5 ⟨fun h => ?_, fun _ y hy => ?_⟩
    · rw [zle_lt, hx] at h; simp only [Int32.reduceToInt] at h; omega
    · have hy2 : y = (x1 >>> (x3 &&& 31)) &&& 255 := hy.trans (qbyte hx hi3)
      clear hy
      rw [← hy2] at hb hbb
      have go : ∀ z : Int32, z = y → v_ND_type_47 I0 64 f1 x1 x2 x3 z (v_ND_type_5 I0 64 f1 x1 Z (j + 1)) Z := fun z hz => by
        subst hz
        refine u_ND_type_47 ⟨fun h => u_ND_type_55 (qty5 h0 hB h64 hZ j (i + 1) _ _ (by omega) hx8 ?_), fun h => u_ND_type_55 (qty5 h0 hB h64 hZ j (i + 1) _ _ (by omega) hx8 ?_)⟩
        · rw [hb, if_pos (by rw [h]; rfl)]; omega
        · rw [zle_eq] at h; simp only [Int32.reduceToInt] at h
          rw [hb, if_neg h, zadd1] <;> simp only [Int32.reduceToInt] <;> omega
      have bad : ¬ (¬ y.toInt = 0 ∧ (y.toInt < 32 ∨ 126 < y.toInt)) := fun c => hno (by rw [hbb, if_pos c])
      refine ⟨fun h => go _ rfl, fun h => ⟨fun h2 => ?_, fun h2 => ⟨fun h3 => go _ rfl, fun h3 => ?_⟩⟩⟩
      · rw [zle_eq] at h; rw [zle_lt] at h2; simp only [Int32.reduceToInt] at h h2; exact absurd ⟨h, Or.inl h2⟩ bad
      · rw [zle_eq] at h; rw [zle_le] at h3; simp only [Int32.reduceToInt] at h h3; exact absurd ⟨h, Or.inr (by omega)⟩ bad
theorem qtyT1 (hB : ybB (ybM x1) 4 = 1) :
    ∀ (j i : Nat) (x2 x3 : Int32), i + j = 4 → x3.toInt = 24 - 8 * (i : Int) → ybB (ybM x1) i = 0 → v_ND_typeT1_5 I0 64 f1 x1 (fun _ => True) (j + 1) x2 x3
  | 0, i, x2, x3, hij, hx, h2 => by
    have hi : i = 4 := by omega
    subst hi
    omega
  | j + 1, i, x2, x3, hij, hx, h2 => by
    have hi3 : i ≤ 3 := by omega
    obtain ⟨hb, hbb⟩ := ybM_s (w := x1) hx hi3
    have hx8 : (x3 + (-8 : Int32)).toInt = 24 - 8 * ((i + 1 : Nat) : Int) := by
      rw [zadd1] <;> simp only [zm8] <;> omega
    refine u_ND_typeT1_5 ⟨fun h => ?_, fun _ y hy => ?_⟩
    · rw [zle_lt, hx] at h; simp only [Int32.reduceToInt] at h; omega
    · have hy2 : y = (x1 >>> (x3 &&& 31)) &&& 255 := hy.trans (qbyte hx hi3)
      clear hy
      rw [← hy2] at hb hbb
      have go : ¬ (¬ y.toInt = 0 ∧ (y.toInt < 32 ∨ 126 < y.toInt)) → ∀ z : Int32, z = y → v_ND_typeT1_47 I0 64 f1 x1 x2 x3 z (v_ND_typeT1_5 I0 64 f1 x1 (fun _ => True) (j + 1)) (fun _ => True) := fun hg z hz => by
        subst hz
        rw [if_neg hg] at hbb
        exact u_ND_typeT1_47 ⟨fun h => u_ND_typeT1_55 (qtyT1 hB j (i + 1) _ _ (by omega) hx8 (hbb.trans h2)), fun h => u_ND_typeT1_55 (qtyT1 hB j (i + 1) _ _ (by omega) hx8 (hbb.trans h2))⟩
      refine ⟨fun h => go (fun c => c.1 (by rw [h]; rfl)) _ rfl, fun h => ⟨fun h2 => True.intro, fun h2 => ⟨fun h3 => go (fun c => ?_) _ rfl, fun h3 => True.intro⟩⟩⟩
      rw [zle_lt] at h2; rw [zle_le] at h3; simp only [Int32.reduceToInt] at h2 h3; omega
theorem qtyT2 (h0 : 0 ≤ (I0 1).toInt) (h1 : (I0 1).toInt ≤ 64) (hB : ybB (ybM x1) 4 = 0) (h64 : 64 < (I0 1).toInt + ycB (ybM x1) 4) :
    ∀ (j i : Nat) (x2 x3 : Int32), i + j = 4 → x3.toInt = 24 - 8 * (i : Int) → x2.toInt = ycB (ybM x1) i → v_ND_typeT2_5 I0 64 f1 x1 (fun _ => True) (j + 1) x2 x3
  | 0, i, x2, x3, hij, hx, h2 => by
    have hi : i = 4 := by omega
    subst hi
    refine u_ND_typeT2_5 ⟨fun _ => ⟨fun h => ?_, fun h => True.intro⟩, fun h => absurd (show x3 < 0 from zle_lt.2 (by rw [hx]; decide)) h⟩
    have := ycB_bd (ybM x1) 4
    rw [zle_le, zadd1 (by omega) (by omega)] at h
    simp only [Int32.reduceToInt] at h; omega
  | j + 1, i, x2, x3, hij, hx, h2 => by
    have hi3 : i ≤ 3 := by omega
    obtain ⟨hb, hbb⟩ := ybM_s (w := x1) hx hi3
    have hbd := ycB_bd (ybM x1) i
    have hno : ¬ ybB (ybM x1) (i + 1) = 1 := fun h => by have := ybB_to4 _ hi3 h; omega
    have hx8 : (x3 + (-8 : Int32)).toInt = 24 - 8 * ((i + 1 : Nat) : Int) := by
      rw [zadd1] <;> simp only [zm8] <;> omega
    refine u_ND_typeT2_5 ⟨fun h => ?_, fun _ y hy => ?_⟩
    · rw [zle_lt, hx] at h; simp only [Int32.reduceToInt] at h; omega
    · have hy2 : y = (x1 >>> (x3 &&& 31)) &&& 255 := hy.trans (qbyte hx hi3)
      clear hy
      rw [← hy2] at hb hbb
      have go : ∀ z : Int32, z = y → v_ND_typeT2_47 I0 64 f1 x1 x2 x3 z (v_ND_typeT2_5 I0 64 f1 x1 (fun _ => True) (j + 1)) (fun _ => True) := fun z hz => by
        subst hz
        refine u_ND_typeT2_47 ⟨fun h => u_ND_typeT2_55 (qtyT2 h0 h1 hB h64 j (i + 1) _ _ (by omega) hx8 ?_), fun h => u_ND_typeT2_55 (qtyT2 h0 h1 hB h64 j (i + 1) _ _ (by omega) hx8 ?_)⟩
        · rw [hb, if_pos (by rw [h]; rfl)]; omega
        · rw [zle_eq] at h; simp only [Int32.reduceToInt] at h
          rw [hb, if_neg h, zadd1] <;> simp only [Int32.reduceToInt] <;> omega
      have bad : ¬ (¬ y.toInt = 0 ∧ (y.toInt < 32 ∨ 126 < y.toInt)) := fun c => hno (by rw [hbb, if_pos c])
      refine ⟨fun h => go _ rfl, fun h => ⟨fun h2 => ?_, fun h2 => ⟨fun h3 => go _ rfl, fun h3 => ?_⟩⟩⟩
      · rw [zle_eq] at h; rw [zle_lt] at h2; simp only [Int32.reduceToInt] at h h2; exact absurd ⟨h, Or.inl h2⟩ bad
      · rw [zle_eq] at h; rw [zle_le] at h3; simp only [Int32.reduceToInt] at h h3; exact absurd ⟨h, Or.inr (by omega)⟩ bad
end
theorem s_L_type {I0 f1 : Nat → Int32} {f2 : Nat → Int64} {x1 : Int32} {Z : Int32 → (Nat → Int32) × (Nat → Int32) × (Nat → Int64) → Prop} (h0 : 0 ≤ (I0 1).toInt) (h1 : (I0 1).toInt ≤ 64) (hC : qC f1)
    (hZ0 : ∀ I' f', ybB (ybM x1) 4 = 0 → (I0 1).toInt + ycB (ybM x1) 4 ≤ 64 → (I' 1).toInt = (I0 1).toInt + ycB (ybM x1) 4 → qC f' → f' = kTf x1 f1 (I0 1).toInt 4 → Z 0 (I', f', vp_updL f2 (0 : Int32).toNatClampNeg (I' 1).toInt64))
    (hZ1 : ybB (ybM x1) 4 = 1 → Z 1 (I0, f1, f2)) (hZ2 : ybB (ybM x1) 4 = 0 → 64 < (I0 1).toInt + ycB (ybM x1) 4 → Z 2 (I0, f1, f2)) : v_L_type_0 I0 64 f1 1 f2 x1 Z := by
  refine u_L_type_0 ?_
  rcases ybB_01 (ybM x1) 4 with hB | hB
  · by_cases h64 : (I0 1).toInt + ycB (ybM x1) 4 ≤ 64
    · refine Or.inl (u_ND_type_0 ⟨5, qty5 h0 hB h64 ⟨5, qty85 (l0 := (I0 1).toInt) h0 h64 (fun I' f' hI hf hk => u_L_type_7 ⟨zin_iff.2 ⟨by decide, by decide⟩, hZ0 I' f' hB h64 hI hf hk⟩) 4 0 I0 f1 24 rfl rfl ?_ hC rfl⟩ 4 0 0 24 rfl rfl rfl⟩)
      show (I0 1).toInt = (I0 1).toInt + 0; omega
    · exact Or.inr (Or.inr ⟨u_ND_typeT2_0 ⟨5, qtyT2 h0 h1 hB (by omega) 4 0 0 24 rfl rfl rfl⟩, u_L_type_15 (hZ2 hB (by omega))⟩)
  · exact Or.inr (Or.inl ⟨u_ND_typeT1_0 ⟨5, qtyT1 hB 4 0 0 24 rfl rfl rfl⟩, u_L_type_12 (hZ1 hB)⟩)
theorem s_L_number {I0 I1 : Nat → Int32} {J1 : Nat → Int64} {I2 : Nat → Int32} {x1 x2 x3 x4 : Int32} {Z : Int32 → (Nat → Int32) × (Nat → Int64) × (Nat → Int32) → Prop}
    (hZ0 : ∀ I' J' K', ((I' 0).toInt = 0 ∧ (((I' 1).toInt = 1 ∧ ¬ x1.toInt = 0 ∧ ¬ (x2.toInt * 1000000000 + x3.toInt) = 0) ∨ ((I' 1).toInt = 0 ∧ (x1.toInt = 0 ∨ (x2.toInt * 1000000000 + x3.toInt) = 0))) ∧ (J' 2).toInt = (x2.toInt * 1000000000 + x3.toInt)) → ¬ (x2.toInt < 0 ∨ 99999999 < x2.toInt ∨ x3.toInt < 0 ∨ 999999999 < x3.toInt ∨ x4.toInt < -350 ∨ 300 < x4.toInt) → Z 0 (I', J', K'))
    (hZ1 : (x2.toInt < 0 ∨ 99999999 < x2.toInt ∨ x3.toInt < 0 ∨ 999999999 < x3.toInt ∨ x4.toInt < -350 ∨ 300 < x4.toInt) → Z 1 (I1, J1, I2)) : v_L_number_0 I0 I1 J1 I2 x1 x2 x3 x4 Z := by
  refine u_L_number_0 ?_
  by_cases h : x2.toInt < 0 ∨ 99999999 < x2.toInt ∨ x3.toInt < 0 ∨ 999999999 < x3.toInt ∨ x4.toInt < -350 ∨ 300 < x4.toInt
  · refine Or.inr ⟨u_ND_numberT1_0 ?_, u_L_number_12 (hZ1 h)⟩
    refine ⟨fun _ => True.intro, fun a1 => ⟨fun _ => True.intro, fun a2 => ⟨fun _ => True.intro, fun a3 => ⟨fun _ => True.intro, fun a4 => ⟨fun _ => True.intro, fun a5 => ⟨fun a6 => ?_, fun _ => True.intro⟩⟩⟩⟩⟩⟩
    rw [zle_lt] at a1 a2 a3 a4 a5; rw [zle_le] at a6
    simp only [Int32.reduceToInt] at a1 a2 a3 a4 a6
    rw [show (-350 : Int32).toInt = -350 from rfl] at a5
    omega
  · refine Or.inl (qG_w1 (d_ND_number (by omega)) (fun u hu => u_L_number_9 (hZ0 _ _ _ hu h)))
theorem s_L_about {I0 I1 I3 : Nat → Int32} {J3 : Nat → Int64} {I4 I5 I6 I7 : Nat → Int32} {f8 : Nat → Int64} {x1 : Int32} {Z : Int32 → (Nat → Int64) → Prop}
    (h6 : 1 ≤ (I1 1).toInt ∧ (I1 1).toInt ≤ 4 ∧ ((I1 1).toInt ≤ 1 ∨ ¬ (I4 0).toInt = 6) ∧ ((I1 1).toInt ≤ 2 ∨ ¬ (I5 0).toInt = 6) ∧ ((I1 1).toInt ≤ 3 ∨ ¬ (I6 0).toInt = 6))
    (hZ0 : ∀ r : Int32, (0 ≤ x1.toInt ∧ x1.toInt ≤ 5) → kAb (I1 1).toInt (I4 0).toInt (I5 0).toInt (I6 0).toInt (I7 0).toInt (I3 0).toInt (I3 1).toInt (J3 2).toInt x1.toInt r.toInt → Z 0 (vp_updL f8 (0 : Int32).toNatClampNeg r.toInt64))
    (hZ1 : ¬ (0 ≤ x1.toInt ∧ x1.toInt ≤ 5) → Z 1 f8) : v_L_about_0 I0 I1 I3 J3 I4 I5 I6 I7 1 f8 x1 Z := by
  refine u_L_about_0 ?_
  by_cases h : 0 ≤ x1.toInt ∧ x1.toInt ≤ 5
  · exact Or.inl (qG_w2 (d_ND_about ⟨h.1, h.2, h6⟩) (fun r u hq => u_L_about_7 ⟨zin_iff.2 ⟨by decide, by decide⟩, hZ0 r h hq⟩))
  · refine Or.inr ⟨u_ND_aboutT1_0 ?_, u_L_about_12 (hZ1 h)⟩
    refine ⟨fun _ => True.intro, fun a1 => ⟨fun a2 => ?_, fun _ => True.intro⟩⟩
    rw [zle_lt] at a1; rw [zle_le] at a2; simp only [Int32.reduceToInt] at a1 a2
    exact absurd ⟨by omega, a2⟩ h
