section
variable {p : Program} {l : Launch} {e : Env} {s : State} {m : MethodId} {args : Array Value} {below : List Frame} {meth : Method} {c : Code} {dC : Nat → ClassId} {dI : Nat → Nat → Nat} {A : Nat → Prop} {gE : zG}
theorem d_L_type_0 : decode method_3_code 0 = .ok (.aload_n 2, 1) := by decide +kernel
theorem d_L_type_1 : decode method_3_code 1 = .ok (.iconst 0, 1) := by decide +kernel
theorem d_L_type_2 : decode method_3_code 2 = .ok (.aload_n 0, 1) := by decide +kernel
theorem d_L_type_3 : decode method_3_code 3 = .ok (.iload_n 1, 1) := by decide +kernel
theorem d_L_type_4 : decode method_3_code 4 = .ok (.invokevirtual 7, 3) := by decide +kernel
theorem d_L_type_7 : decode method_3_code 7 = .ok (.i2l, 1) := by decide +kernel
theorem d_L_type_8 : decode method_3_code 8 = .ok (.lastore, 1) := by decide +kernel
theorem d_L_type_9 : decode method_3_code 9 = .ok (.goto 9, 3) := by decide +kernel
theorem d_L_type_12 : decode method_3_code 12 = .ok (.astore_n 3, 1) := by decide +kernel
theorem d_L_type_13 : decode method_3_code 13 = .ok (.iconst 1, 1) := by decide +kernel
theorem d_L_type_14 : decode method_3_code 14 = .ok (.ireturn, 1) := by decide +kernel
theorem d_L_type_15 : decode method_3_code 15 = .ok (.astore_n 3, 1) := by decide +kernel
theorem d_L_type_16 : decode method_3_code 16 = .ok (.iconst 2, 1) := by decide +kernel
theorem d_L_type_17 : decode method_3_code 17 = .ok (.ireturn, 1) := by decide +kernel
theorem d_L_type_18 : decode method_3_code 18 = .ok (.iconst 0, 1) := by decide +kernel
theorem d_L_type_19 : decode method_3_code 19 = .ok (.ireturn, 1) := by decide +kernel
def v_L_type_12 (I0 : Nat → Int32) (n1 : Nat) (f1 : Nat → Int32) (n2 : Nat) (f2 : Nat → Int64)  (Z : Int32 → (Nat → Int32) × (Nat → Int32) × (Nat → Int64) → Prop) : Prop :=
  (Z (1 : Int32) (I0, f1, f2))
def v_L_type_15 (I0 : Nat → Int32) (n1 : Nat) (f1 : Nat → Int32) (n2 : Nat) (f2 : Nat → Int64)  (Z : Int32 → (Nat → Int32) × (Nat → Int32) × (Nat → Int64) → Prop) : Prop :=
  (Z (2 : Int32) (I0, f1, f2))
def v_L_type_7 (I0 : Nat → Int32) (n1 : Nat) (f1 : Nat → Int32) (n2 : Nat) (f2 : Nat → Int64) (s1 : Int32) (s2 : Int32)  (Z : Int32 → (Nat → Int32) × (Nat → Int32) × (Nat → Int64) → Prop) : Prop :=
  (vp_in s1 n2 ∧ (Z (0 : Int32) (I0, f1, (vp_updL f2 s1.toNatClampNeg s2.toInt64))))
def v_L_type_0 (I0 : Nat → Int32) (n1 : Nat) (f1 : Nat → Int32) (n2 : Nat) (f2 : Nat → Int64) (x1 : Int32)  (Z : Int32 → (Nat → Int32) × (Nat → Int32) × (Nat → Int64) → Prop) : Prop :=
  ((v_ND_type_0 I0 n1 f1 x1 (fun r u => (v_L_type_7 u.1 n1 u.2 n2 f2 (0 : Int32) r  Z))) ∨ (v_ND_typeT1_0 I0 n1 f1 x1 (fun _ => True) ∧ (v_L_type_12 I0 n1 f1 n2 f2  Z)) ∨ (v_ND_typeT2_0 I0 n1 f1 x1 (fun _ => True) ∧ (v_L_type_15 I0 n1 f1 n2 f2  Z)))
set_option maxHeartbeats 4000000 in
set_option maxRecDepth 100000 in
theorem b_L_type_12 {h0 : Nat} {a0_2 : Nat} {a0_3 : Nat} {a0_4 : Nat} {a0_5 : Nat} {a0_6 : Nat} {h1 : Nat} {cA1 : ClassId} {h2 : Nat} {cA2 : ClassId} {as0 : Nat} {I0 : Nat → Int32} {n1 : Nat} {f1 : Nat → Int32} {n2 : Nat} {f2 : Nat → Int64}  {Z : Int32 → (Nat → Int32) × (Nat → Int32) × (Nat → Int64) → Prop} {H : Heap} {locs : List Loc} {ls : Array Slot} (hc : zC p s m args meth c method_3_code (some .int) 4 "NumberDressLaw") (hA : ∀ q : Nat, s.heap.size ≤ q → A q) (hE : zE gE A s) (hlt : l.stackTraces = false) (htb : c.exceptionTable.toList.map zHt = [(0, 9, 12, 13), (0, 9, 15, 15)]) (hl : lv_has ls 4 []) (hK : va_K (dC, dI) zCl [(cA1, .char), (cA2, .long)] s) (hP : va_P (dC, dI) zCl [(h0, .inr (0, o_ND I0 h1 a0_2 a0_3 a0_4 a0_5 a0_6)), (h1, .inl (cA1, n1, .inl f1)), (h2, .inl (cA2, n2, .inr (.inl f2)))] H) (hD : va_D A [(h0, .inr (0, o_ND I0 h1 a0_2 a0_3 a0_4 a0_5 a0_6)), (h1, .inl (cA1, n1, .inl f1)), (h2, .inl (cA2, n2, .inr (.inl f2)))]) (hS : va_S A s.heap H locs) (hv : v_L_type_12 I0 n1 f1 n2 f2  Z) : W p l e (headSpec (Cond.codeWith (⟨"NumberDressLaw", "type", "(LNumberDress;I[J)I"⟩ : MethodName) method_3_code 4 (some .int) [(0, 9, 12, 13), (0, 9, 15, 15)] :: zT) { frames := 7, cells := 1, slots := 6, locals := 106 }).room s m args below meth c H locs 1 6 (MQ below (va_Qi Z (zB (dC, dI) zCl [(cA1, .char), (cA2, .long)] A (fun u : (Nat → Int32) × (Nat → Int32) × (Nat → Int64) => [(h0, .inr (0, o_ND u.1 h1 a0_2 a0_3 a0_4 a0_5 a0_6)), (h1, .inl (cA1, n1, .inl u.2.1)), (h2, .inl (cA2, n2, .inr (.inl u.2.2)))])) A) args s 1 6 A) (F0 m 12 ls [.ref as0]) := by
  obtain ⟨hx, hb, hr, hml, hown, ht, hlocks⟩ := id hc
  unfold v_L_type_12 at hv
  refine lv_astore_n (lv' := [(3, .ref as0)]) hx hb d_L_type_12 rfl hl (by decide) rfl (fun ls hl => ?_)
  refine lv_iconst (v := (1 : Int32)) hx hb d_L_type_13 (by decide) ?_
  refine W.widen (k := 1) (n := 6) (Nat.le_of_ble_eq_true rfl) (Nat.le_of_ble_eq_true rfl) ?_
  exact W.iret (v := (1 : Int32)) hx hb hr (fun t ht hW => ⟨⟨_, (I0, f1, f2), rfl, hv, ⟨by rw [ht]; exact hP, va_K.moved hW.alike hK, hD⟩⟩, hS.F ht⟩) hS.2.2 d_L_type_14
set_option maxHeartbeats 4000000 in
set_option maxRecDepth 100000 in
theorem b_L_type_15 {h0 : Nat} {a0_2 : Nat} {a0_3 : Nat} {a0_4 : Nat} {a0_5 : Nat} {a0_6 : Nat} {h1 : Nat} {cA1 : ClassId} {h2 : Nat} {cA2 : ClassId} {as0 : Nat} {I0 : Nat → Int32} {n1 : Nat} {f1 : Nat → Int32} {n2 : Nat} {f2 : Nat → Int64}  {Z : Int32 → (Nat → Int32) × (Nat → Int32) × (Nat → Int64) → Prop} {H : Heap} {locs : List Loc} {ls : Array Slot} (hc : zC p s m args meth c method_3_code (some .int) 4 "NumberDressLaw") (hA : ∀ q : Nat, s.heap.size ≤ q → A q) (hE : zE gE A s) (hlt : l.stackTraces = false) (htb : c.exceptionTable.toList.map zHt = [(0, 9, 12, 13), (0, 9, 15, 15)]) (hl : lv_has ls 4 []) (hK : va_K (dC, dI) zCl [(cA1, .char), (cA2, .long)] s) (hP : va_P (dC, dI) zCl [(h0, .inr (0, o_ND I0 h1 a0_2 a0_3 a0_4 a0_5 a0_6)), (h1, .inl (cA1, n1, .inl f1)), (h2, .inl (cA2, n2, .inr (.inl f2)))] H) (hD : va_D A [(h0, .inr (0, o_ND I0 h1 a0_2 a0_3 a0_4 a0_5 a0_6)), (h1, .inl (cA1, n1, .inl f1)), (h2, .inl (cA2, n2, .inr (.inl f2)))]) (hS : va_S A s.heap H locs) (hv : v_L_type_15 I0 n1 f1 n2 f2  Z) : W p l e (headSpec (Cond.codeWith (⟨"NumberDressLaw", "type", "(LNumberDress;I[J)I"⟩ : MethodName) method_3_code 4 (some .int) [(0, 9, 12, 13), (0, 9, 15, 15)] :: zT) { frames := 7, cells := 1, slots := 6, locals := 106 }).room s m args below meth c H locs 1 6 (MQ below (va_Qi Z (zB (dC, dI) zCl [(cA1, .char), (cA2, .long)] A (fun u : (Nat → Int32) × (Nat → Int32) × (Nat → Int64) => [(h0, .inr (0, o_ND u.1 h1 a0_2 a0_3 a0_4 a0_5 a0_6)), (h1, .inl (cA1, n1, .inl u.2.1)), (h2, .inl (cA2, n2, .inr (.inl u.2.2)))])) A) args s 1 6 A) (F0 m 15 ls [.ref as0]) := by
  obtain ⟨hx, hb, hr, hml, hown, ht, hlocks⟩ := id hc
  unfold v_L_type_15 at hv
  refine lv_astore_n (lv' := [(3, .ref as0)]) hx hb d_L_type_15 rfl hl (by decide) rfl (fun ls hl => ?_)
  refine lv_iconst (v := (2 : Int32)) hx hb d_L_type_16 (by decide) ?_
  refine W.widen (k := 1) (n := 6) (Nat.le_of_ble_eq_true rfl) (Nat.le_of_ble_eq_true rfl) ?_
  exact W.iret (v := (2 : Int32)) hx hb hr (fun t ht hW => ⟨⟨_, (I0, f1, f2), rfl, hv, ⟨by rw [ht]; exact hP, va_K.moved hW.alike hK, hD⟩⟩, hS.F ht⟩) hS.2.2 d_L_type_17
set_option maxHeartbeats 4000000 in
set_option maxRecDepth 100000 in
theorem b_L_type_7 {h0 : Nat} {a0_2 : Nat} {a0_3 : Nat} {a0_4 : Nat} {a0_5 : Nat} {a0_6 : Nat} {h1 : Nat} {cA1 : ClassId} {h2 : Nat} {cA2 : ClassId} {I0 : Nat → Int32} {n1 : Nat} {f1 : Nat → Int32} {n2 : Nat} {f2 : Nat → Int64} {s1 : Int32} {s2 : Int32}  {Z : Int32 → (Nat → Int32) × (Nat → Int32) × (Nat → Int64) → Prop} {H : Heap} {locs : List Loc} {ls : Array Slot} (hc : zC p s m args meth c method_3_code (some .int) 4 "NumberDressLaw") (hA : ∀ q : Nat, s.heap.size ≤ q → A q) (hE : zE gE A s) (hlt : l.stackTraces = false) (htb : c.exceptionTable.toList.map zHt = [(0, 9, 12, 13), (0, 9, 15, 15)]) (hl : lv_has ls 4 []) (hK : va_K (dC, dI) zCl [(cA1, .char), (cA2, .long)] s) (hP : va_P (dC, dI) zCl [(h0, .inr (0, o_ND I0 h1 a0_2 a0_3 a0_4 a0_5 a0_6)), (h1, .inl (cA1, n1, .inl f1)), (h2, .inl (cA2, n2, .inr (.inl f2)))] H) (hD : va_D A [(h0, .inr (0, o_ND I0 h1 a0_2 a0_3 a0_4 a0_5 a0_6)), (h1, .inl (cA1, n1, .inl f1)), (h2, .inl (cA2, n2, .inr (.inl f2)))]) (hS : va_S A s.heap H locs) (hv : v_L_type_7 I0 n1 f1 n2 f2 s1 s2  Z) : W p l e (headSpec (Cond.codeWith (⟨"NumberDressLaw", "type", "(LNumberDress;I[J)I"⟩ : MethodName) method_3_code 4 (some .int) [(0, 9, 12, 13), (0, 9, 15, 15)] :: zT) { frames := 7, cells := 1, slots := 6, locals := 106 }).room s m args below meth c H locs 0 0 (MQ below (va_Qi Z (zB (dC, dI) zCl [(cA1, .char), (cA2, .long)] A (fun u : (Nat → Int32) × (Nat → Int32) × (Nat → Int64) => [(h0, .inr (0, o_ND u.1 h1 a0_2 a0_3 a0_4 a0_5 a0_6)), (h1, .inl (cA1, n1, .inl u.2.1)), (h2, .inl (cA2, n2, .inr (.inl u.2.2)))])) A) args s 1 6 A) (F0 m 7 ls [.int s2, .int s1, .ref h2]) := by
  obtain ⟨hx, hb, hr, hml, hown, ht, hlocks⟩ := id hc
  unfold v_L_type_7 at hv
  refine lv_i2l (v := s2.toInt64) hx hb d_L_type_7 rfl ?_
  obtain ⟨q_1, hv⟩ := hv
  refine va_last hx hb hK hP hD hS 2 1 rfl rfl q_1 d_L_type_8 (fun H locs hP hD hS => ?_)
  have hP : va_P (dC, dI) zCl [(h0, .inr (0, o_ND I0 h1 a0_2 a0_3 a0_4 a0_5 a0_6)), (h1, .inl (cA1, n1, .inl f1)), (h2, .inl (cA2, n2, .inr (.inl (vp_updL f2 s1.toNatClampNeg s2.toInt64))))] H := hP
  have hD : va_D A [(h0, .inr (0, o_ND I0 h1 a0_2 a0_3 a0_4 a0_5 a0_6)), (h1, .inl (cA1, n1, .inl f1)), (h2, .inl (cA2, n2, .inr (.inl (vp_updL f2 s1.toNatClampNeg s2.toInt64))))] := hD
  refine lv_goto (tgt := 18) hx hb d_L_type_9 (by decide) ?_
  refine lv_iconst (v := (0 : Int32)) hx hb d_L_type_18 (by decide) ?_
  refine W.widen (k := 1) (n := 6) (Nat.le_of_ble_eq_true rfl) (Nat.le_of_ble_eq_true rfl) ?_
  exact W.iret (v := (0 : Int32)) hx hb hr (fun t ht hW => ⟨⟨_, (I0, f1, (vp_updL f2 s1.toNatClampNeg s2.toInt64)), rfl, hv, ⟨by rw [ht]; exact hP, va_K.moved hW.alike hK, hD⟩⟩, hS.F ht⟩) hS.2.2 d_L_type_19
set_option maxHeartbeats 4000000 in
set_option maxRecDepth 100000 in
theorem b_L_type_0 {h0 : Nat} {a0_2 : Nat} {a0_3 : Nat} {a0_4 : Nat} {a0_5 : Nat} {a0_6 : Nat} {h1 : Nat} {cA1 : ClassId} {h2 : Nat} {cA2 : ClassId} {I0 : Nat → Int32} {n1 : Nat} {f1 : Nat → Int32} {n2 : Nat} {f2 : Nat → Int64} {x1 : Int32}  {Z : Int32 → (Nat → Int32) × (Nat → Int32) × (Nat → Int64) → Prop} {H : Heap} {locs : List Loc} {ls : Array Slot} (hc : zC p s m args meth c method_3_code (some .int) 4 "NumberDressLaw") (hA : ∀ q : Nat, s.heap.size ≤ q → A q) (hE : zE gE A s) (hlt : l.stackTraces = false) (htb : c.exceptionTable.toList.map zHt = [(0, 9, 12, 13), (0, 9, 15, 15)]) (hl : lv_has ls 4 [(0, .ref h0), (1, .int x1), (2, .ref h2)]) (hK : va_K (dC, dI) zCl [(cA1, .char), (cA2, .long)] s) (hP : va_P (dC, dI) zCl [(h0, .inr (0, o_ND I0 h1 a0_2 a0_3 a0_4 a0_5 a0_6)), (h1, .inl (cA1, n1, .inl f1)), (h2, .inl (cA2, n2, .inr (.inl f2)))] H) (hD : va_D A [(h0, .inr (0, o_ND I0 h1 a0_2 a0_3 a0_4 a0_5 a0_6)), (h1, .inl (cA1, n1, .inl f1)), (h2, .inl (cA2, n2, .inr (.inl f2)))]) (hS : va_S A s.heap H locs) (hv : v_L_type_0 I0 n1 f1 n2 f2 x1  Z) : W p l e (headSpec (Cond.codeWith (⟨"NumberDressLaw", "type", "(LNumberDress;I[J)I"⟩ : MethodName) method_3_code 4 (some .int) [(0, 9, 12, 13), (0, 9, 15, 15)] :: zT) { frames := 7, cells := 1, slots := 6, locals := 106 }).room s m args below meth c H locs 0 0 (MQ below (va_Qi Z (zB (dC, dI) zCl [(cA1, .char), (cA2, .long)] A (fun u : (Nat → Int32) × (Nat → Int32) × (Nat → Int64) => [(h0, .inr (0, o_ND u.1 h1 a0_2 a0_3 a0_4 a0_5 a0_6)), (h1, .inl (cA1, n1, .inl u.2.1)), (h2, .inl (cA2, n2, .inr (.inl u.2.2)))])) A) args s 1 6 A) (F0 m 0 ls []) := by
  obtain ⟨hx, hb, hr, hml, hown, ht, hlocks⟩ := id hc
  unfold v_L_type_0 at hv
  refine lv_aload_n hx hb d_L_type_0 rfl (lv_at hl 2 rfl) ?_
  refine lv_iconst (v := (0 : Int32)) hx hb d_L_type_1 (by decide) ?_
  refine lv_aload_n hx hb d_L_type_2 rfl (lv_at hl 0 rfl) ?_
  refine lv_iload_n hx hb d_L_type_3 rfl (lv_at hl 1 rfl) ?_
  rcases hv with hv | hv | hv
  · skip
    refine z_calli (wc := [(h0, .inr (0, o_ND I0 h1 a0_2 a0_3 a0_4 a0_5 a0_6)), (h1, .inl (cA1, n1, .inl f1))]) (wr := [(h2, .inl (cA2, n2, .inr (.inl f2)))]) [0, 1] [2] (va_runV (As := [.int x1]) (rest := [.int (0 : Int32), .ref h2]) ⟨hx, hb, hml, hown, ht⟩ (m_ND_type l dC dI hv) ⟨(callB_of 1 ht (zG_in zi_ND_type) rfl rfl rfl (ht _ zw_110) (ht _ zw_1144) zh_ND_type ⟨Nat.le_of_ble_eq_true rfl, Nat.le_of_ble_eq_true rfl⟩), (ht _ zw_1145), (ht _ zw_1146)⟩ ⟨zPc_blind, va_recv hK hP (ci := 0) (q0 := 0) rfl rfl, zPc_pre hP hK hD hS hA hE [0, 1] [0] rfl rfl (by decide) rfl⟩ rfl rfl hl.1 rfl (lv_room (Nat.le_of_ble_eq_true rfl)) d_L_type_4 ⟨Nat.le_of_ble_eq_true rfl, Nat.le_of_ble_eq_true rfl⟩) hP hD hS hA rfl rfl (by decide) (by decide) (fun r u H locs hv hP hD hS => ?_)
    have hP : va_P (dC, dI) zCl [(h0, .inr (0, o_ND u.1 h1 a0_2 a0_3 a0_4 a0_5 a0_6)), (h1, .inl (cA1, n1, .inl u.2)), (h2, .inl (cA2, n2, .inr (.inl f2)))] H := hP.sub [1, 2, 0] rfl
    have hD : va_D A [(h0, .inr (0, o_ND u.1 h1 a0_2 a0_3 a0_4 a0_5 a0_6)), (h1, .inl (cA1, n1, .inl u.2)), (h2, .inl (cA2, n2, .inr (.inl f2)))] := hD.sub [1, 2, 0] (by decide) rfl
    exact b_L_type_7 hc hA hE hlt htb  (lv_sub hl [] rfl) hK hP hD hS hv
  · obtain ⟨hv, hz⟩ := hv
    obtain ⟨e1, e2, etab, r1, r2⟩ := z_tab2 htb
    obtain ⟨p1, p2, p3, p4⟩ := z_row r1
    obtain ⟨u1, u2, u3, u4⟩ := z_row r2
    refine z_wcatch1 (As := [.int x1]) (rest := [.int (0 : Int32), .ref h2]) ⟨hx, hb, hml, hown, ht⟩ ⟨m_ND_typeT1 l hlt dC dI hv, (callB_of 1 ht (zG_in zi_ND_type) rfl rfl rfl (ht _ zw_110) (ht _ zw_1144) zh_ND_type ⟨Nat.le_of_ble_eq_true rfl, Nat.le_of_ble_eq_true rfl⟩), (ht _ zw_1145), (ht _ zw_1146), fun a U hW => word_at hW (Or.inl rfl) (ht _ zw_110), zPc_blind, va_recv hK hP (ci := 0) (q0 := 0) rfl rfl, zPc_pre hP hK hD hS hA hE [0, 1] [0] rfl rfl (by decide) rfl⟩ hl.1 (Nat.le_of_ble_eq_true rfl) d_L_type_4 ⟨Nat.le_of_ble_eq_true rfl, Nat.le_of_ble_eq_true rfl⟩ etab (z_cov p1 p2 (by decide)) (by rw [p4]; decide) (by rw [p4]; exact (ht _ zw_1142)) p3 hP hS (fun x9 H hP hS => ?_)
    have hv := hz
    exact b_L_type_12 hc hA hE hlt htb  (lv_sub hl [] rfl) hK hP hD hS hv
  · obtain ⟨hv, hz⟩ := hv
    obtain ⟨e1, e2, etab, r1, r2⟩ := z_tab2 htb
    obtain ⟨p1, p2, p3, p4⟩ := z_row r1
    obtain ⟨u1, u2, u3, u4⟩ := z_row r2
    refine z_wcatch2 (As := [.int x1]) (rest := [.int (0 : Int32), .ref h2]) ⟨hx, hb, hml, hown, ht⟩ ⟨m_ND_typeT2 l hlt dC dI hv, (callB_of 1 ht (zG_in zi_ND_type) rfl rfl rfl (ht _ zw_110) (ht _ zw_1144) zh_ND_type ⟨Nat.le_of_ble_eq_true rfl, Nat.le_of_ble_eq_true rfl⟩), (ht _ zw_1145), (ht _ zw_1146), fun a U hW => word_at hW (Or.inl rfl) (ht _ zw_110), zPc_blind, va_recv hK hP (ci := 0) (q0 := 0) rfl rfl, zPc_pre hP hK hD hS hA hE [0, 1] [0] rfl rfl (by decide) rfl⟩ hl.1 (Nat.le_of_ble_eq_true rfl) d_L_type_4 ⟨Nat.le_of_ble_eq_true rfl, Nat.le_of_ble_eq_true rfl⟩ etab (z_cov p1 p2 (by decide)) (by rw [p4]; decide) (z_cov u1 u2 (by decide)) (by rw [u4]; decide) (by rw [p4]; exact (ht _ zw_1142)) (by rw [u4]; exact (ht _ zw_1143)) u3 hE.xs.nc hP hS (fun x9 H hP hS => ?_)
    have hv := hz
    exact b_L_type_15 hc hA hE hlt htb  (lv_sub hl [] rfl) hK hP hD hS hv
theorem zh_L_type : (((⟨"NumberDressLaw", "type", "(LNumberDress;I[J)I"⟩ : MethodName)).cls ≠ "java/lang/invoke/MethodHandle" ∧ ((⟨"NumberDressLaw", "type", "(LNumberDress;I[J)I"⟩ : MethodName)).cls ≠ "java/lang/invoke/VarHandle" ∧ (parseMethodDescriptor ((⟨"NumberDressLaw", "type", "(LNumberDress;I[J)I"⟩ : MethodName)).desc).map (fun d => d.parameters.length) = some 3) := by decide +kernel
theorem zi_L_type : Cond.codeWith (⟨"NumberDressLaw", "type", "(LNumberDress;I[J)I"⟩ : MethodName) method_3_code 4 (some .int) [(0, 9, 12, 13), (0, 9, 15, 15)] ∈ zT := zw_1141
set_option maxHeartbeats 4000000 in
set_option maxRecDepth 100000 in
theorem m_L_type (l : Launch) (hlt : l.stackTraces = false) (dC : Nat → ClassId) (dI : Nat → Nat → Nat) {gE : zG} {h0 : Nat} {a0_2 : Nat} {a0_3 : Nat} {a0_4 : Nat} {a0_5 : Nat} {a0_6 : Nat} {h1 : Nat} {cA1 : ClassId} {h2 : Nat} {cA2 : ClassId} {I0 : Nat → Int32} {n1 : Nat} {f1 : Nat → Int32} {n2 : Nat} {f2 : Nat → Int64} {x1 : Int32} {sz : Nat} {Z : Int32 → (Nat → Int32) × (Nat → Int32) × (Nat → Int64) → Prop} (hv : v_L_type_0 I0 n1 f1 n2 f2 x1 Z) : Met l (⟨"NumberDressLaw", "type", "(LNumberDress;I[J)I"⟩ : MethodName) (Cond.codeWith (⟨"NumberDressLaw", "type", "(LNumberDress;I[J)I"⟩ : MethodName) method_3_code 4 (some .int) [(0, 9, 12, 13), (0, 9, 15, 15)] :: zT) { frames := 7, cells := 1, slots := 6, locals := 106 } (zPc gE (dC, dI) zCl [(cA1, .char), (cA2, .long)] [.ref h0, .int x1, .ref h2] sz [(h0, .inr (0, o_ND I0 h1 a0_2 a0_3 a0_4 a0_5 a0_6)), (h1, .inl (cA1, n1, .inl f1)), (h2, .inl (cA2, n2, .inr (.inl f2)))]) (va_Qi Z (zB (dC, dI) zCl [(cA1, .char), (cA2, .long)] (va_A [(h0, .inr (0, o_ND I0 h1 a0_2 a0_3 a0_4 a0_5 a0_6)), (h1, .inl (cA1, n1, .inl f1)), (h2, .inl (cA2, n2, .inr (.inl f2)))] sz) (fun u : (Nat → Int32) × (Nat → Int32) × (Nat → Int64) => [(h0, .inr (0, o_ND u.1 h1 a0_2 a0_3 a0_4 a0_5 a0_6)), (h1, .inl (cA1, n1, .inl u.2.1)), (h2, .inl (cA2, n2, .inr (.inl u.2.2)))])) (va_A [(h0, .inr (0, o_ND I0 h1 a0_2 a0_3 a0_4 a0_5 a0_6)), (h1, .inl (cA1, n1, .inl f1)), (h2, .inl (cA2, n2, .inr (.inl f2)))] sz)) 1 6 (va_A [(h0, .inr (0, o_ND I0 h1 a0_2 a0_3 a0_4 a0_5 a0_6)), (h1, .inl (cA1, n1, .inl f1)), (h2, .inl (cA2, n2, .inr (.inl f2)))] sz) := by
  refine va_MetW (cc := method_3_code) (maxL := 4) (ret := (some .int)) (hh := [(0, 9, 12, 13), (0, 9, 15, 15)]) (by decide +kernel) rfl ?_
  intro p e s m args below meth c s₁ B hml hp
  obtain ⟨rfl, hsz, hP, hK, hD0, hE⟩ := hp
  have hts := atoms_spec (ws := (Cond.codeWith (⟨"NumberDressLaw", "type", "(LNumberDress;I[J)I"⟩ : MethodName) method_3_code 4 (some .int) [(0, 9, 12, 13), (0, 9, 15, 15)] :: zT)) B.pre
  obtain ⟨m9, meth9, c9, en1, en2, en3, -, -, htb, -⟩ := Cond.codeWith_spec (hts _ List.mem_cons_self)
  cases en1.symm.trans B.named
  have em : meth9 = meth := Option.some.inj (en2.symm.trans B.method)
  subst em
  have ec : c9 = c := Option.some.inj (en3.symm.trans (Stand.of_body B).code)
  subst ec
  have hown : s.vm.findClass "NumberDressLaw" = some m.cls := findClass_of_methodNamed B.named
  have hc : zC p s m _ meth9 c9 method_3_code (some .int) 4 "NumberDressLaw" := ⟨B.exec, B.bytes, B.returns, hml, hown, fun w h => hts w (List.mem_cons_of_mem _ h), B.notSynchronized⟩
  subst hsz
  have hD := hD0.self (sz := s.heap.size)
  generalize hAe : va_A [(h0, .inr (0, o_ND I0 h1 a0_2 a0_3 a0_4 a0_5 a0_6)), (h1, .inl (cA1, n1, .inl f1)), (h2, .inl (cA2, n2, .inr (.inl f2)))] s.heap.size = A at hD hE ⊢
  have hA : ∀ q : Nat, s.heap.size ≤ q → A q := fun q h => by rw [← hAe]; exact Or.inr h
  have hl := lv_entry ([.ref h0, .int x1, .ref h2]) (n := 4) (Nat.le_of_ble_eq_true rfl)
  rw [lg_entry_eq]
  exact b_L_type_0 hc hA hE hlt htb hl hK hP hD va_S.rf hv
theorem d_L_number_0 : decode method_4_code 0 = .ok (.aload_n 0, 1) := by decide +kernel
theorem d_L_number_1 : decode method_4_code 1 = .ok (.iload_n 1, 1) := by decide +kernel
theorem d_L_number_2 : decode method_4_code 2 = .ok (.iload_n 2, 1) := by decide +kernel
theorem d_L_number_3 : decode method_4_code 3 = .ok (.iload_n 3, 1) := by decide +kernel
theorem d_L_number_4 : decode method_4_code 4 = .ok (.iload 4, 2) := by decide +kernel
theorem d_L_number_6 : decode method_4_code 6 = .ok (.invokevirtual 17, 3) := by decide +kernel
theorem d_L_number_9 : decode method_4_code 9 = .ok (.goto 7, 3) := by decide +kernel
theorem d_L_number_12 : decode method_4_code 12 = .ok (.astore 5, 2) := by decide +kernel
theorem d_L_number_14 : decode method_4_code 14 = .ok (.iconst 1, 1) := by decide +kernel
theorem d_L_number_15 : decode method_4_code 15 = .ok (.ireturn, 1) := by decide +kernel
theorem d_L_number_16 : decode method_4_code 16 = .ok (.iconst 0, 1) := by decide +kernel
theorem d_L_number_17 : decode method_4_code 17 = .ok (.ireturn, 1) := by decide +kernel
def v_L_number_12 (I0 : Nat → Int32) (I1 : Nat → Int32) (J1 : Nat → Int64) (I2 : Nat → Int32)  (Z : Int32 → (Nat → Int32) × (Nat → Int64) × (Nat → Int32) → Prop) : Prop :=
  (Z (1 : Int32) (I1, J1, I2))
def v_L_number_9 (I0 : Nat → Int32) (I1 : Nat → Int32) (J1 : Nat → Int64) (I2 : Nat → Int32)  (Z : Int32 → (Nat → Int32) × (Nat → Int64) × (Nat → Int32) → Prop) : Prop :=
  (Z (0 : Int32) (I1, J1, I2))
def v_L_number_0 (I0 : Nat → Int32) (I1 : Nat → Int32) (J1 : Nat → Int64) (I2 : Nat → Int32) (x1 : Int32) (x2 : Int32) (x3 : Int32) (x4 : Int32)  (Z : Int32 → (Nat → Int32) × (Nat → Int64) × (Nat → Int32) → Prop) : Prop :=
  ((v_ND_number_0 I0 I1 J1 I2 x1 x2 x3 x4 (fun u => (v_L_number_9 I0 u.1 u.2.1 u.2.2  Z))) ∨ (v_ND_numberT1_0 I0 I1 J1 I2 x1 x2 x3 x4 (fun _ => True) ∧ (v_L_number_12 I0 I1 J1 I2  Z)))
set_option maxHeartbeats 4000000 in
set_option maxRecDepth 100000 in
theorem b_L_number_12 {h0 : Nat} {a0_0 : Nat} {a0_2 : Nat} {a0_3 : Nat} {a0_5 : Nat} {h1 : Nat} {a1_4 : Nat} {h2 : Nat} {a2_0 : Nat} {as0 : Nat} {I0 : Nat → Int32} {I1 : Nat → Int32} {J1 : Nat → Int64} {I2 : Nat → Int32}  {Z : Int32 → (Nat → Int32) × (Nat → Int64) × (Nat → Int32) → Prop} {H : Heap} {locs : List Loc} {ls : Array Slot} (hc : zC p s m args meth c method_4_code (some .int) 6 "NumberDressLaw") (hA : ∀ q : Nat, s.heap.size ≤ q → A q) (hE : zE gE A s) (hlt : l.stackTraces = false) (htb : c.exceptionTable.toList.map zHt = [(0, 9, 12, 13)]) (hl : lv_has ls 6 []) (hK : va_K (dC, dI) zCl [] s) (hP : va_P (dC, dI) zCl [(h0, .inr (0, o_ND I0 a0_0 a0_2 a0_3 h1 a0_5 h2)), (h1, .inr (11, o_Value I1 J1 a1_4)), (h2, .inr (6, o_Look I2 a2_0))] H) (hD : va_D A [(h0, .inr (0, o_ND I0 a0_0 a0_2 a0_3 h1 a0_5 h2)), (h1, .inr (11, o_Value I1 J1 a1_4)), (h2, .inr (6, o_Look I2 a2_0))]) (hS : va_S A s.heap H locs) (hv : v_L_number_12 I0 I1 J1 I2  Z) : W p l e (headSpec (Cond.codeWith (⟨"NumberDressLaw", "number", "(LNumberDress;ZIII)I"⟩ : MethodName) method_4_code 6 (some .int) [(0, 9, 12, 13)] :: zT) { frames := 7, cells := 1, slots := 6, locals := 106 }).room s m args below meth c H locs 1 6 (MQ below (va_Qi Z (zB (dC, dI) zCl [] A (fun u : (Nat → Int32) × (Nat → Int64) × (Nat → Int32) => [(h0, .inr (0, o_ND I0 a0_0 a0_2 a0_3 h1 a0_5 h2)), (h1, .inr (11, o_Value u.1 u.2.1 a1_4)), (h2, .inr (6, o_Look u.2.2 a2_0))])) A) args s 1 6 A) (F0 m 12 ls [.ref as0]) := by
  obtain ⟨hx, hb, hr, hml, hown, ht, hlocks⟩ := id hc
  unfold v_L_number_12 at hv
  refine lv_astore (lv' := [(5, .ref as0)]) hx hb d_L_number_12 hl (by decide) rfl (fun ls hl => ?_)
  refine lv_iconst (v := (1 : Int32)) hx hb d_L_number_14 (by decide) ?_
  refine W.widen (k := 1) (n := 6) (Nat.le_of_ble_eq_true rfl) (Nat.le_of_ble_eq_true rfl) ?_
  exact W.iret (v := (1 : Int32)) hx hb hr (fun t ht hW => ⟨⟨_, (I1, J1, I2), rfl, hv, ⟨by rw [ht]; exact hP, va_K.moved hW.alike hK, hD⟩⟩, hS.F ht⟩) hS.2.2 d_L_number_15
set_option maxHeartbeats 4000000 in
set_option maxRecDepth 100000 in
theorem b_L_number_9 {h0 : Nat} {a0_0 : Nat} {a0_2 : Nat} {a0_3 : Nat} {a0_5 : Nat} {h1 : Nat} {a1_4 : Nat} {h2 : Nat} {a2_0 : Nat} {I0 : Nat → Int32} {I1 : Nat → Int32} {J1 : Nat → Int64} {I2 : Nat → Int32}  {Z : Int32 → (Nat → Int32) × (Nat → Int64) × (Nat → Int32) → Prop} {H : Heap} {locs : List Loc} {ls : Array Slot} (hc : zC p s m args meth c method_4_code (some .int) 6 "NumberDressLaw") (hA : ∀ q : Nat, s.heap.size ≤ q → A q) (hE : zE gE A s) (hlt : l.stackTraces = false) (htb : c.exceptionTable.toList.map zHt = [(0, 9, 12, 13)]) (hl : lv_has ls 6 []) (hK : va_K (dC, dI) zCl [] s) (hP : va_P (dC, dI) zCl [(h0, .inr (0, o_ND I0 a0_0 a0_2 a0_3 h1 a0_5 h2)), (h1, .inr (11, o_Value I1 J1 a1_4)), (h2, .inr (6, o_Look I2 a2_0))] H) (hD : va_D A [(h0, .inr (0, o_ND I0 a0_0 a0_2 a0_3 h1 a0_5 h2)), (h1, .inr (11, o_Value I1 J1 a1_4)), (h2, .inr (6, o_Look I2 a2_0))]) (hS : va_S A s.heap H locs) (hv : v_L_number_9 I0 I1 J1 I2  Z) : W p l e (headSpec (Cond.codeWith (⟨"NumberDressLaw", "number", "(LNumberDress;ZIII)I"⟩ : MethodName) method_4_code 6 (some .int) [(0, 9, 12, 13)] :: zT) { frames := 7, cells := 1, slots := 6, locals := 106 }).room s m args below meth c H locs 0 0 (MQ below (va_Qi Z (zB (dC, dI) zCl [] A (fun u : (Nat → Int32) × (Nat → Int64) × (Nat → Int32) => [(h0, .inr (0, o_ND I0 a0_0 a0_2 a0_3 h1 a0_5 h2)), (h1, .inr (11, o_Value u.1 u.2.1 a1_4)), (h2, .inr (6, o_Look u.2.2 a2_0))])) A) args s 1 6 A) (F0 m 9 ls []) := by
  obtain ⟨hx, hb, hr, hml, hown, ht, hlocks⟩ := id hc
  unfold v_L_number_9 at hv
  refine lv_goto (tgt := 16) hx hb d_L_number_9 (by decide) ?_
  refine lv_iconst (v := (0 : Int32)) hx hb d_L_number_16 (by decide) ?_
  refine W.widen (k := 1) (n := 6) (Nat.le_of_ble_eq_true rfl) (Nat.le_of_ble_eq_true rfl) ?_
  exact W.iret (v := (0 : Int32)) hx hb hr (fun t ht hW => ⟨⟨_, (I1, J1, I2), rfl, hv, ⟨by rw [ht]; exact hP, va_K.moved hW.alike hK, hD⟩⟩, hS.F ht⟩) hS.2.2 d_L_number_17
set_option maxHeartbeats 4000000 in
set_option maxRecDepth 100000 in
theorem b_L_number_0 {h0 : Nat} {a0_0 : Nat} {a0_2 : Nat} {a0_3 : Nat} {a0_5 : Nat} {h1 : Nat} {a1_4 : Nat} {h2 : Nat} {a2_0 : Nat} {I0 : Nat → Int32} {I1 : Nat → Int32} {J1 : Nat → Int64} {I2 : Nat → Int32} {x1 : Int32} {x2 : Int32} {x3 : Int32} {x4 : Int32}  {Z : Int32 → (Nat → Int32) × (Nat → Int64) × (Nat → Int32) → Prop} {H : Heap} {locs : List Loc} {ls : Array Slot} (hc : zC p s m args meth c method_4_code (some .int) 6 "NumberDressLaw") (hA : ∀ q : Nat, s.heap.size ≤ q → A q) (hE : zE gE A s) (hlt : l.stackTraces = false) (htb : c.exceptionTable.toList.map zHt = [(0, 9, 12, 13)]) (hl : lv_has ls 6 [(0, .ref h0), (1, .int x1), (2, .int x2), (3, .int x3), (4, .int x4)]) (hK : va_K (dC, dI) zCl [] s) (hP : va_P (dC, dI) zCl [(h0, .inr (0, o_ND I0 a0_0 a0_2 a0_3 h1 a0_5 h2)), (h1, .inr (11, o_Value I1 J1 a1_4)), (h2, .inr (6, o_Look I2 a2_0))] H) (hD : va_D A [(h0, .inr (0, o_ND I0 a0_0 a0_2 a0_3 h1 a0_5 h2)), (h1, .inr (11, o_Value I1 J1 a1_4)), (h2, .inr (6, o_Look I2 a2_0))]) (hS : va_S A s.heap H locs) (hv : v_L_number_0 I0 I1 J1 I2 x1 x2 x3 x4  Z) : W p l e (headSpec (Cond.codeWith (⟨"NumberDressLaw", "number", "(LNumberDress;ZIII)I"⟩ : MethodName) method_4_code 6 (some .int) [(0, 9, 12, 13)] :: zT) { frames := 7, cells := 1, slots := 6, locals := 106 }).room s m args below meth c H locs 0 0 (MQ below (va_Qi Z (zB (dC, dI) zCl [] A (fun u : (Nat → Int32) × (Nat → Int64) × (Nat → Int32) => [(h0, .inr (0, o_ND I0 a0_0 a0_2 a0_3 h1 a0_5 h2)), (h1, .inr (11, o_Value u.1 u.2.1 a1_4)), (h2, .inr (6, o_Look u.2.2 a2_0))])) A) args s 1 6 A) (F0 m 0 ls []) := by
  obtain ⟨hx, hb, hr, hml, hown, ht, hlocks⟩ := id hc
  unfold v_L_number_0 at hv
  refine lv_aload_n hx hb d_L_number_0 rfl (lv_at hl 0 rfl) ?_
  refine lv_iload_n hx hb d_L_number_1 rfl (lv_at hl 1 rfl) ?_
  refine lv_iload_n hx hb d_L_number_2 rfl (lv_at hl 2 rfl) ?_
  refine lv_iload_n hx hb d_L_number_3 rfl (lv_at hl 3 rfl) ?_
  refine lv_iload hx hb d_L_number_4 (lv_at hl 4 rfl) ?_
  rcases hv with hv | hv
  · skip
    refine z_callv (wc := [(h0, .inr (0, o_ND I0 a0_0 a0_2 a0_3 h1 a0_5 h2)), (h1, .inr (11, o_Value I1 J1 a1_4)), (h2, .inr (6, o_Look I2 a2_0))]) (wr := []) [0, 1, 2] [] (va_runV (As := [.int x1, .int x2, .int x3, .int x4]) (rest := []) ⟨hx, hb, hml, hown, ht⟩ (m_ND_number l dC dI hv) ⟨(callB_of 4 ht (zG_in zi_ND_number) rfl rfl rfl (ht _ zw_110) (ht _ zw_1233) zh_ND_number ⟨Nat.le_of_ble_eq_true rfl, Nat.le_of_ble_eq_true rfl⟩), (ht _ zw_1234), (ht _ zw_1235)⟩ ⟨zPc_blind, va_recv hK hP (ci := 0) (q0 := 0) rfl rfl, zPc_pre hP hK hD hS hA hE [0, 1, 2] [] rfl rfl (by decide) rfl⟩ rfl rfl hl.1 rfl (lv_room (Nat.le_of_ble_eq_true rfl)) d_L_number_6 ⟨Nat.le_of_ble_eq_true rfl, Nat.le_of_ble_eq_true rfl⟩) hP hD hS hA rfl rfl (by decide) (by decide) (fun u H locs hv hP hD hS => ?_)
    have hP : va_P (dC, dI) zCl [(h0, .inr (0, o_ND I0 a0_0 a0_2 a0_3 h1 a0_5 h2)), (h1, .inr (11, o_Value u.1 u.2.1 a1_4)), (h2, .inr (6, o_Look u.2.2 a2_0))] H := hP.sub [0, 1, 2] rfl
    have hD : va_D A [(h0, .inr (0, o_ND I0 a0_0 a0_2 a0_3 h1 a0_5 h2)), (h1, .inr (11, o_Value u.1 u.2.1 a1_4)), (h2, .inr (6, o_Look u.2.2 a2_0))] := hD.sub [0, 1, 2] (by decide) rfl
    exact b_L_number_9 hc hA hE hlt htb  (lv_sub hl [] rfl) hK hP hD hS hv
  · obtain ⟨hv, hz⟩ := hv
    obtain ⟨e1, etab, r1⟩ := z_tab1 htb
    obtain ⟨p1, p2, p3, p4⟩ := z_row r1
    refine z_wcatch1 (As := [.int x1, .int x2, .int x3, .int x4]) (rest := []) ⟨hx, hb, hml, hown, ht⟩ ⟨m_ND_numberT1 l hlt dC dI hv, (callB_of 4 ht (zG_in zi_ND_number) rfl rfl rfl (ht _ zw_110) (ht _ zw_1233) zh_ND_number ⟨Nat.le_of_ble_eq_true rfl, Nat.le_of_ble_eq_true rfl⟩), (ht _ zw_1234), (ht _ zw_1235), fun a U hW => word_at hW (Or.inl rfl) (ht _ zw_110), zPc_blind, va_recv hK hP (ci := 0) (q0 := 0) rfl rfl, zPc_pre hP hK hD hS hA hE [0, 1, 2] [] rfl rfl (by decide) rfl⟩ hl.1 (Nat.le_of_ble_eq_true rfl) d_L_number_6 ⟨Nat.le_of_ble_eq_true rfl, Nat.le_of_ble_eq_true rfl⟩ etab (z_cov p1 p2 (by decide)) (by rw [p4]; decide) (by rw [p4]; exact (ht _ zw_1142)) p3 hP hS (fun x9 H hP hS => ?_)
    have hv := hz
    exact b_L_number_12 hc hA hE hlt htb  (lv_sub hl [] rfl) hK hP hD hS hv
theorem zh_L_number : (((⟨"NumberDressLaw", "number", "(LNumberDress;ZIII)I"⟩ : MethodName)).cls ≠ "java/lang/invoke/MethodHandle" ∧ ((⟨"NumberDressLaw", "number", "(LNumberDress;ZIII)I"⟩ : MethodName)).cls ≠ "java/lang/invoke/VarHandle" ∧ (parseMethodDescriptor ((⟨"NumberDressLaw", "number", "(LNumberDress;ZIII)I"⟩ : MethodName)).desc).map (fun d => d.parameters.length) = some 5) := by decide +kernel
theorem zi_L_number : Cond.codeWith (⟨"NumberDressLaw", "number", "(LNumberDress;ZIII)I"⟩ : MethodName) method_4_code 6 (some .int) [(0, 9, 12, 13)] ∈ zT := zw_1232
set_option maxHeartbeats 4000000 in
set_option maxRecDepth 100000 in
theorem m_L_number (l : Launch) (hlt : l.stackTraces = false) (dC : Nat → ClassId) (dI : Nat → Nat → Nat) {gE : zG} {h0 : Nat} {a0_0 : Nat} {a0_2 : Nat} {a0_3 : Nat} {a0_5 : Nat} {h1 : Nat} {a1_4 : Nat} {h2 : Nat} {a2_0 : Nat} {I0 : Nat → Int32} {I1 : Nat → Int32} {J1 : Nat → Int64} {I2 : Nat → Int32} {x1 : Int32} {x2 : Int32} {x3 : Int32} {x4 : Int32} {sz : Nat} {Z : Int32 → (Nat → Int32) × (Nat → Int64) × (Nat → Int32) → Prop} (hv : v_L_number_0 I0 I1 J1 I2 x1 x2 x3 x4 Z) : Met l (⟨"NumberDressLaw", "number", "(LNumberDress;ZIII)I"⟩ : MethodName) (Cond.codeWith (⟨"NumberDressLaw", "number", "(LNumberDress;ZIII)I"⟩ : MethodName) method_4_code 6 (some .int) [(0, 9, 12, 13)] :: zT) { frames := 7, cells := 1, slots := 6, locals := 106 } (zPc gE (dC, dI) zCl [] [.ref h0, .int x1, .int x2, .int x3, .int x4] sz [(h0, .inr (0, o_ND I0 a0_0 a0_2 a0_3 h1 a0_5 h2)), (h1, .inr (11, o_Value I1 J1 a1_4)), (h2, .inr (6, o_Look I2 a2_0))]) (va_Qi Z (zB (dC, dI) zCl [] (va_A [(h0, .inr (0, o_ND I0 a0_0 a0_2 a0_3 h1 a0_5 h2)), (h1, .inr (11, o_Value I1 J1 a1_4)), (h2, .inr (6, o_Look I2 a2_0))] sz) (fun u : (Nat → Int32) × (Nat → Int64) × (Nat → Int32) => [(h0, .inr (0, o_ND I0 a0_0 a0_2 a0_3 h1 a0_5 h2)), (h1, .inr (11, o_Value u.1 u.2.1 a1_4)), (h2, .inr (6, o_Look u.2.2 a2_0))])) (va_A [(h0, .inr (0, o_ND I0 a0_0 a0_2 a0_3 h1 a0_5 h2)), (h1, .inr (11, o_Value I1 J1 a1_4)), (h2, .inr (6, o_Look I2 a2_0))] sz)) 1 6 (va_A [(h0, .inr (0, o_ND I0 a0_0 a0_2 a0_3 h1 a0_5 h2)), (h1, .inr (11, o_Value I1 J1 a1_4)), (h2, .inr (6, o_Look I2 a2_0))] sz) := by
  refine va_MetW (cc := method_4_code) (maxL := 6) (ret := (some .int)) (hh := [(0, 9, 12, 13)]) (by decide +kernel) rfl ?_
  intro p e s m args below meth c s₁ B hml hp
  obtain ⟨rfl, hsz, hP, hK, hD0, hE⟩ := hp
  have hts := atoms_spec (ws := (Cond.codeWith (⟨"NumberDressLaw", "number", "(LNumberDress;ZIII)I"⟩ : MethodName) method_4_code 6 (some .int) [(0, 9, 12, 13)] :: zT)) B.pre
  obtain ⟨m9, meth9, c9, en1, en2, en3, -, -, htb, -⟩ := Cond.codeWith_spec (hts _ List.mem_cons_self)
  cases en1.symm.trans B.named
  have em : meth9 = meth := Option.some.inj (en2.symm.trans B.method)
  subst em
  have ec : c9 = c := Option.some.inj (en3.symm.trans (Stand.of_body B).code)
  subst ec
  have hown : s.vm.findClass "NumberDressLaw" = some m.cls := findClass_of_methodNamed B.named
  have hc : zC p s m _ meth9 c9 method_4_code (some .int) 6 "NumberDressLaw" := ⟨B.exec, B.bytes, B.returns, hml, hown, fun w h => hts w (List.mem_cons_of_mem _ h), B.notSynchronized⟩
  subst hsz
  have hD := hD0.self (sz := s.heap.size)
  generalize hAe : va_A [(h0, .inr (0, o_ND I0 a0_0 a0_2 a0_3 h1 a0_5 h2)), (h1, .inr (11, o_Value I1 J1 a1_4)), (h2, .inr (6, o_Look I2 a2_0))] s.heap.size = A at hD hE ⊢
  have hA : ∀ q : Nat, s.heap.size ≤ q → A q := fun q h => by rw [← hAe]; exact Or.inr h
  have hl := lv_entry ([.ref h0, .int x1, .int x2, .int x3, .int x4]) (n := 6) (Nat.le_of_ble_eq_true rfl)
  rw [lg_entry_eq]
  exact b_L_number_0 hc hA hE hlt htb hl hK hP hD va_S.rf hv
theorem d_L_about_0 : decode method_5_code 0 = .ok (.aload_n 2, 1) := by decide +kernel
theorem d_L_about_1 : decode method_5_code 1 = .ok (.iconst 0, 1) := by decide +kernel
theorem d_L_about_2 : decode method_5_code 2 = .ok (.aload_n 0, 1) := by decide +kernel
theorem d_L_about_3 : decode method_5_code 3 = .ok (.iload_n 1, 1) := by decide +kernel
theorem d_L_about_4 : decode method_5_code 4 = .ok (.invokevirtual 21, 3) := by decide +kernel
theorem d_L_about_7 : decode method_5_code 7 = .ok (.i2l, 1) := by decide +kernel
theorem d_L_about_8 : decode method_5_code 8 = .ok (.lastore, 1) := by decide +kernel
theorem d_L_about_9 : decode method_5_code 9 = .ok (.goto 6, 3) := by decide +kernel
theorem d_L_about_12 : decode method_5_code 12 = .ok (.astore_n 3, 1) := by decide +kernel
theorem d_L_about_13 : decode method_5_code 13 = .ok (.iconst 1, 1) := by decide +kernel
theorem d_L_about_14 : decode method_5_code 14 = .ok (.ireturn, 1) := by decide +kernel
theorem d_L_about_15 : decode method_5_code 15 = .ok (.iconst 0, 1) := by decide +kernel
theorem d_L_about_16 : decode method_5_code 16 = .ok (.ireturn, 1) := by decide +kernel
def v_L_about_12 (I0 : Nat → Int32) (I1 : Nat → Int32) (I3 : Nat → Int32) (J3 : Nat → Int64) (I4 : Nat → Int32) (I5 : Nat → Int32) (I6 : Nat → Int32) (I7 : Nat → Int32) (n8 : Nat) (f8 : Nat → Int64)  (Z : Int32 → (Nat → Int64) → Prop) : Prop :=
  (Z (1 : Int32) (f8))
def v_L_about_7 (I0 : Nat → Int32) (I1 : Nat → Int32) (I3 : Nat → Int32) (J3 : Nat → Int64) (I4 : Nat → Int32) (I5 : Nat → Int32) (I6 : Nat → Int32) (I7 : Nat → Int32) (n8 : Nat) (f8 : Nat → Int64) (s1 : Int32) (s2 : Int32)  (Z : Int32 → (Nat → Int64) → Prop) : Prop :=
  (vp_in s1 n8 ∧ (Z (0 : Int32) ((vp_updL f8 s1.toNatClampNeg s2.toInt64))))
def v_L_about_0 (I0 : Nat → Int32) (I1 : Nat → Int32) (I3 : Nat → Int32) (J3 : Nat → Int64) (I4 : Nat → Int32) (I5 : Nat → Int32) (I6 : Nat → Int32) (I7 : Nat → Int32) (n8 : Nat) (f8 : Nat → Int64) (x1 : Int32)  (Z : Int32 → (Nat → Int64) → Prop) : Prop :=
  ((v_ND_about_0 I0 I1 I3 J3 I4 I5 I6 I7 x1 (fun r u => (v_L_about_7 I0 I1 I3 J3 I4 I5 I6 I7 n8 f8 (0 : Int32) r  Z))) ∨ (v_ND_aboutT1_0 I0 I1 I3 J3 I4 I5 I6 I7 x1 (fun _ => True) ∧ (v_L_about_12 I0 I1 I3 J3 I4 I5 I6 I7 n8 f8  Z)))
set_option maxHeartbeats 4000000 in
set_option maxRecDepth 100000 in
theorem b_L_about_12 {h0 : Nat} {a0_0 : Nat} {a0_3 : Nat} {a0_5 : Nat} {a0_6 : Nat} {h1 : Nat} {a1_2 : Nat} {a1_3 : Nat} {h2 : Nat} {cA2 : ClassId} {ad2 : Nat → Nat} {h3 : Nat} {a3_4 : Nat} {h8 : Nat} {cA8 : ClassId} {as0 : Nat} {I0 : Nat → Int32} {I1 : Nat → Int32} {I3 : Nat → Int32} {J3 : Nat → Int64} {I4 : Nat → Int32} {I5 : Nat → Int32} {I6 : Nat → Int32} {I7 : Nat → Int32} {n8 : Nat} {f8 : Nat → Int64}  {Z : Int32 → (Nat → Int64) → Prop} {H : Heap} {locs : List Loc} {ls : Array Slot} (hc : zC p s m args meth c method_5_code (some .int) 4 "NumberDressLaw") (hA : ∀ q : Nat, s.heap.size ≤ q → A q) (hE : zE gE A s) (hlt : l.stackTraces = false) (htb : c.exceptionTable.toList.map zHt = [(0, 9, 12, 13)]) (hl : lv_has ls 4 []) (hK : va_K (dC, dI) zCl [(cA2, .object "NumberDress$Section"), (cA8, .long)] s) (hP : va_P (dC, dI) zCl [(h0, .inr (0, o_ND I0 a0_0 h1 a0_3 h3 a0_5 a0_6)), (h1, .inr (1, o_Code I1 h2 a1_2 a1_3)), (h2, .inl (cA2, 4, .inr (.inr (.inr (.inr (zra ad2 4)))))), (h3, .inr (11, o_Value I3 J3 a3_4)), ((ad2 0), .inr (9, o_Section I4)), ((ad2 1), .inr (9, o_Section I5)), ((ad2 2), .inr (9, o_Section I6)), ((ad2 3), .inr (9, o_Section I7)), (h8, .inl (cA8, n8, .inr (.inl f8)))] H) (hD : va_D A [(h0, .inr (0, o_ND I0 a0_0 h1 a0_3 h3 a0_5 a0_6)), (h1, .inr (1, o_Code I1 h2 a1_2 a1_3)), (h2, .inl (cA2, 4, .inr (.inr (.inr (.inr (zra ad2 4)))))), (h3, .inr (11, o_Value I3 J3 a3_4)), ((ad2 0), .inr (9, o_Section I4)), ((ad2 1), .inr (9, o_Section I5)), ((ad2 2), .inr (9, o_Section I6)), ((ad2 3), .inr (9, o_Section I7)), (h8, .inl (cA8, n8, .inr (.inl f8)))]) (hS : va_S A s.heap H locs) (hv : v_L_about_12 I0 I1 I3 J3 I4 I5 I6 I7 n8 f8  Z) : W p l e (headSpec (Cond.codeWith (⟨"NumberDressLaw", "about", "(LNumberDress;I[J)I"⟩ : MethodName) method_5_code 4 (some .int) [(0, 9, 12, 13)] :: zT) { frames := 7, cells := 1, slots := 6, locals := 104 }).room s m args below meth c H locs 1 6 (MQ below (va_Qi Z (zB (dC, dI) zCl [(cA2, .object "NumberDress$Section"), (cA8, .long)] A (fun u : (Nat → Int64) => [(h0, .inr (0, o_ND I0 a0_0 h1 a0_3 h3 a0_5 a0_6)), (h1, .inr (1, o_Code I1 h2 a1_2 a1_3)), (h2, .inl (cA2, 4, .inr (.inr (.inr (.inr (zra ad2 4)))))), (h3, .inr (11, o_Value I3 J3 a3_4)), ((ad2 0), .inr (9, o_Section I4)), ((ad2 1), .inr (9, o_Section I5)), ((ad2 2), .inr (9, o_Section I6)), ((ad2 3), .inr (9, o_Section I7)), (h8, .inl (cA8, n8, .inr (.inl u)))])) A) args s 1 6 A) (F0 m 12 ls [.ref as0]) := by
  obtain ⟨hx, hb, hr, hml, hown, ht, hlocks⟩ := id hc
  unfold v_L_about_12 at hv
  refine lv_astore_n (lv' := [(3, .ref as0)]) hx hb d_L_about_12 rfl hl (by decide) rfl (fun ls hl => ?_)
  refine lv_iconst (v := (1 : Int32)) hx hb d_L_about_13 (by decide) ?_
  refine W.widen (k := 1) (n := 6) (Nat.le_of_ble_eq_true rfl) (Nat.le_of_ble_eq_true rfl) ?_
  exact W.iret (v := (1 : Int32)) hx hb hr (fun t ht hW => ⟨⟨_, (f8), rfl, hv, ⟨by rw [ht]; exact hP, va_K.moved hW.alike hK, hD⟩⟩, hS.F ht⟩) hS.2.2 d_L_about_14
set_option maxHeartbeats 4000000 in
set_option maxRecDepth 100000 in
theorem b_L_about_7 {h0 : Nat} {a0_0 : Nat} {a0_3 : Nat} {a0_5 : Nat} {a0_6 : Nat} {h1 : Nat} {a1_2 : Nat} {a1_3 : Nat} {h2 : Nat} {cA2 : ClassId} {ad2 : Nat → Nat} {h3 : Nat} {a3_4 : Nat} {h8 : Nat} {cA8 : ClassId} {I0 : Nat → Int32} {I1 : Nat → Int32} {I3 : Nat → Int32} {J3 : Nat → Int64} {I4 : Nat → Int32} {I5 : Nat → Int32} {I6 : Nat → Int32} {I7 : Nat → Int32} {n8 : Nat} {f8 : Nat → Int64} {s1 : Int32} {s2 : Int32}  {Z : Int32 → (Nat → Int64) → Prop} {H : Heap} {locs : List Loc} {ls : Array Slot} (hc : zC p s m args meth c method_5_code (some .int) 4 "NumberDressLaw") (hA : ∀ q : Nat, s.heap.size ≤ q → A q) (hE : zE gE A s) (hlt : l.stackTraces = false) (htb : c.exceptionTable.toList.map zHt = [(0, 9, 12, 13)]) (hl : lv_has ls 4 []) (hK : va_K (dC, dI) zCl [(cA2, .object "NumberDress$Section"), (cA8, .long)] s) (hP : va_P (dC, dI) zCl [(h0, .inr (0, o_ND I0 a0_0 h1 a0_3 h3 a0_5 a0_6)), (h1, .inr (1, o_Code I1 h2 a1_2 a1_3)), (h2, .inl (cA2, 4, .inr (.inr (.inr (.inr (zra ad2 4)))))), (h3, .inr (11, o_Value I3 J3 a3_4)), ((ad2 0), .inr (9, o_Section I4)), ((ad2 1), .inr (9, o_Section I5)), ((ad2 2), .inr (9, o_Section I6)), ((ad2 3), .inr (9, o_Section I7)), (h8, .inl (cA8, n8, .inr (.inl f8)))] H) (hD : va_D A [(h0, .inr (0, o_ND I0 a0_0 h1 a0_3 h3 a0_5 a0_6)), (h1, .inr (1, o_Code I1 h2 a1_2 a1_3)), (h2, .inl (cA2, 4, .inr (.inr (.inr (.inr (zra ad2 4)))))), (h3, .inr (11, o_Value I3 J3 a3_4)), ((ad2 0), .inr (9, o_Section I4)), ((ad2 1), .inr (9, o_Section I5)), ((ad2 2), .inr (9, o_Section I6)), ((ad2 3), .inr (9, o_Section I7)), (h8, .inl (cA8, n8, .inr (.inl f8)))]) (hS : va_S A s.heap H locs) (hv : v_L_about_7 I0 I1 I3 J3 I4 I5 I6 I7 n8 f8 s1 s2  Z) : W p l e (headSpec (Cond.codeWith (⟨"NumberDressLaw", "about", "(LNumberDress;I[J)I"⟩ : MethodName) method_5_code 4 (some .int) [(0, 9, 12, 13)] :: zT) { frames := 7, cells := 1, slots := 6, locals := 104 }).room s m args below meth c H locs 0 0 (MQ below (va_Qi Z (zB (dC, dI) zCl [(cA2, .object "NumberDress$Section"), (cA8, .long)] A (fun u : (Nat → Int64) => [(h0, .inr (0, o_ND I0 a0_0 h1 a0_3 h3 a0_5 a0_6)), (h1, .inr (1, o_Code I1 h2 a1_2 a1_3)), (h2, .inl (cA2, 4, .inr (.inr (.inr (.inr (zra ad2 4)))))), (h3, .inr (11, o_Value I3 J3 a3_4)), ((ad2 0), .inr (9, o_Section I4)), ((ad2 1), .inr (9, o_Section I5)), ((ad2 2), .inr (9, o_Section I6)), ((ad2 3), .inr (9, o_Section I7)), (h8, .inl (cA8, n8, .inr (.inl u)))])) A) args s 1 6 A) (F0 m 7 ls [.int s2, .int s1, .ref h8]) := by
  obtain ⟨hx, hb, hr, hml, hown, ht, hlocks⟩ := id hc
  unfold v_L_about_7 at hv
  refine lv_i2l (v := s2.toInt64) hx hb d_L_about_7 rfl ?_
  obtain ⟨q_1, hv⟩ := hv
  refine va_last hx hb hK hP hD hS 8 1 rfl rfl q_1 d_L_about_8 (fun H locs hP hD hS => ?_)
  have hP : va_P (dC, dI) zCl [(h0, .inr (0, o_ND I0 a0_0 h1 a0_3 h3 a0_5 a0_6)), (h1, .inr (1, o_Code I1 h2 a1_2 a1_3)), (h2, .inl (cA2, 4, .inr (.inr (.inr (.inr (zra ad2 4)))))), (h3, .inr (11, o_Value I3 J3 a3_4)), ((ad2 0), .inr (9, o_Section I4)), ((ad2 1), .inr (9, o_Section I5)), ((ad2 2), .inr (9, o_Section I6)), ((ad2 3), .inr (9, o_Section I7)), (h8, .inl (cA8, n8, .inr (.inl (vp_updL f8 s1.toNatClampNeg s2.toInt64))))] H := hP
  have hD : va_D A [(h0, .inr (0, o_ND I0 a0_0 h1 a0_3 h3 a0_5 a0_6)), (h1, .inr (1, o_Code I1 h2 a1_2 a1_3)), (h2, .inl (cA2, 4, .inr (.inr (.inr (.inr (zra ad2 4)))))), (h3, .inr (11, o_Value I3 J3 a3_4)), ((ad2 0), .inr (9, o_Section I4)), ((ad2 1), .inr (9, o_Section I5)), ((ad2 2), .inr (9, o_Section I6)), ((ad2 3), .inr (9, o_Section I7)), (h8, .inl (cA8, n8, .inr (.inl (vp_updL f8 s1.toNatClampNeg s2.toInt64))))] := hD
  refine lv_goto (tgt := 15) hx hb d_L_about_9 (by decide) ?_
  refine lv_iconst (v := (0 : Int32)) hx hb d_L_about_15 (by decide) ?_
  refine W.widen (k := 1) (n := 6) (Nat.le_of_ble_eq_true rfl) (Nat.le_of_ble_eq_true rfl) ?_
  exact W.iret (v := (0 : Int32)) hx hb hr (fun t ht hW => ⟨⟨_, ((vp_updL f8 s1.toNatClampNeg s2.toInt64)), rfl, hv, ⟨by rw [ht]; exact hP, va_K.moved hW.alike hK, hD⟩⟩, hS.F ht⟩) hS.2.2 d_L_about_16
set_option maxHeartbeats 4000000 in
set_option maxRecDepth 100000 in
theorem b_L_about_0 {h0 : Nat} {a0_0 : Nat} {a0_3 : Nat} {a0_5 : Nat} {a0_6 : Nat} {h1 : Nat} {a1_2 : Nat} {a1_3 : Nat} {h2 : Nat} {cA2 : ClassId} {ad2 : Nat → Nat} {h3 : Nat} {a3_4 : Nat} {h8 : Nat} {cA8 : ClassId} {I0 : Nat → Int32} {I1 : Nat → Int32} {I3 : Nat → Int32} {J3 : Nat → Int64} {I4 : Nat → Int32} {I5 : Nat → Int32} {I6 : Nat → Int32} {I7 : Nat → Int32} {n8 : Nat} {f8 : Nat → Int64} {x1 : Int32}  {Z : Int32 → (Nat → Int64) → Prop} {H : Heap} {locs : List Loc} {ls : Array Slot} (hc : zC p s m args meth c method_5_code (some .int) 4 "NumberDressLaw") (hA : ∀ q : Nat, s.heap.size ≤ q → A q) (hE : zE gE A s) (hlt : l.stackTraces = false) (htb : c.exceptionTable.toList.map zHt = [(0, 9, 12, 13)]) (hl : lv_has ls 4 [(0, .ref h0), (1, .int x1), (2, .ref h8)]) (hK : va_K (dC, dI) zCl [(cA2, .object "NumberDress$Section"), (cA8, .long)] s) (hP : va_P (dC, dI) zCl [(h0, .inr (0, o_ND I0 a0_0 h1 a0_3 h3 a0_5 a0_6)), (h1, .inr (1, o_Code I1 h2 a1_2 a1_3)), (h2, .inl (cA2, 4, .inr (.inr (.inr (.inr (zra ad2 4)))))), (h3, .inr (11, o_Value I3 J3 a3_4)), ((ad2 0), .inr (9, o_Section I4)), ((ad2 1), .inr (9, o_Section I5)), ((ad2 2), .inr (9, o_Section I6)), ((ad2 3), .inr (9, o_Section I7)), (h8, .inl (cA8, n8, .inr (.inl f8)))] H) (hD : va_D A [(h0, .inr (0, o_ND I0 a0_0 h1 a0_3 h3 a0_5 a0_6)), (h1, .inr (1, o_Code I1 h2 a1_2 a1_3)), (h2, .inl (cA2, 4, .inr (.inr (.inr (.inr (zra ad2 4)))))), (h3, .inr (11, o_Value I3 J3 a3_4)), ((ad2 0), .inr (9, o_Section I4)), ((ad2 1), .inr (9, o_Section I5)), ((ad2 2), .inr (9, o_Section I6)), ((ad2 3), .inr (9, o_Section I7)), (h8, .inl (cA8, n8, .inr (.inl f8)))]) (hS : va_S A s.heap H locs) (hv : v_L_about_0 I0 I1 I3 J3 I4 I5 I6 I7 n8 f8 x1  Z) : W p l e (headSpec (Cond.codeWith (⟨"NumberDressLaw", "about", "(LNumberDress;I[J)I"⟩ : MethodName) method_5_code 4 (some .int) [(0, 9, 12, 13)] :: zT) { frames := 7, cells := 1, slots := 6, locals := 104 }).room s m args below meth c H locs 0 0 (MQ below (va_Qi Z (zB (dC, dI) zCl [(cA2, .object "NumberDress$Section"), (cA8, .long)] A (fun u : (Nat → Int64) => [(h0, .inr (0, o_ND I0 a0_0 h1 a0_3 h3 a0_5 a0_6)), (h1, .inr (1, o_Code I1 h2 a1_2 a1_3)), (h2, .inl (cA2, 4, .inr (.inr (.inr (.inr (zra ad2 4)))))), (h3, .inr (11, o_Value I3 J3 a3_4)), ((ad2 0), .inr (9, o_Section I4)), ((ad2 1), .inr (9, o_Section I5)), ((ad2 2), .inr (9, o_Section I6)), ((ad2 3), .inr (9, o_Section I7)), (h8, .inl (cA8, n8, .inr (.inl u)))])) A) args s 1 6 A) (F0 m 0 ls []) := by
  obtain ⟨hx, hb, hr, hml, hown, ht, hlocks⟩ := id hc
  unfold v_L_about_0 at hv
  refine lv_aload_n hx hb d_L_about_0 rfl (lv_at hl 2 rfl) ?_
  refine lv_iconst (v := (0 : Int32)) hx hb d_L_about_1 (by decide) ?_
  refine lv_aload_n hx hb d_L_about_2 rfl (lv_at hl 0 rfl) ?_
  refine lv_iload_n hx hb d_L_about_3 rfl (lv_at hl 1 rfl) ?_
  rcases hv with hv | hv
  · skip
    refine z_calli (wc := [(h0, .inr (0, o_ND I0 a0_0 h1 a0_3 h3 a0_5 a0_6)), (h1, .inr (1, o_Code I1 h2 a1_2 a1_3)), (h2, .inl (cA2, 4, .inr (.inr (.inr (.inr (zra ad2 4)))))), (h3, .inr (11, o_Value I3 J3 a3_4)), ((ad2 0), .inr (9, o_Section I4)), ((ad2 1), .inr (9, o_Section I5)), ((ad2 2), .inr (9, o_Section I6)), ((ad2 3), .inr (9, o_Section I7))]) (wr := [(h8, .inl (cA8, n8, .inr (.inl f8)))]) [0, 1, 2, 3, 4, 5, 6, 7] [8] (va_runV (As := [.int x1]) (rest := [.int (0 : Int32), .ref h8]) ⟨hx, hb, hml, hown, ht⟩ (m_ND_about l dC dI hv) ⟨(callB_of 1 ht (zG_in zi_ND_about) rfl rfl rfl (ht _ zw_110) (ht _ zw_1248) zh_ND_about ⟨Nat.le_of_ble_eq_true rfl, Nat.le_of_ble_eq_true rfl⟩), (ht _ zw_1249), (ht _ zw_1250)⟩ ⟨zPc_blind, va_recv hK hP (ci := 0) (q0 := 0) rfl rfl, zPc_pre hP hK hD hS hA hE [0, 1, 2, 3, 4, 5, 6, 7] [0] rfl rfl (by decide) rfl⟩ rfl rfl hl.1 rfl (lv_room (Nat.le_of_ble_eq_true rfl)) d_L_about_4 ⟨Nat.le_of_ble_eq_true rfl, Nat.le_of_ble_eq_true rfl⟩) hP hD hS hA rfl rfl (by decide) (by decide) (fun r u H locs hv hP hD hS => ?_)
    have hP : va_P (dC, dI) zCl [(h0, .inr (0, o_ND I0 a0_0 h1 a0_3 h3 a0_5 a0_6)), (h1, .inr (1, o_Code I1 h2 a1_2 a1_3)), (h2, .inl (cA2, 4, .inr (.inr (.inr (.inr (zra ad2 4)))))), (h3, .inr (11, o_Value I3 J3 a3_4)), ((ad2 0), .inr (9, o_Section I4)), ((ad2 1), .inr (9, o_Section I5)), ((ad2 2), .inr (9, o_Section I6)), ((ad2 3), .inr (9, o_Section I7)), (h8, .inl (cA8, n8, .inr (.inl f8)))] H := hP.sub [1, 2, 3, 4, 5, 6, 7, 8, 0] rfl
    have hD : va_D A [(h0, .inr (0, o_ND I0 a0_0 h1 a0_3 h3 a0_5 a0_6)), (h1, .inr (1, o_Code I1 h2 a1_2 a1_3)), (h2, .inl (cA2, 4, .inr (.inr (.inr (.inr (zra ad2 4)))))), (h3, .inr (11, o_Value I3 J3 a3_4)), ((ad2 0), .inr (9, o_Section I4)), ((ad2 1), .inr (9, o_Section I5)), ((ad2 2), .inr (9, o_Section I6)), ((ad2 3), .inr (9, o_Section I7)), (h8, .inl (cA8, n8, .inr (.inl f8)))] := hD.sub [1, 2, 3, 4, 5, 6, 7, 8, 0] (by decide) rfl
    exact b_L_about_7 hc hA hE hlt htb  (lv_sub hl [] rfl) hK hP hD hS hv
  · obtain ⟨hv, hz⟩ := hv
    obtain ⟨e1, etab, r1⟩ := z_tab1 htb
    obtain ⟨p1, p2, p3, p4⟩ := z_row r1
    refine z_wcatch1 (As := [.int x1]) (rest := [.int (0 : Int32), .ref h8]) ⟨hx, hb, hml, hown, ht⟩ ⟨m_ND_aboutT1 l hlt dC dI hv, (callB_of 1 ht (zG_in zi_ND_about) rfl rfl rfl (ht _ zw_110) (ht _ zw_1248) zh_ND_about ⟨Nat.le_of_ble_eq_true rfl, Nat.le_of_ble_eq_true rfl⟩), (ht _ zw_1249), (ht _ zw_1250), fun a U hW => word_at hW (Or.inl rfl) (ht _ zw_110), zPc_blind, va_recv hK hP (ci := 0) (q0 := 0) rfl rfl, zPc_pre hP hK hD hS hA hE [0, 1, 2, 3, 4, 5, 6, 7] [0] rfl rfl (by decide) rfl⟩ hl.1 (Nat.le_of_ble_eq_true rfl) d_L_about_4 ⟨Nat.le_of_ble_eq_true rfl, Nat.le_of_ble_eq_true rfl⟩ etab (z_cov p1 p2 (by decide)) (by rw [p4]; decide) (by rw [p4]; exact (ht _ zw_1142)) p3 hP hS (fun x9 H hP hS => ?_)
    have hv := hz
    exact b_L_about_12 hc hA hE hlt htb  (lv_sub hl [] rfl) hK hP hD hS hv
theorem zh_L_about : (((⟨"NumberDressLaw", "about", "(LNumberDress;I[J)I"⟩ : MethodName)).cls ≠ "java/lang/invoke/MethodHandle" ∧ ((⟨"NumberDressLaw", "about", "(LNumberDress;I[J)I"⟩ : MethodName)).cls ≠ "java/lang/invoke/VarHandle" ∧ (parseMethodDescriptor ((⟨"NumberDressLaw", "about", "(LNumberDress;I[J)I"⟩ : MethodName)).desc).map (fun d => d.parameters.length) = some 3) := by decide +kernel
theorem zi_L_about : Cond.codeWith (⟨"NumberDressLaw", "about", "(LNumberDress;I[J)I"⟩ : MethodName) method_5_code 4 (some .int) [(0, 9, 12, 13)] ∈ zT := zw_1247
set_option maxHeartbeats 4000000 in
set_option maxRecDepth 100000 in
theorem m_L_about (l : Launch) (hlt : l.stackTraces = false) (dC : Nat → ClassId) (dI : Nat → Nat → Nat) {gE : zG} {h0 : Nat} {a0_0 : Nat} {a0_3 : Nat} {a0_5 : Nat} {a0_6 : Nat} {h1 : Nat} {a1_2 : Nat} {a1_3 : Nat} {h2 : Nat} {cA2 : ClassId} {ad2 : Nat → Nat} {h3 : Nat} {a3_4 : Nat} {h8 : Nat} {cA8 : ClassId} {I0 : Nat → Int32} {I1 : Nat → Int32} {I3 : Nat → Int32} {J3 : Nat → Int64} {I4 : Nat → Int32} {I5 : Nat → Int32} {I6 : Nat → Int32} {I7 : Nat → Int32} {n8 : Nat} {f8 : Nat → Int64} {x1 : Int32} {sz : Nat} {Z : Int32 → (Nat → Int64) → Prop} (hv : v_L_about_0 I0 I1 I3 J3 I4 I5 I6 I7 n8 f8 x1 Z) : Met l (⟨"NumberDressLaw", "about", "(LNumberDress;I[J)I"⟩ : MethodName) (Cond.codeWith (⟨"NumberDressLaw", "about", "(LNumberDress;I[J)I"⟩ : MethodName) method_5_code 4 (some .int) [(0, 9, 12, 13)] :: zT) { frames := 7, cells := 1, slots := 6, locals := 104 } (zPc gE (dC, dI) zCl [(cA2, .object "NumberDress$Section"), (cA8, .long)] [.ref h0, .int x1, .ref h8] sz [(h0, .inr (0, o_ND I0 a0_0 h1 a0_3 h3 a0_5 a0_6)), (h1, .inr (1, o_Code I1 h2 a1_2 a1_3)), (h2, .inl (cA2, 4, .inr (.inr (.inr (.inr (zra ad2 4)))))), (h3, .inr (11, o_Value I3 J3 a3_4)), ((ad2 0), .inr (9, o_Section I4)), ((ad2 1), .inr (9, o_Section I5)), ((ad2 2), .inr (9, o_Section I6)), ((ad2 3), .inr (9, o_Section I7)), (h8, .inl (cA8, n8, .inr (.inl f8)))]) (va_Qi Z (zB (dC, dI) zCl [(cA2, .object "NumberDress$Section"), (cA8, .long)] (va_A [(h0, .inr (0, o_ND I0 a0_0 h1 a0_3 h3 a0_5 a0_6)), (h1, .inr (1, o_Code I1 h2 a1_2 a1_3)), (h2, .inl (cA2, 4, .inr (.inr (.inr (.inr (zra ad2 4)))))), (h3, .inr (11, o_Value I3 J3 a3_4)), ((ad2 0), .inr (9, o_Section I4)), ((ad2 1), .inr (9, o_Section I5)), ((ad2 2), .inr (9, o_Section I6)), ((ad2 3), .inr (9, o_Section I7)), (h8, .inl (cA8, n8, .inr (.inl f8)))] sz) (fun u : (Nat → Int64) => [(h0, .inr (0, o_ND I0 a0_0 h1 a0_3 h3 a0_5 a0_6)), (h1, .inr (1, o_Code I1 h2 a1_2 a1_3)), (h2, .inl (cA2, 4, .inr (.inr (.inr (.inr (zra ad2 4)))))), (h3, .inr (11, o_Value I3 J3 a3_4)), ((ad2 0), .inr (9, o_Section I4)), ((ad2 1), .inr (9, o_Section I5)), ((ad2 2), .inr (9, o_Section I6)), ((ad2 3), .inr (9, o_Section I7)), (h8, .inl (cA8, n8, .inr (.inl u)))])) (va_A [(h0, .inr (0, o_ND I0 a0_0 h1 a0_3 h3 a0_5 a0_6)), (h1, .inr (1, o_Code I1 h2 a1_2 a1_3)), (h2, .inl (cA2, 4, .inr (.inr (.inr (.inr (zra ad2 4)))))), (h3, .inr (11, o_Value I3 J3 a3_4)), ((ad2 0), .inr (9, o_Section I4)), ((ad2 1), .inr (9, o_Section I5)), ((ad2 2), .inr (9, o_Section I6)), ((ad2 3), .inr (9, o_Section I7)), (h8, .inl (cA8, n8, .inr (.inl f8)))] sz)) 1 6 (va_A [(h0, .inr (0, o_ND I0 a0_0 h1 a0_3 h3 a0_5 a0_6)), (h1, .inr (1, o_Code I1 h2 a1_2 a1_3)), (h2, .inl (cA2, 4, .inr (.inr (.inr (.inr (zra ad2 4)))))), (h3, .inr (11, o_Value I3 J3 a3_4)), ((ad2 0), .inr (9, o_Section I4)), ((ad2 1), .inr (9, o_Section I5)), ((ad2 2), .inr (9, o_Section I6)), ((ad2 3), .inr (9, o_Section I7)), (h8, .inl (cA8, n8, .inr (.inl f8)))] sz) := by
  refine va_MetW (cc := method_5_code) (maxL := 4) (ret := (some .int)) (hh := [(0, 9, 12, 13)]) (by decide +kernel) rfl ?_
  intro p e s m args below meth c s₁ B hml hp
  obtain ⟨rfl, hsz, hP, hK, hD0, hE⟩ := hp
  have hts := atoms_spec (ws := (Cond.codeWith (⟨"NumberDressLaw", "about", "(LNumberDress;I[J)I"⟩ : MethodName) method_5_code 4 (some .int) [(0, 9, 12, 13)] :: zT)) B.pre
  obtain ⟨m9, meth9, c9, en1, en2, en3, -, -, htb, -⟩ := Cond.codeWith_spec (hts _ List.mem_cons_self)
  cases en1.symm.trans B.named
  have em : meth9 = meth := Option.some.inj (en2.symm.trans B.method)
  subst em
  have ec : c9 = c := Option.some.inj (en3.symm.trans (Stand.of_body B).code)
  subst ec
  have hown : s.vm.findClass "NumberDressLaw" = some m.cls := findClass_of_methodNamed B.named
  have hc : zC p s m _ meth9 c9 method_5_code (some .int) 4 "NumberDressLaw" := ⟨B.exec, B.bytes, B.returns, hml, hown, fun w h => hts w (List.mem_cons_of_mem _ h), B.notSynchronized⟩
  subst hsz
  have hD := hD0.self (sz := s.heap.size)
  generalize hAe : va_A [(h0, .inr (0, o_ND I0 a0_0 h1 a0_3 h3 a0_5 a0_6)), (h1, .inr (1, o_Code I1 h2 a1_2 a1_3)), (h2, .inl (cA2, 4, .inr (.inr (.inr (.inr (zra ad2 4)))))), (h3, .inr (11, o_Value I3 J3 a3_4)), ((ad2 0), .inr (9, o_Section I4)), ((ad2 1), .inr (9, o_Section I5)), ((ad2 2), .inr (9, o_Section I6)), ((ad2 3), .inr (9, o_Section I7)), (h8, .inl (cA8, n8, .inr (.inl f8)))] s.heap.size = A at hD hE ⊢
  have hA : ∀ q : Nat, s.heap.size ≤ q → A q := fun q h => by rw [← hAe]; exact Or.inr h
  have hl := lv_entry ([.ref h0, .int x1, .ref h8]) (n := 4) (Nat.le_of_ble_eq_true rfl)
  rw [lg_entry_eq]
  exact b_L_about_0 hc hA hE hlt htb hl hK hP hD va_S.rf hv
end
