section
variable {p : Program} {l : Launch} {e : Env} {s : State} {m : MethodId} {args : Array Value} {below : List Frame} {meth : Method} {c : Code} {dC : Nat → ClassId} {dI : Nat → Nat → Nat} {A : Nat → Prop} {gE : zG}
theorem d_Reader_readSign_0 : decode prog_9_method_13_code 0 = .ok (.aload_n 0, 1) := by decide +kernel
theorem d_Reader_readSign_1 : decode prog_9_method_13_code 1 = .ok (.iload_n 1, 1) := by decide +kernel
theorem d_Reader_readSign_2 : decode prog_9_method_13_code 2 = .ok (.invokevirtual 86, 3) := by decide +kernel
theorem d_Reader_readSign_5 : decode prog_9_method_13_code 5 = .ok (.istore_n 2, 1) := by decide +kernel
theorem d_Reader_readSign_6 : decode prog_9_method_13_code 6 = .ok (.iload_n 2, 1) := by decide +kernel
theorem d_Reader_readSign_7 : decode prog_9_method_13_code 7 = .ok (.bipush 46, 2) := by decide +kernel
theorem d_Reader_readSign_9 : decode prog_9_method_13_code 9 = .ok (.if_icmp .eq 21, 3) := by decide +kernel
theorem d_Reader_readSign_12 : decode prog_9_method_13_code 12 = .ok (.iload_n 2, 1) := by decide +kernel
theorem d_Reader_readSign_13 : decode prog_9_method_13_code 13 = .ok (.bipush 44, 2) := by decide +kernel
theorem d_Reader_readSign_15 : decode prog_9_method_13_code 15 = .ok (.if_icmp .eq 15, 3) := by decide +kernel
theorem d_Reader_readSign_18 : decode prog_9_method_13_code 18 = .ok (.iload_n 2, 1) := by decide +kernel
theorem d_Reader_readSign_19 : decode prog_9_method_13_code 19 = .ok (.bipush 47, 2) := by decide +kernel
theorem d_Reader_readSign_21 : decode prog_9_method_13_code 21 = .ok (.if_icmp .eq 9, 3) := by decide +kernel
theorem d_Reader_readSign_24 : decode prog_9_method_13_code 24 = .ok (.iload_n 2, 1) := by decide +kernel
theorem d_Reader_readSign_25 : decode prog_9_method_13_code 25 = .ok (.bipush 37, 2) := by decide +kernel
theorem d_Reader_readSign_27 : decode prog_9_method_13_code 27 = .ok (.if_icmp .ne 7, 3) := by decide +kernel
theorem d_Reader_readSign_30 : decode prog_9_method_13_code 30 = .ok (.iconst 1, 1) := by decide +kernel
theorem d_Reader_readSign_31 : decode prog_9_method_13_code 31 = .ok (.goto 4, 3) := by decide +kernel
theorem d_Reader_readSign_34 : decode prog_9_method_13_code 34 = .ok (.iconst 0, 1) := by decide +kernel
theorem d_Reader_readSign_35 : decode prog_9_method_13_code 35 = .ok (.istore_n 3, 1) := by decide +kernel
theorem d_Reader_readSign_36 : decode prog_9_method_13_code 36 = .ok (.iload_n 3, 1) := by decide +kernel
theorem d_Reader_readSign_37 : decode prog_9_method_13_code 37 = .ok (.ifCond .eq 12, 3) := by decide +kernel
theorem d_Reader_readSign_40 : decode prog_9_method_13_code 40 = .ok (.aload_n 0, 1) := by decide +kernel
theorem d_Reader_readSign_41 : decode prog_9_method_13_code 41 = .ok (.iconst 1, 1) := by decide +kernel
theorem d_Reader_readSign_42 : decode prog_9_method_13_code 42 = .ok (.iload_n 2, 1) := by decide +kernel
theorem d_Reader_readSign_43 : decode prog_9_method_13_code 43 = .ok (.invokevirtual 124, 3) := by decide +kernel
theorem d_Reader_readSign_46 : decode prog_9_method_13_code 46 = .ok (.goto 4, 3) := by decide +kernel
theorem d_Reader_readSign_49 : decode prog_9_method_13_code 49 = .ok (.iconst 0, 1) := by decide +kernel
theorem d_Reader_readSign_50 : decode prog_9_method_13_code 50 = .ok (.ireturn, 1) := by decide +kernel
def v_Reader_readSign_46 (I0 : Nat → Int32) (n1 : Nat) (f1 : Nat → Int32) (I2 : Nat → Int32) (n3 : Nat) (f3 : Nat → Int32) (n4 : Nat) (f4 : Nat → Int32) (s0 : Int32)  (Z : Int32 → (Nat → Int32) × (Nat → Int32) × (Nat → Int32) → Prop) : Prop :=
  (Z s0 (I2, f3, f4))
def v_Reader_readSign_35 (I0 : Nat → Int32) (n1 : Nat) (f1 : Nat → Int32) (I2 : Nat → Int32) (n3 : Nat) (f3 : Nat → Int32) (n4 : Nat) (f4 : Nat → Int32) (x2 : Int32) (s0 : Int32)  (Z : Int32 → (Nat → Int32) × (Nat → Int32) × (Nat → Int32) → Prop) : Prop :=
  ((s0 = 0 → (Z (0 : Int32) (I2, f3, f4))) ∧ (¬ s0 = 0 → (v_Reader_addOne_0 I0 I2 n3 f3 n4 f4 (1 : Int32) x2 (fun r u => (v_Reader_readSign_46 I0 n1 f1 u.1 n3 u.2.1 n4 u.2.2 r  Z)))))
def v_Reader_readSign_30 (I0 : Nat → Int32) (n1 : Nat) (f1 : Nat → Int32) (I2 : Nat → Int32) (n3 : Nat) (f3 : Nat → Int32) (n4 : Nat) (f4 : Nat → Int32) (x2 : Int32)  (Z : Int32 → (Nat → Int32) × (Nat → Int32) × (Nat → Int32) → Prop) : Prop :=
  (v_Reader_readSign_35 I0 n1 f1 I2 n3 f3 n4 f4 x2 (1 : Int32)  Z)
def v_Reader_readSign_5 (I0 : Nat → Int32) (n1 : Nat) (f1 : Nat → Int32) (I2 : Nat → Int32) (n3 : Nat) (f3 : Nat → Int32) (n4 : Nat) (f4 : Nat → Int32) (s0 : Int32)  (Z : Int32 → (Nat → Int32) × (Nat → Int32) × (Nat → Int32) → Prop) : Prop :=
  ((s0 = (46 : Int32) → (v_Reader_readSign_30 I0 n1 f1 I2 n3 f3 n4 f4 s0  Z)) ∧ (¬ s0 = (46 : Int32) → ((s0 = (44 : Int32) → (v_Reader_readSign_30 I0 n1 f1 I2 n3 f3 n4 f4 s0  Z)) ∧ (¬ s0 = (44 : Int32) → ((s0 = (47 : Int32) → (v_Reader_readSign_30 I0 n1 f1 I2 n3 f3 n4 f4 s0  Z)) ∧ (¬ s0 = (47 : Int32) → ((¬ s0 = (37 : Int32) → (v_Reader_readSign_35 I0 n1 f1 I2 n3 f3 n4 f4 s0 (0 : Int32)  Z)) ∧ (s0 = (37 : Int32) → (v_Reader_readSign_30 I0 n1 f1 I2 n3 f3 n4 f4 s0  Z)))))))))
def v_Reader_readSign_0 (I0 : Nat → Int32) (n1 : Nat) (f1 : Nat → Int32) (I2 : Nat → Int32) (n3 : Nat) (f3 : Nat → Int32) (n4 : Nat) (f4 : Nat → Int32) (x1 : Int32)  (Z : Int32 → (Nat → Int32) × (Nat → Int32) × (Nat → Int32) → Prop) : Prop :=
  (v_Reader_sign_0 I0 n1 f1 x1 (fun r u => (v_Reader_readSign_5 I0 n1 f1 I2 n3 f3 n4 f4 r  Z)))
set_option maxHeartbeats 4000000 in
set_option maxRecDepth 100000 in
theorem b_Reader_readSign_46 {h0 : Nat} {a0_3 : Nat} {h1 : Nat} {cA1 : ClassId} {h2 : Nat} {a2_0 : Nat} {h3 : Nat} {cA3 : ClassId} {h4 : Nat} {cA4 : ClassId} {I0 : Nat → Int32} {n1 : Nat} {f1 : Nat → Int32} {I2 : Nat → Int32} {n3 : Nat} {f3 : Nat → Int32} {n4 : Nat} {f4 : Nat → Int32} {s0 : Int32}  {Z : Int32 → (Nat → Int32) × (Nat → Int32) × (Nat → Int32) → Prop} {H : Heap} {locs : List Loc} {ls : Array Slot} (hc : zC p s m args meth c prog_9_method_13_code (some .int) 4 "NumberDress$Reader") (hA : ∀ q : Nat, s.heap.size ≤ q → A q) (hE : zE gE A s) (hl : lv_has ls 4 []) (hK : va_K (dC, dI) zCl [(cA1, .char), (cA3, .int), (cA4, .int)] s) (hP : va_P (dC, dI) zCl [(h0, .inr (8, o_Reader I0 h1 h2 a0_3)), (h1, .inl (cA1, n1, .inl f1)), (h2, .inr (1, o_Code I2 a2_0 h3 h4)), (h3, .inl (cA3, n3, .inl f3)), (h4, .inl (cA4, n4, .inl f4))] H) (hD : va_D A [(h0, .inr (8, o_Reader I0 h1 h2 a0_3)), (h1, .inl (cA1, n1, .inl f1)), (h2, .inr (1, o_Code I2 a2_0 h3 h4)), (h3, .inl (cA3, n3, .inl f3)), (h4, .inl (cA4, n4, .inl f4))]) (hS : va_S A s.heap H locs) (hv : v_Reader_readSign_46 I0 n1 f1 I2 n3 f3 n4 f4 s0  Z) : W p l e (headSpec (Cond.code (⟨"NumberDress$Reader", "readSign", "(I)I"⟩ : MethodName) prog_9_method_13_code 4 (some .int) :: zT) { frames := 2, cells := 0, slots := 0, locals := 44 }).room s m args below meth c H locs 0 0 (MQ below (va_Qi Z (zB (dC, dI) zCl [(cA1, .char), (cA3, .int), (cA4, .int)] A (fun u : (Nat → Int32) × (Nat → Int32) × (Nat → Int32) => [(h0, .inr (8, o_Reader I0 h1 h2 a0_3)), (h1, .inl (cA1, n1, .inl f1)), (h2, .inr (1, o_Code u.1 a2_0 h3 h4)), (h3, .inl (cA3, n3, .inl u.2.1)), (h4, .inl (cA4, n4, .inl u.2.2))])) A) args s 0 0 A) (F0 m 46 ls [.int s0]) := by
  obtain ⟨hx, hb, hr, hml, hown, ht, hlocks⟩ := id hc
  unfold v_Reader_readSign_46 at hv
  refine lv_goto (tgt := 50) hx hb d_Reader_readSign_46 (by decide) ?_
  exact W.iret (v := s0) hx hb hr (fun t ht hW => ⟨⟨_, (I2, f3, f4), rfl, hv, ⟨by rw [ht]; exact hP, va_K.moved hW.alike hK, hD⟩⟩, hS.F ht⟩) hS.2.2 d_Reader_readSign_50
set_option maxHeartbeats 4000000 in
set_option maxRecDepth 100000 in
theorem b_Reader_readSign_35 {h0 : Nat} {a0_3 : Nat} {h1 : Nat} {cA1 : ClassId} {h2 : Nat} {a2_0 : Nat} {h3 : Nat} {cA3 : ClassId} {h4 : Nat} {cA4 : ClassId} {I0 : Nat → Int32} {n1 : Nat} {f1 : Nat → Int32} {I2 : Nat → Int32} {n3 : Nat} {f3 : Nat → Int32} {n4 : Nat} {f4 : Nat → Int32} {x2 : Int32} {s0 : Int32}  {Z : Int32 → (Nat → Int32) × (Nat → Int32) × (Nat → Int32) → Prop} {H : Heap} {locs : List Loc} {ls : Array Slot} (hc : zC p s m args meth c prog_9_method_13_code (some .int) 4 "NumberDress$Reader") (hA : ∀ q : Nat, s.heap.size ≤ q → A q) (hE : zE gE A s) (hl : lv_has ls 4 [(0, .ref h0), (2, .int x2)]) (hK : va_K (dC, dI) zCl [(cA1, .char), (cA3, .int), (cA4, .int)] s) (hP : va_P (dC, dI) zCl [(h0, .inr (8, o_Reader I0 h1 h2 a0_3)), (h1, .inl (cA1, n1, .inl f1)), (h2, .inr (1, o_Code I2 a2_0 h3 h4)), (h3, .inl (cA3, n3, .inl f3)), (h4, .inl (cA4, n4, .inl f4))] H) (hD : va_D A [(h0, .inr (8, o_Reader I0 h1 h2 a0_3)), (h1, .inl (cA1, n1, .inl f1)), (h2, .inr (1, o_Code I2 a2_0 h3 h4)), (h3, .inl (cA3, n3, .inl f3)), (h4, .inl (cA4, n4, .inl f4))]) (hS : va_S A s.heap H locs) (hv : v_Reader_readSign_35 I0 n1 f1 I2 n3 f3 n4 f4 x2 s0  Z) : W p l e (headSpec (Cond.code (⟨"NumberDress$Reader", "readSign", "(I)I"⟩ : MethodName) prog_9_method_13_code 4 (some .int) :: zT) { frames := 2, cells := 0, slots := 0, locals := 44 }).room s m args below meth c H locs 0 0 (MQ below (va_Qi Z (zB (dC, dI) zCl [(cA1, .char), (cA3, .int), (cA4, .int)] A (fun u : (Nat → Int32) × (Nat → Int32) × (Nat → Int32) => [(h0, .inr (8, o_Reader I0 h1 h2 a0_3)), (h1, .inl (cA1, n1, .inl f1)), (h2, .inr (1, o_Code u.1 a2_0 h3 h4)), (h3, .inl (cA3, n3, .inl u.2.1)), (h4, .inl (cA4, n4, .inl u.2.2))])) A) args s 0 0 A) (F0 m 35 ls [.int s0]) := by
  obtain ⟨hx, hb, hr, hml, hown, ht, hlocks⟩ := id hc
  unfold v_Reader_readSign_35 at hv
  refine lv_istore_n (lv' := [(3, .int s0), (0, .ref h0), (2, .int x2)]) hx hb d_Reader_readSign_35 rfl hl (by decide) rfl (fun ls hl => ?_)
  refine lv_iload_n hx hb d_Reader_readSign_36 rfl (lv_at hl 0 rfl) ?_
  refine lv_if_eq (tgt := 49) hx hb d_Reader_readSign_37 (by decide) (fun c_1 => ?_) (fun c_1 => ?_)
  · have hv := hv.1 c_1
    refine lv_iconst (v := (0 : Int32)) hx hb d_Reader_readSign_49 (by decide) ?_
    exact W.iret (v := (0 : Int32)) hx hb hr (fun t ht hW => ⟨⟨_, (I2, f3, f4), rfl, hv, ⟨by rw [ht]; exact hP, va_K.moved hW.alike hK, hD⟩⟩, hS.F ht⟩) hS.2.2 d_Reader_readSign_50
  · have hv := hv.2 c_1
    refine lv_aload_n hx hb d_Reader_readSign_40 rfl (lv_at hl 1 rfl) ?_
    refine lv_iconst (v := (1 : Int32)) hx hb d_Reader_readSign_41 (by decide) ?_
    refine lv_iload_n hx hb d_Reader_readSign_42 rfl (lv_at hl 2 rfl) ?_
    refine z_calli (wc := [(h0, .inr (8, o_Reader I0 h1 h2 a0_3)), (h2, .inr (1, o_Code I2 a2_0 h3 h4)), (h3, .inl (cA3, n3, .inl f3)), (h4, .inl (cA4, n4, .inl f4))]) (wr := [(h1, .inl (cA1, n1, .inl f1))]) [0, 2, 3, 4] [1] (va_runV (As := [.int (1 : Int32), .int x2]) (rest := []) ⟨hx, hb, hml, hown, ht⟩ (m_Reader_addOne l dC dI hv) ⟨(callB_of 2 ht (zG_in zi_Reader_addOne) rfl rfl rfl (ht _ zw_113) (ht _ zw_722) zh_Reader_addOne ⟨Nat.le_of_ble_eq_true rfl, Nat.le_of_ble_eq_true rfl⟩), (ht _ zw_724), (ht _ zw_17)⟩ ⟨zPc_blind, va_recv hK hP (ci := 8) (q0 := 0) rfl rfl, zPc_pre hP hK hD hS hA hE [0, 2, 3, 4] [1, 2] rfl rfl (by decide) rfl⟩ rfl rfl hl.1 rfl (lv_room (Nat.le_of_ble_eq_true rfl)) d_Reader_readSign_43 ⟨Nat.le_of_ble_eq_true rfl, Nat.le_of_ble_eq_true rfl⟩) hP hD hS hA rfl rfl (by decide) (by decide) (fun r u H locs hv hP hD hS => ?_)
    have hP : va_P (dC, dI) zCl [(h0, .inr (8, o_Reader I0 h1 h2 a0_3)), (h1, .inl (cA1, n1, .inl f1)), (h2, .inr (1, o_Code u.1 a2_0 h3 h4)), (h3, .inl (cA3, n3, .inl u.2.1)), (h4, .inl (cA4, n4, .inl u.2.2))] H := hP.sub [1, 0, 2, 3, 4] rfl
    have hD : va_D A [(h0, .inr (8, o_Reader I0 h1 h2 a0_3)), (h1, .inl (cA1, n1, .inl f1)), (h2, .inr (1, o_Code u.1 a2_0 h3 h4)), (h3, .inl (cA3, n3, .inl u.2.1)), (h4, .inl (cA4, n4, .inl u.2.2))] := hD.sub [1, 0, 2, 3, 4] (by decide) rfl
    exact b_Reader_readSign_46 hc hA hE  (lv_sub hl [] rfl) hK hP hD hS hv
set_option maxHeartbeats 4000000 in
set_option maxRecDepth 100000 in
theorem b_Reader_readSign_30 {h0 : Nat} {a0_3 : Nat} {h1 : Nat} {cA1 : ClassId} {h2 : Nat} {a2_0 : Nat} {h3 : Nat} {cA3 : ClassId} {h4 : Nat} {cA4 : ClassId} {I0 : Nat → Int32} {n1 : Nat} {f1 : Nat → Int32} {I2 : Nat → Int32} {n3 : Nat} {f3 : Nat → Int32} {n4 : Nat} {f4 : Nat → Int32} {x2 : Int32}  {Z : Int32 → (Nat → Int32) × (Nat → Int32) × (Nat → Int32) → Prop} {H : Heap} {locs : List Loc} {ls : Array Slot} (hc : zC p s m args meth c prog_9_method_13_code (some .int) 4 "NumberDress$Reader") (hA : ∀ q : Nat, s.heap.size ≤ q → A q) (hE : zE gE A s) (hl : lv_has ls 4 [(0, .ref h0), (2, .int x2)]) (hK : va_K (dC, dI) zCl [(cA1, .char), (cA3, .int), (cA4, .int)] s) (hP : va_P (dC, dI) zCl [(h0, .inr (8, o_Reader I0 h1 h2 a0_3)), (h1, .inl (cA1, n1, .inl f1)), (h2, .inr (1, o_Code I2 a2_0 h3 h4)), (h3, .inl (cA3, n3, .inl f3)), (h4, .inl (cA4, n4, .inl f4))] H) (hD : va_D A [(h0, .inr (8, o_Reader I0 h1 h2 a0_3)), (h1, .inl (cA1, n1, .inl f1)), (h2, .inr (1, o_Code I2 a2_0 h3 h4)), (h3, .inl (cA3, n3, .inl f3)), (h4, .inl (cA4, n4, .inl f4))]) (hS : va_S A s.heap H locs) (hv : v_Reader_readSign_30 I0 n1 f1 I2 n3 f3 n4 f4 x2  Z) : W p l e (headSpec (Cond.code (⟨"NumberDress$Reader", "readSign", "(I)I"⟩ : MethodName) prog_9_method_13_code 4 (some .int) :: zT) { frames := 2, cells := 0, slots := 0, locals := 44 }).room s m args below meth c H locs 0 0 (MQ below (va_Qi Z (zB (dC, dI) zCl [(cA1, .char), (cA3, .int), (cA4, .int)] A (fun u : (Nat → Int32) × (Nat → Int32) × (Nat → Int32) => [(h0, .inr (8, o_Reader I0 h1 h2 a0_3)), (h1, .inl (cA1, n1, .inl f1)), (h2, .inr (1, o_Code u.1 a2_0 h3 h4)), (h3, .inl (cA3, n3, .inl u.2.1)), (h4, .inl (cA4, n4, .inl u.2.2))])) A) args s 0 0 A) (F0 m 30 ls []) := by
  obtain ⟨hx, hb, hr, hml, hown, ht, hlocks⟩ := id hc
  unfold v_Reader_readSign_30 at hv
  refine lv_iconst (v := (1 : Int32)) hx hb d_Reader_readSign_30 (by decide) ?_
  refine lv_goto (tgt := 35) hx hb d_Reader_readSign_31 (by decide) ?_
  exact b_Reader_readSign_35 hc hA hE  (lv_sub hl [0, 1] rfl) hK hP hD hS hv
set_option maxHeartbeats 4000000 in
set_option maxRecDepth 100000 in
theorem b_Reader_readSign_5 {h0 : Nat} {a0_3 : Nat} {h1 : Nat} {cA1 : ClassId} {h2 : Nat} {a2_0 : Nat} {h3 : Nat} {cA3 : ClassId} {h4 : Nat} {cA4 : ClassId} {I0 : Nat → Int32} {n1 : Nat} {f1 : Nat → Int32} {I2 : Nat → Int32} {n3 : Nat} {f3 : Nat → Int32} {n4 : Nat} {f4 : Nat → Int32} {s0 : Int32}  {Z : Int32 → (Nat → Int32) × (Nat → Int32) × (Nat → Int32) → Prop} {H : Heap} {locs : List Loc} {ls : Array Slot} (hc : zC p s m args meth c prog_9_method_13_code (some .int) 4 "NumberDress$Reader") (hA : ∀ q : Nat, s.heap.size ≤ q → A q) (hE : zE gE A s) (hl : lv_has ls 4 [(0, .ref h0)]) (hK : va_K (dC, dI) zCl [(cA1, .char), (cA3, .int), (cA4, .int)] s) (hP : va_P (dC, dI) zCl [(h0, .inr (8, o_Reader I0 h1 h2 a0_3)), (h1, .inl (cA1, n1, .inl f1)), (h2, .inr (1, o_Code I2 a2_0 h3 h4)), (h3, .inl (cA3, n3, .inl f3)), (h4, .inl (cA4, n4, .inl f4))] H) (hD : va_D A [(h0, .inr (8, o_Reader I0 h1 h2 a0_3)), (h1, .inl (cA1, n1, .inl f1)), (h2, .inr (1, o_Code I2 a2_0 h3 h4)), (h3, .inl (cA3, n3, .inl f3)), (h4, .inl (cA4, n4, .inl f4))]) (hS : va_S A s.heap H locs) (hv : v_Reader_readSign_5 I0 n1 f1 I2 n3 f3 n4 f4 s0  Z) : W p l e (headSpec (Cond.code (⟨"NumberDress$Reader", "readSign", "(I)I"⟩ : MethodName) prog_9_method_13_code 4 (some .int) :: zT) { frames := 2, cells := 0, slots := 0, locals := 44 }).room s m args below meth c H locs 0 0 (MQ below (va_Qi Z (zB (dC, dI) zCl [(cA1, .char), (cA3, .int), (cA4, .int)] A (fun u : (Nat → Int32) × (Nat → Int32) × (Nat → Int32) => [(h0, .inr (8, o_Reader I0 h1 h2 a0_3)), (h1, .inl (cA1, n1, .inl f1)), (h2, .inr (1, o_Code u.1 a2_0 h3 h4)), (h3, .inl (cA3, n3, .inl u.2.1)), (h4, .inl (cA4, n4, .inl u.2.2))])) A) args s 0 0 A) (F0 m 5 ls [.int s0]) := by
  obtain ⟨hx, hb, hr, hml, hown, ht, hlocks⟩ := id hc
  unfold v_Reader_readSign_5 at hv
  refine lv_istore_n (lv' := [(2, .int s0), (0, .ref h0)]) hx hb d_Reader_readSign_5 rfl hl (by decide) rfl (fun ls hl => ?_)
  refine lv_iload_n hx hb d_Reader_readSign_6 rfl (lv_at hl 0 rfl) ?_
  refine lv_bipush (v := (46 : Int32)) hx hb d_Reader_readSign_7 (by decide) ?_
  refine lv_icmp_eq (tgt := 30) hx hb d_Reader_readSign_9 (by decide) (fun c_1 => ?_) (fun c_1 => ?_)
  · have hv := hv.1 c_1
    exact b_Reader_readSign_30 hc hA hE  (lv_sub hl [1, 0] rfl) hK hP hD hS hv
  · have hv := hv.2 c_1
    refine lv_iload_n hx hb d_Reader_readSign_12 rfl (lv_at hl 0 rfl) ?_
    refine lv_bipush (v := (44 : Int32)) hx hb d_Reader_readSign_13 (by decide) ?_
    refine lv_icmp_eq (tgt := 30) hx hb d_Reader_readSign_15 (by decide) (fun c_2 => ?_) (fun c_2 => ?_)
    · have hv := hv.1 c_2
      exact b_Reader_readSign_30 hc hA hE  (lv_sub hl [1, 0] rfl) hK hP hD hS hv
    · have hv := hv.2 c_2
      refine lv_iload_n hx hb d_Reader_readSign_18 rfl (lv_at hl 0 rfl) ?_
      refine lv_bipush (v := (47 : Int32)) hx hb d_Reader_readSign_19 (by decide) ?_
      refine lv_icmp_eq (tgt := 30) hx hb d_Reader_readSign_21 (by decide) (fun c_3 => ?_) (fun c_3 => ?_)
      · have hv := hv.1 c_3
        exact b_Reader_readSign_30 hc hA hE  (lv_sub hl [1, 0] rfl) hK hP hD hS hv
      · have hv := hv.2 c_3
        refine lv_iload_n hx hb d_Reader_readSign_24 rfl (lv_at hl 0 rfl) ?_
        refine lv_bipush (v := (37 : Int32)) hx hb d_Reader_readSign_25 (by decide) ?_
        refine lv_icmp_ne (tgt := 34) hx hb d_Reader_readSign_27 (by decide) (fun c_4 => ?_) (fun c_4 => ?_)
        · have hv := hv.1 c_4
          refine lv_iconst (v := (0 : Int32)) hx hb d_Reader_readSign_34 (by decide) ?_
          exact b_Reader_readSign_35 hc hA hE  (lv_sub hl [1, 0] rfl) hK hP hD hS hv
        · have hv := hv.2 c_4
          exact b_Reader_readSign_30 hc hA hE  (lv_sub hl [1, 0] rfl) hK hP hD hS hv
set_option maxHeartbeats 4000000 in
set_option maxRecDepth 100000 in
theorem b_Reader_readSign_0 {h0 : Nat} {a0_3 : Nat} {h1 : Nat} {cA1 : ClassId} {h2 : Nat} {a2_0 : Nat} {h3 : Nat} {cA3 : ClassId} {h4 : Nat} {cA4 : ClassId} {I0 : Nat → Int32} {n1 : Nat} {f1 : Nat → Int32} {I2 : Nat → Int32} {n3 : Nat} {f3 : Nat → Int32} {n4 : Nat} {f4 : Nat → Int32} {x1 : Int32}  {Z : Int32 → (Nat → Int32) × (Nat → Int32) × (Nat → Int32) → Prop} {H : Heap} {locs : List Loc} {ls : Array Slot} (hc : zC p s m args meth c prog_9_method_13_code (some .int) 4 "NumberDress$Reader") (hA : ∀ q : Nat, s.heap.size ≤ q → A q) (hE : zE gE A s) (hl : lv_has ls 4 [(0, .ref h0), (1, .int x1)]) (hK : va_K (dC, dI) zCl [(cA1, .char), (cA3, .int), (cA4, .int)] s) (hP : va_P (dC, dI) zCl [(h0, .inr (8, o_Reader I0 h1 h2 a0_3)), (h1, .inl (cA1, n1, .inl f1)), (h2, .inr (1, o_Code I2 a2_0 h3 h4)), (h3, .inl (cA3, n3, .inl f3)), (h4, .inl (cA4, n4, .inl f4))] H) (hD : va_D A [(h0, .inr (8, o_Reader I0 h1 h2 a0_3)), (h1, .inl (cA1, n1, .inl f1)), (h2, .inr (1, o_Code I2 a2_0 h3 h4)), (h3, .inl (cA3, n3, .inl f3)), (h4, .inl (cA4, n4, .inl f4))]) (hS : va_S A s.heap H locs) (hv : v_Reader_readSign_0 I0 n1 f1 I2 n3 f3 n4 f4 x1  Z) : W p l e (headSpec (Cond.code (⟨"NumberDress$Reader", "readSign", "(I)I"⟩ : MethodName) prog_9_method_13_code 4 (some .int) :: zT) { frames := 2, cells := 0, slots := 0, locals := 44 }).room s m args below meth c H locs 0 0 (MQ below (va_Qi Z (zB (dC, dI) zCl [(cA1, .char), (cA3, .int), (cA4, .int)] A (fun u : (Nat → Int32) × (Nat → Int32) × (Nat → Int32) => [(h0, .inr (8, o_Reader I0 h1 h2 a0_3)), (h1, .inl (cA1, n1, .inl f1)), (h2, .inr (1, o_Code u.1 a2_0 h3 h4)), (h3, .inl (cA3, n3, .inl u.2.1)), (h4, .inl (cA4, n4, .inl u.2.2))])) A) args s 0 0 A) (F0 m 0 ls []) := by
  obtain ⟨hx, hb, hr, hml, hown, ht, hlocks⟩ := id hc
  unfold v_Reader_readSign_0 at hv
  refine lv_aload_n hx hb d_Reader_readSign_0 rfl (lv_at hl 0 rfl) ?_
  refine lv_iload_n hx hb d_Reader_readSign_1 rfl (lv_at hl 1 rfl) ?_
  refine z_calli (wc := [(h0, .inr (8, o_Reader I0 h1 h2 a0_3)), (h1, .inl (cA1, n1, .inl f1))]) (wr := [(h2, .inr (1, o_Code I2 a2_0 h3 h4)), (h3, .inl (cA3, n3, .inl f3)), (h4, .inl (cA4, n4, .inl f4))]) [0, 1] [2, 3, 4] (va_runV (As := [.int x1]) (rest := []) ⟨hx, hb, hml, hown, ht⟩ (m_Reader_sign l dC dI hv) ⟨(callB_of 1 ht (zG_in zi_Reader_sign) rfl rfl rfl (ht _ zw_113) (ht _ zw_512) zh_Reader_sign ⟨Nat.le_of_ble_eq_true rfl, Nat.le_of_ble_eq_true rfl⟩), (ht _ zw_514), (ht _ zw_1)⟩ ⟨zPc_blind, va_recv hK hP (ci := 8) (q0 := 0) rfl rfl, zPc_pre hP hK hD hS hA hE [0, 1] [0] rfl rfl (by decide) rfl⟩ rfl rfl hl.1 rfl (lv_room (Nat.le_of_ble_eq_true rfl)) d_Reader_readSign_2 ⟨Nat.le_of_ble_eq_true rfl, Nat.le_of_ble_eq_true rfl⟩) hP hD hS hA rfl rfl (by decide) (by decide) (fun r u H locs hv hP hD hS => ?_)
  have hP : va_P (dC, dI) zCl [(h0, .inr (8, o_Reader I0 h1 h2 a0_3)), (h1, .inl (cA1, n1, .inl f1)), (h2, .inr (1, o_Code I2 a2_0 h3 h4)), (h3, .inl (cA3, n3, .inl f3)), (h4, .inl (cA4, n4, .inl f4))] H := hP.sub [3, 4, 0, 1, 2] rfl
  have hD : va_D A [(h0, .inr (8, o_Reader I0 h1 h2 a0_3)), (h1, .inl (cA1, n1, .inl f1)), (h2, .inr (1, o_Code I2 a2_0 h3 h4)), (h3, .inl (cA3, n3, .inl f3)), (h4, .inl (cA4, n4, .inl f4))] := hD.sub [3, 4, 0, 1, 2] (by decide) rfl
  exact b_Reader_readSign_5 hc hA hE  (lv_sub hl [0] rfl) hK hP hD hS hv
theorem zi_Reader_readSign : Cond.code (⟨"NumberDress$Reader", "readSign", "(I)I"⟩ : MethodName) prog_9_method_13_code 4 (some .int) ∈ zT := zw_800
theorem zh_Reader_readSign : (((⟨"NumberDress$Reader", "readSign", "(I)I"⟩ : MethodName)).cls ≠ "java/lang/invoke/MethodHandle" ∧ ((⟨"NumberDress$Reader", "readSign", "(I)I"⟩ : MethodName)).cls ≠ "java/lang/invoke/VarHandle" ∧ (parseMethodDescriptor ((⟨"NumberDress$Reader", "readSign", "(I)I"⟩ : MethodName)).desc).map (fun d => d.parameters.length) = some 1) := by decide +kernel
set_option maxHeartbeats 4000000 in
set_option maxRecDepth 100000 in
theorem m_Reader_readSign (l : Launch) (dC : Nat → ClassId) (dI : Nat → Nat → Nat) {gE : zG} {h0 : Nat} {a0_3 : Nat} {h1 : Nat} {cA1 : ClassId} {h2 : Nat} {a2_0 : Nat} {h3 : Nat} {cA3 : ClassId} {h4 : Nat} {cA4 : ClassId} {I0 : Nat → Int32} {n1 : Nat} {f1 : Nat → Int32} {I2 : Nat → Int32} {n3 : Nat} {f3 : Nat → Int32} {n4 : Nat} {f4 : Nat → Int32} {x1 : Int32} {sz : Nat} {Z : Int32 → (Nat → Int32) × (Nat → Int32) × (Nat → Int32) → Prop} (hv : v_Reader_readSign_0 I0 n1 f1 I2 n3 f3 n4 f4 x1 Z) : Met l (⟨"NumberDress$Reader", "readSign", "(I)I"⟩ : MethodName) (Cond.code (⟨"NumberDress$Reader", "readSign", "(I)I"⟩ : MethodName) prog_9_method_13_code 4 (some .int) :: zT) { frames := 2, cells := 0, slots := 0, locals := 44 } (zPc gE (dC, dI) zCl [(cA1, .char), (cA3, .int), (cA4, .int)] [.ref h0, .int x1] sz [(h0, .inr (8, o_Reader I0 h1 h2 a0_3)), (h1, .inl (cA1, n1, .inl f1)), (h2, .inr (1, o_Code I2 a2_0 h3 h4)), (h3, .inl (cA3, n3, .inl f3)), (h4, .inl (cA4, n4, .inl f4))]) (va_Qi Z (zB (dC, dI) zCl [(cA1, .char), (cA3, .int), (cA4, .int)] (va_A [(h0, .inr (8, o_Reader I0 h1 h2 a0_3)), (h1, .inl (cA1, n1, .inl f1)), (h2, .inr (1, o_Code I2 a2_0 h3 h4)), (h3, .inl (cA3, n3, .inl f3)), (h4, .inl (cA4, n4, .inl f4))] sz) (fun u : (Nat → Int32) × (Nat → Int32) × (Nat → Int32) => [(h0, .inr (8, o_Reader I0 h1 h2 a0_3)), (h1, .inl (cA1, n1, .inl f1)), (h2, .inr (1, o_Code u.1 a2_0 h3 h4)), (h3, .inl (cA3, n3, .inl u.2.1)), (h4, .inl (cA4, n4, .inl u.2.2))])) (va_A [(h0, .inr (8, o_Reader I0 h1 h2 a0_3)), (h1, .inl (cA1, n1, .inl f1)), (h2, .inr (1, o_Code I2 a2_0 h3 h4)), (h3, .inl (cA3, n3, .inl f3)), (h4, .inl (cA4, n4, .inl f4))] sz)) 0 0 (va_A [(h0, .inr (8, o_Reader I0 h1 h2 a0_3)), (h1, .inl (cA1, n1, .inl f1)), (h2, .inr (1, o_Code I2 a2_0 h3 h4)), (h3, .inl (cA3, n3, .inl f3)), (h4, .inl (cA4, n4, .inl f4))] sz) := by
  refine Met.ofW (cc := prog_9_method_13_code) (maxL := 4) (ret := (some .int)) (by decide +kernel) rfl ?_
  intro p e s m args below meth c s₁ B hml hp
  obtain ⟨rfl, hsz, hP, hK, hD0, hE⟩ := hp
  have hts := atoms_spec (ws := (Cond.code (⟨"NumberDress$Reader", "readSign", "(I)I"⟩ : MethodName) prog_9_method_13_code 4 (some .int) :: zT)) B.pre
  have hown : s.vm.findClass "NumberDress$Reader" = some m.cls := findClass_of_methodNamed B.named
  have hc : zC p s m _ meth c prog_9_method_13_code (some .int) 4 "NumberDress$Reader" := ⟨B.exec, B.bytes, B.returns, hml, hown, fun w h => hts w (List.mem_cons_of_mem _ h), B.notSynchronized⟩
  subst hsz
  have hD := hD0.self (sz := s.heap.size)
  generalize hAe : va_A [(h0, .inr (8, o_Reader I0 h1 h2 a0_3)), (h1, .inl (cA1, n1, .inl f1)), (h2, .inr (1, o_Code I2 a2_0 h3 h4)), (h3, .inl (cA3, n3, .inl f3)), (h4, .inl (cA4, n4, .inl f4))] s.heap.size = A at hD hE ⊢
  have hA : ∀ q : Nat, s.heap.size ≤ q → A q := fun q h => by rw [← hAe]; exact Or.inr h
  have hl := lv_entry ([.ref h0, .int x1]) (n := 4) (Nat.le_of_ble_eq_true rfl)
  rw [lg_entry_eq]
  exact b_Reader_readSign_0 hc hA hE hl hK hP hD va_S.rf hv
theorem d_Reader_readDateItem_0 : decode prog_9_method_24_code 0 = .ok (.aload_n 0, 1) := by decide +kernel
theorem d_Reader_readDateItem_1 : decode prog_9_method_24_code 1 = .ok (.iload_n 1, 1) := by decide +kernel
theorem d_Reader_readDateItem_2 : decode prog_9_method_24_code 2 = .ok (.invokevirtual 99, 3) := by decide +kernel
theorem d_Reader_readDateItem_5 : decode prog_9_method_24_code 5 = .ok (.istore_n 2, 1) := by decide +kernel
theorem d_Reader_readDateItem_6 : decode prog_9_method_24_code 6 = .ok (.iload_n 2, 1) := by decide +kernel
theorem d_Reader_readDateItem_7 : decode prog_9_method_24_code 7 = .ok (.invokestatic 106, 3) := by decide +kernel
theorem d_Reader_readDateItem_10 : decode prog_9_method_24_code 10 = .ok (.ifCond .eq 10, 3) := by decide +kernel
theorem d_Reader_readDateItem_13 : decode prog_9_method_24_code 13 = .ok (.aload_n 0, 1) := by decide +kernel
theorem d_Reader_readDateItem_14 : decode prog_9_method_24_code 14 = .ok (.iload_n 1, 1) := by decide +kernel
theorem d_Reader_readDateItem_15 : decode prog_9_method_24_code 15 = .ok (.iload_n 2, 1) := by decide +kernel
theorem d_Reader_readDateItem_16 : decode prog_9_method_24_code 16 = .ok (.invokevirtual 224, 3) := by decide +kernel
theorem d_Reader_readDateItem_19 : decode prog_9_method_24_code 19 = .ok (.ireturn, 1) := by decide +kernel
theorem d_Reader_readDateItem_20 : decode prog_9_method_24_code 20 = .ok (.iload_n 2, 1) := by decide +kernel
theorem d_Reader_readDateItem_21 : decode prog_9_method_24_code 21 = .ok (.bipush 91, 2) := by decide +kernel
theorem d_Reader_readDateItem_23 : decode prog_9_method_24_code 23 = .ok (.if_icmp .ne 14, 3) := by decide +kernel
theorem d_Reader_readDateItem_26 : decode prog_9_method_24_code 26 = .ok (.aload_n 0, 1) := by decide +kernel
theorem d_Reader_readDateItem_27 : decode prog_9_method_24_code 27 = .ok (.iload_n 1, 1) := by decide +kernel
theorem d_Reader_readDateItem_28 : decode prog_9_method_24_code 28 = .ok (.aload_n 0, 1) := by decide +kernel
theorem d_Reader_readDateItem_29 : decode prog_9_method_24_code 29 = .ok (.iload_n 1, 1) := by decide +kernel
theorem d_Reader_readDateItem_30 : decode prog_9_method_24_code 30 = .ok (.invokevirtual 109, 3) := by decide +kernel
theorem d_Reader_readDateItem_33 : decode prog_9_method_24_code 33 = .ok (.invokevirtual 228, 3) := by decide +kernel
theorem d_Reader_readDateItem_36 : decode prog_9_method_24_code 36 = .ok (.ireturn, 1) := by decide +kernel
theorem d_Reader_readDateItem_37 : decode prog_9_method_24_code 37 = .ok (.iload_n 2, 1) := by decide +kernel
theorem d_Reader_readDateItem_38 : decode prog_9_method_24_code 38 = .ok (.bipush 97, 2) := by decide +kernel
theorem d_Reader_readDateItem_40 : decode prog_9_method_24_code 40 = .ok (.if_icmp .ne 13, 3) := by decide +kernel
theorem d_Reader_readDateItem_43 : decode prog_9_method_24_code 43 = .ok (.aload_n 0, 1) := by decide +kernel
theorem d_Reader_readDateItem_44 : decode prog_9_method_24_code 44 = .ok (.aload_n 0, 1) := by decide +kernel
theorem d_Reader_readDateItem_45 : decode prog_9_method_24_code 45 = .ok (.iload_n 1, 1) := by decide +kernel
theorem d_Reader_readDateItem_46 : decode prog_9_method_24_code 46 = .ok (.invokevirtual 112, 3) := by decide +kernel
theorem d_Reader_readDateItem_49 : decode prog_9_method_24_code 49 = .ok (.invokevirtual 231, 3) := by decide +kernel
theorem d_Reader_readDateItem_52 : decode prog_9_method_24_code 52 = .ok (.ireturn, 1) := by decide +kernel
theorem d_Reader_readDateItem_53 : decode prog_9_method_24_code 53 = .ok (.iload_n 2, 1) := by decide +kernel
theorem d_Reader_readDateItem_54 : decode prog_9_method_24_code 54 = .ok (.bipush 46, 2) := by decide +kernel
theorem d_Reader_readDateItem_56 : decode prog_9_method_24_code 56 = .ok (.if_icmp .ne 11, 3) := by decide +kernel
theorem d_Reader_readDateItem_59 : decode prog_9_method_24_code 59 = .ok (.aload_n 0, 1) := by decide +kernel
theorem d_Reader_readDateItem_60 : decode prog_9_method_24_code 60 = .ok (.iload_n 1, 1) := by decide +kernel
theorem d_Reader_readDateItem_61 : decode prog_9_method_24_code 61 = .ok (.invokevirtual 234, 3) := by decide +kernel
theorem d_Reader_readDateItem_64 : decode prog_9_method_24_code 64 = .ok (.goto 8, 3) := by decide +kernel
theorem d_Reader_readDateItem_67 : decode prog_9_method_24_code 67 = .ok (.aload_n 0, 1) := by decide +kernel
theorem d_Reader_readDateItem_68 : decode prog_9_method_24_code 68 = .ok (.iload_n 1, 1) := by decide +kernel
theorem d_Reader_readDateItem_69 : decode prog_9_method_24_code 69 = .ok (.invokevirtual 127, 3) := by decide +kernel
theorem d_Reader_readDateItem_72 : decode prog_9_method_24_code 72 = .ok (.ireturn, 1) := by decide +kernel
def v_Reader_readDateItem_19 (I0 : Nat → Int32) (n1 : Nat) (f1 : Nat → Int32) (I2 : Nat → Int32) (n3 : Nat) (f3 : Nat → Int32) (n4 : Nat) (f4 : Nat → Int32) (I5 : Nat → Int32) (s0 : Int32)  (Z : Int32 → (Nat → Int32) × (Nat → Int32) × (Nat → Int32) × (Nat → Int32) → Prop) : Prop :=
  (Z s0 (I2, f3, f4, I5))
def v_Reader_readDateItem_36 (I0 : Nat → Int32) (n1 : Nat) (f1 : Nat → Int32) (I2 : Nat → Int32) (n3 : Nat) (f3 : Nat → Int32) (n4 : Nat) (f4 : Nat → Int32) (I5 : Nat → Int32) (s0 : Int32)  (Z : Int32 → (Nat → Int32) × (Nat → Int32) × (Nat → Int32) × (Nat → Int32) → Prop) : Prop :=
  (Z s0 (I2, f3, f4, I5))
def v_Reader_readDateItem_33 (I0 : Nat → Int32) (n1 : Nat) (f1 : Nat → Int32) (I2 : Nat → Int32) (n3 : Nat) (f3 : Nat → Int32) (n4 : Nat) (f4 : Nat → Int32) (I5 : Nat → Int32) (s1 : Int32) (s2 : Int32)  (Z : Int32 → (Nat → Int32) × (Nat → Int32) × (Nat → Int32) × (Nat → Int32) → Prop) : Prop :=
  (v_Reader_readInAll_0 I0 n1 f1 I2 n3 f3 n4 f4 s1 s2 (fun r u => (v_Reader_readDateItem_36 I0 n1 f1 u.1 n3 u.2.1 n4 u.2.2 I5 r  Z)))
def v_Reader_readDateItem_52 (I0 : Nat → Int32) (n1 : Nat) (f1 : Nat → Int32) (I2 : Nat → Int32) (n3 : Nat) (f3 : Nat → Int32) (n4 : Nat) (f4 : Nat → Int32) (I5 : Nat → Int32) (s0 : Int32)  (Z : Int32 → (Nat → Int32) × (Nat → Int32) × (Nat → Int32) × (Nat → Int32) → Prop) : Prop :=
  (Z s0 (I2, f3, f4, I5))
def v_Reader_readDateItem_49 (I0 : Nat → Int32) (n1 : Nat) (f1 : Nat → Int32) (I2 : Nat → Int32) (n3 : Nat) (f3 : Nat → Int32) (n4 : Nat) (f4 : Nat → Int32) (I5 : Nat → Int32) (s1 : Int32)  (Z : Int32 → (Nat → Int32) × (Nat → Int32) × (Nat → Int32) × (Nat → Int32) → Prop) : Prop :=
  (v_Reader_readHalfDay_0 I0 I5 I2 n3 f3 n4 f4 s1 (fun r u => (v_Reader_readDateItem_52 I0 n1 f1 u.2.1 n3 u.2.2.1 n4 u.2.2.2 u.1 r  Z)))
def v_Reader_readDateItem_72 (I0 : Nat → Int32) (n1 : Nat) (f1 : Nat → Int32) (I2 : Nat → Int32) (n3 : Nat) (f3 : Nat → Int32) (n4 : Nat) (f4 : Nat → Int32) (I5 : Nat → Int32) (s0 : Int32)  (Z : Int32 → (Nat → Int32) × (Nat → Int32) × (Nat → Int32) × (Nat → Int32) → Prop) : Prop :=
  (Z s0 (I2, f3, f4, I5))
def v_Reader_readDateItem_64 (I0 : Nat → Int32) (n1 : Nat) (f1 : Nat → Int32) (I2 : Nat → Int32) (n3 : Nat) (f3 : Nat → Int32) (n4 : Nat) (f4 : Nat → Int32) (I5 : Nat → Int32) (s0 : Int32)  (Z : Int32 → (Nat → Int32) × (Nat → Int32) × (Nat → Int32) × (Nat → Int32) → Prop) : Prop :=
  (v_Reader_readDateItem_72 I0 n1 f1 I2 n3 f3 n4 f4 I5 s0  Z)
def v_Reader_readDateItem_10 (I0 : Nat → Int32) (n1 : Nat) (f1 : Nat → Int32) (I2 : Nat → Int32) (n3 : Nat) (f3 : Nat → Int32) (n4 : Nat) (f4 : Nat → Int32) (I5 : Nat → Int32) (x1 : Int32) (x2 : Int32) (s0 : Int32)  (Z : Int32 → (Nat → Int32) × (Nat → Int32) × (Nat → Int32) × (Nat → Int32) → Prop) : Prop :=
  ((s0 = 0 → ((¬ x2 = (91 : Int32) → ((¬ x2 = (97 : Int32) → ((¬ x2 = (46 : Int32) → (v_Reader_readSign_0 I0 n1 f1 I2 n3 f3 n4 f4 x1 (fun r u => (v_Reader_readDateItem_72 I0 n1 f1 u.1 n3 u.2.1 n4 u.2.2 I5 r  Z)))) ∧ (x2 = (46 : Int32) → (v_Reader_readParts_0 I0 I2 I5 n3 f3 n1 f1 n4 f4 x1 (fun r u => (v_Reader_readDateItem_64 I0 n1 f1 u.1 n3 u.2.2.1 n4 u.2.2.2 u.2.1 r  Z)))))) ∧ (x2 = (97 : Int32) → (v_Reader_halfDayLength_0 I0 n1 f1 x1 (fun r u => (v_Reader_readDateItem_49 I0 n1 f1 I2 n3 f3 n4 f4 I5 r  Z)))))) ∧ (x2 = (91 : Int32) → (v_Reader_bracketRow_0 I0 n1 f1 x1 (fun r u => (v_Reader_readDateItem_33 I0 n1 f1 I2 n3 f3 n4 f4 I5 x1 r  Z)))))) ∧ (¬ s0 = 0 → (v_Reader_readRow_0 I0 n1 f1 I2 n3 f3 n4 f4 x1 x2 (fun r u => (v_Reader_readDateItem_19 I0 n1 f1 u.1 n3 u.2.1 n4 u.2.2 I5 r  Z)))))
def v_Reader_readDateItem_5 (I0 : Nat → Int32) (n1 : Nat) (f1 : Nat → Int32) (I2 : Nat → Int32) (n3 : Nat) (f3 : Nat → Int32) (n4 : Nat) (f4 : Nat → Int32) (I5 : Nat → Int32) (x1 : Int32) (s0 : Int32)  (Z : Int32 → (Nat → Int32) × (Nat → Int32) × (Nat → Int32) × (Nat → Int32) → Prop) : Prop :=
  (v_Reader_isDateLetter_0 s0 (fun r u => (v_Reader_readDateItem_10 I0 n1 f1 I2 n3 f3 n4 f4 I5 x1 s0 r  Z)))
def v_Reader_readDateItem_0 (I0 : Nat → Int32) (n1 : Nat) (f1 : Nat → Int32) (I2 : Nat → Int32) (n3 : Nat) (f3 : Nat → Int32) (n4 : Nat) (f4 : Nat → Int32) (I5 : Nat → Int32) (x1 : Int32)  (Z : Int32 → (Nat → Int32) × (Nat → Int32) × (Nat → Int32) × (Nat → Int32) → Prop) : Prop :=
  (v_Reader_small_0 I0 n1 f1 x1 (fun r u => (v_Reader_readDateItem_5 I0 n1 f1 I2 n3 f3 n4 f4 I5 x1 r  Z)))
set_option maxHeartbeats 4000000 in
set_option maxRecDepth 100000 in
theorem b_Reader_readDateItem_19 {h0 : Nat} {h1 : Nat} {cA1 : ClassId} {h2 : Nat} {a2_0 : Nat} {h3 : Nat} {cA3 : ClassId} {h4 : Nat} {cA4 : ClassId} {h5 : Nat} {I0 : Nat → Int32} {n1 : Nat} {f1 : Nat → Int32} {I2 : Nat → Int32} {n3 : Nat} {f3 : Nat → Int32} {n4 : Nat} {f4 : Nat → Int32} {I5 : Nat → Int32} {s0 : Int32}  {Z : Int32 → (Nat → Int32) × (Nat → Int32) × (Nat → Int32) × (Nat → Int32) → Prop} {H : Heap} {locs : List Loc} {ls : Array Slot} (hc : zC p s m args meth c prog_9_method_24_code (some .int) 3 "NumberDress$Reader") (hA : ∀ q : Nat, s.heap.size ≤ q → A q) (hE : zE gE A s) (hl : lv_has ls 3 []) (hK : va_K (dC, dI) zCl [(cA1, .char), (cA3, .int), (cA4, .int)] s) (hP : va_P (dC, dI) zCl [(h0, .inr (8, o_Reader I0 h1 h2 h5)), (h1, .inl (cA1, n1, .inl f1)), (h2, .inr (1, o_Code I2 a2_0 h3 h4)), (h3, .inl (cA3, n3, .inl f3)), (h4, .inl (cA4, n4, .inl f4)), (h5, .inr (9, o_Section I5))] H) (hD : va_D A [(h0, .inr (8, o_Reader I0 h1 h2 h5)), (h1, .inl (cA1, n1, .inl f1)), (h2, .inr (1, o_Code I2 a2_0 h3 h4)), (h3, .inl (cA3, n3, .inl f3)), (h4, .inl (cA4, n4, .inl f4)), (h5, .inr (9, o_Section I5))]) (hS : va_S A s.heap H locs) (hv : v_Reader_readDateItem_19 I0 n1 f1 I2 n3 f3 n4 f4 I5 s0  Z) : W p l e (headSpec (Cond.code (⟨"NumberDress$Reader", "readDateItem", "(I)I"⟩ : MethodName) prog_9_method_24_code 3 (some .int) :: zT) { frames := 6, cells := 0, slots := 0, locals := 129 }).room s m args below meth c H locs 0 0 (MQ below (va_Qi Z (zB (dC, dI) zCl [(cA1, .char), (cA3, .int), (cA4, .int)] A (fun u : (Nat → Int32) × (Nat → Int32) × (Nat → Int32) × (Nat → Int32) => [(h0, .inr (8, o_Reader I0 h1 h2 h5)), (h1, .inl (cA1, n1, .inl f1)), (h2, .inr (1, o_Code u.1 a2_0 h3 h4)), (h3, .inl (cA3, n3, .inl u.2.1)), (h4, .inl (cA4, n4, .inl u.2.2.1)), (h5, .inr (9, o_Section u.2.2.2))])) A) args s 0 0 A) (F0 m 19 ls [.int s0]) := by
  obtain ⟨hx, hb, hr, hml, hown, ht, hlocks⟩ := id hc
  unfold v_Reader_readDateItem_19 at hv
  exact W.iret (v := s0) hx hb hr (fun t ht hW => ⟨⟨_, (I2, f3, f4, I5), rfl, hv, ⟨by rw [ht]; exact hP, va_K.moved hW.alike hK, hD⟩⟩, hS.F ht⟩) hS.2.2 d_Reader_readDateItem_19
set_option maxHeartbeats 4000000 in
set_option maxRecDepth 100000 in
theorem b_Reader_readDateItem_36 {h0 : Nat} {h1 : Nat} {cA1 : ClassId} {h2 : Nat} {a2_0 : Nat} {h3 : Nat} {cA3 : ClassId} {h4 : Nat} {cA4 : ClassId} {h5 : Nat} {I0 : Nat → Int32} {n1 : Nat} {f1 : Nat → Int32} {I2 : Nat → Int32} {n3 : Nat} {f3 : Nat → Int32} {n4 : Nat} {f4 : Nat → Int32} {I5 : Nat → Int32} {s0 : Int32}  {Z : Int32 → (Nat → Int32) × (Nat → Int32) × (Nat → Int32) × (Nat → Int32) → Prop} {H : Heap} {locs : List Loc} {ls : Array Slot} (hc : zC p s m args meth c prog_9_method_24_code (some .int) 3 "NumberDress$Reader") (hA : ∀ q : Nat, s.heap.size ≤ q → A q) (hE : zE gE A s) (hl : lv_has ls 3 []) (hK : va_K (dC, dI) zCl [(cA1, .char), (cA3, .int), (cA4, .int)] s) (hP : va_P (dC, dI) zCl [(h0, .inr (8, o_Reader I0 h1 h2 h5)), (h1, .inl (cA1, n1, .inl f1)), (h2, .inr (1, o_Code I2 a2_0 h3 h4)), (h3, .inl (cA3, n3, .inl f3)), (h4, .inl (cA4, n4, .inl f4)), (h5, .inr (9, o_Section I5))] H) (hD : va_D A [(h0, .inr (8, o_Reader I0 h1 h2 h5)), (h1, .inl (cA1, n1, .inl f1)), (h2, .inr (1, o_Code I2 a2_0 h3 h4)), (h3, .inl (cA3, n3, .inl f3)), (h4, .inl (cA4, n4, .inl f4)), (h5, .inr (9, o_Section I5))]) (hS : va_S A s.heap H locs) (hv : v_Reader_readDateItem_36 I0 n1 f1 I2 n3 f3 n4 f4 I5 s0  Z) : W p l e (headSpec (Cond.code (⟨"NumberDress$Reader", "readDateItem", "(I)I"⟩ : MethodName) prog_9_method_24_code 3 (some .int) :: zT) { frames := 6, cells := 0, slots := 0, locals := 129 }).room s m args below meth c H locs 0 0 (MQ below (va_Qi Z (zB (dC, dI) zCl [(cA1, .char), (cA3, .int), (cA4, .int)] A (fun u : (Nat → Int32) × (Nat → Int32) × (Nat → Int32) × (Nat → Int32) => [(h0, .inr (8, o_Reader I0 h1 h2 h5)), (h1, .inl (cA1, n1, .inl f1)), (h2, .inr (1, o_Code u.1 a2_0 h3 h4)), (h3, .inl (cA3, n3, .inl u.2.1)), (h4, .inl (cA4, n4, .inl u.2.2.1)), (h5, .inr (9, o_Section u.2.2.2))])) A) args s 0 0 A) (F0 m 36 ls [.int s0]) := by
  obtain ⟨hx, hb, hr, hml, hown, ht, hlocks⟩ := id hc
  unfold v_Reader_readDateItem_36 at hv
  exact W.iret (v := s0) hx hb hr (fun t ht hW => ⟨⟨_, (I2, f3, f4, I5), rfl, hv, ⟨by rw [ht]; exact hP, va_K.moved hW.alike hK, hD⟩⟩, hS.F ht⟩) hS.2.2 d_Reader_readDateItem_36
set_option maxHeartbeats 4000000 in
set_option maxRecDepth 100000 in
theorem b_Reader_readDateItem_33 {h0 : Nat} {h1 : Nat} {cA1 : ClassId} {h2 : Nat} {a2_0 : Nat} {h3 : Nat} {cA3 : ClassId} {h4 : Nat} {cA4 : ClassId} {h5 : Nat} {I0 : Nat → Int32} {n1 : Nat} {f1 : Nat → Int32} {I2 : Nat → Int32} {n3 : Nat} {f3 : Nat → Int32} {n4 : Nat} {f4 : Nat → Int32} {I5 : Nat → Int32} {s1 : Int32} {s2 : Int32}  {Z : Int32 → (Nat → Int32) × (Nat → Int32) × (Nat → Int32) × (Nat → Int32) → Prop} {H : Heap} {locs : List Loc} {ls : Array Slot} (hc : zC p s m args meth c prog_9_method_24_code (some .int) 3 "NumberDress$Reader") (hA : ∀ q : Nat, s.heap.size ≤ q → A q) (hE : zE gE A s) (hl : lv_has ls 3 []) (hK : va_K (dC, dI) zCl [(cA1, .char), (cA3, .int), (cA4, .int)] s) (hP : va_P (dC, dI) zCl [(h0, .inr (8, o_Reader I0 h1 h2 h5)), (h1, .inl (cA1, n1, .inl f1)), (h2, .inr (1, o_Code I2 a2_0 h3 h4)), (h3, .inl (cA3, n3, .inl f3)), (h4, .inl (cA4, n4, .inl f4)), (h5, .inr (9, o_Section I5))] H) (hD : va_D A [(h0, .inr (8, o_Reader I0 h1 h2 h5)), (h1, .inl (cA1, n1, .inl f1)), (h2, .inr (1, o_Code I2 a2_0 h3 h4)), (h3, .inl (cA3, n3, .inl f3)), (h4, .inl (cA4, n4, .inl f4)), (h5, .inr (9, o_Section I5))]) (hS : va_S A s.heap H locs) (hv : v_Reader_readDateItem_33 I0 n1 f1 I2 n3 f3 n4 f4 I5 s1 s2  Z) : W p l e (headSpec (Cond.code (⟨"NumberDress$Reader", "readDateItem", "(I)I"⟩ : MethodName) prog_9_method_24_code 3 (some .int) :: zT) { frames := 6, cells := 0, slots := 0, locals := 129 }).room s m args below meth c H locs 0 0 (MQ below (va_Qi Z (zB (dC, dI) zCl [(cA1, .char), (cA3, .int), (cA4, .int)] A (fun u : (Nat → Int32) × (Nat → Int32) × (Nat → Int32) × (Nat → Int32) => [(h0, .inr (8, o_Reader I0 h1 h2 h5)), (h1, .inl (cA1, n1, .inl f1)), (h2, .inr (1, o_Code u.1 a2_0 h3 h4)), (h3, .inl (cA3, n3, .inl u.2.1)), (h4, .inl (cA4, n4, .inl u.2.2.1)), (h5, .inr (9, o_Section u.2.2.2))])) A) args s 0 0 A) (F0 m 33 ls [.int s2, .int s1, .ref h0]) := by
  obtain ⟨hx, hb, hr, hml, hown, ht, hlocks⟩ := id hc
  unfold v_Reader_readDateItem_33 at hv
  refine z_calli (wc := [(h0, .inr (8, o_Reader I0 h1 h2 h5)), (h1, .inl (cA1, n1, .inl f1)), (h2, .inr (1, o_Code I2 a2_0 h3 h4)), (h3, .inl (cA3, n3, .inl f3)), (h4, .inl (cA4, n4, .inl f4))]) (wr := [(h5, .inr (9, o_Section I5))]) [0, 1, 2, 3, 4] [5] (va_runV (As := [.int s1, .int s2]) (rest := []) ⟨hx, hb, hml, hown, ht⟩ (m_Reader_readInAll l dC dI hv) ⟨(callB_of 2 ht (zG_in zi_Reader_readInAll) rfl rfl rfl (ht _ zw_113) (ht _ zw_785) zh_Reader_readInAll ⟨Nat.le_of_ble_eq_true rfl, Nat.le_of_ble_eq_true rfl⟩), (ht _ zw_787), (ht _ zw_29)⟩ ⟨zPc_blind, va_recv hK hP (ci := 8) (q0 := 0) rfl rfl, zPc_pre hP hK hD hS hA hE [0, 1, 2, 3, 4] [0, 1, 2] rfl rfl (by decide) rfl⟩ rfl rfl hl.1 rfl (lv_room (Nat.le_of_ble_eq_true rfl)) d_Reader_readDateItem_33 ⟨Nat.le_of_ble_eq_true rfl, Nat.le_of_ble_eq_true rfl⟩) hP hD hS hA rfl rfl (by decide) (by decide) (fun r u H locs hv hP hD hS => ?_)
  have hP : va_P (dC, dI) zCl [(h0, .inr (8, o_Reader I0 h1 h2 h5)), (h1, .inl (cA1, n1, .inl f1)), (h2, .inr (1, o_Code u.1 a2_0 h3 h4)), (h3, .inl (cA3, n3, .inl u.2.1)), (h4, .inl (cA4, n4, .inl u.2.2)), (h5, .inr (9, o_Section I5))] H := hP.sub [1, 2, 3, 4, 5, 0] rfl
  have hD : va_D A [(h0, .inr (8, o_Reader I0 h1 h2 h5)), (h1, .inl (cA1, n1, .inl f1)), (h2, .inr (1, o_Code u.1 a2_0 h3 h4)), (h3, .inl (cA3, n3, .inl u.2.1)), (h4, .inl (cA4, n4, .inl u.2.2)), (h5, .inr (9, o_Section I5))] := hD.sub [1, 2, 3, 4, 5, 0] (by decide) rfl
  exact b_Reader_readDateItem_36 hc hA hE  (lv_sub hl [] rfl) hK hP hD hS hv
set_option maxHeartbeats 4000000 in
set_option maxRecDepth 100000 in
theorem b_Reader_readDateItem_52 {h0 : Nat} {h1 : Nat} {cA1 : ClassId} {h2 : Nat} {a2_0 : Nat} {h3 : Nat} {cA3 : ClassId} {h4 : Nat} {cA4 : ClassId} {h5 : Nat} {I0 : Nat → Int32} {n1 : Nat} {f1 : Nat → Int32} {I2 : Nat → Int32} {n3 : Nat} {f3 : Nat → Int32} {n4 : Nat} {f4 : Nat → Int32} {I5 : Nat → Int32} {s0 : Int32}  {Z : Int32 → (Nat → Int32) × (Nat → Int32) × (Nat → Int32) × (Nat → Int32) → Prop} {H : Heap} {locs : List Loc} {ls : Array Slot} (hc : zC p s m args meth c prog_9_method_24_code (some .int) 3 "NumberDress$Reader") (hA : ∀ q : Nat, s.heap.size ≤ q → A q) (hE : zE gE A s) (hl : lv_has ls 3 []) (hK : va_K (dC, dI) zCl [(cA1, .char), (cA3, .int), (cA4, .int)] s) (hP : va_P (dC, dI) zCl [(h0, .inr (8, o_Reader I0 h1 h2 h5)), (h1, .inl (cA1, n1, .inl f1)), (h2, .inr (1, o_Code I2 a2_0 h3 h4)), (h3, .inl (cA3, n3, .inl f3)), (h4, .inl (cA4, n4, .inl f4)), (h5, .inr (9, o_Section I5))] H) (hD : va_D A [(h0, .inr (8, o_Reader I0 h1 h2 h5)), (h1, .inl (cA1, n1, .inl f1)), (h2, .inr (1, o_Code I2 a2_0 h3 h4)), (h3, .inl (cA3, n3, .inl f3)), (h4, .inl (cA4, n4, .inl f4)), (h5, .inr (9, o_Section I5))]) (hS : va_S A s.heap H locs) (hv : v_Reader_readDateItem_52 I0 n1 f1 I2 n3 f3 n4 f4 I5 s0  Z) : W p l e (headSpec (Cond.code (⟨"NumberDress$Reader", "readDateItem", "(I)I"⟩ : MethodName) prog_9_method_24_code 3 (some .int) :: zT) { frames := 6, cells := 0, slots := 0, locals := 129 }).room s m args below meth c H locs 0 0 (MQ below (va_Qi Z (zB (dC, dI) zCl [(cA1, .char), (cA3, .int), (cA4, .int)] A (fun u : (Nat → Int32) × (Nat → Int32) × (Nat → Int32) × (Nat → Int32) => [(h0, .inr (8, o_Reader I0 h1 h2 h5)), (h1, .inl (cA1, n1, .inl f1)), (h2, .inr (1, o_Code u.1 a2_0 h3 h4)), (h3, .inl (cA3, n3, .inl u.2.1)), (h4, .inl (cA4, n4, .inl u.2.2.1)), (h5, .inr (9, o_Section u.2.2.2))])) A) args s 0 0 A) (F0 m 52 ls [.int s0]) := by
  obtain ⟨hx, hb, hr, hml, hown, ht, hlocks⟩ := id hc
  unfold v_Reader_readDateItem_52 at hv
  exact W.iret (v := s0) hx hb hr (fun t ht hW => ⟨⟨_, (I2, f3, f4, I5), rfl, hv, ⟨by rw [ht]; exact hP, va_K.moved hW.alike hK, hD⟩⟩, hS.F ht⟩) hS.2.2 d_Reader_readDateItem_52
set_option maxHeartbeats 4000000 in
set_option maxRecDepth 100000 in
theorem b_Reader_readDateItem_49 {h0 : Nat} {h1 : Nat} {cA1 : ClassId} {h2 : Nat} {a2_0 : Nat} {h3 : Nat} {cA3 : ClassId} {h4 : Nat} {cA4 : ClassId} {h5 : Nat} {I0 : Nat → Int32} {n1 : Nat} {f1 : Nat → Int32} {I2 : Nat → Int32} {n3 : Nat} {f3 : Nat → Int32} {n4 : Nat} {f4 : Nat → Int32} {I5 : Nat → Int32} {s1 : Int32}  {Z : Int32 → (Nat → Int32) × (Nat → Int32) × (Nat → Int32) × (Nat → Int32) → Prop} {H : Heap} {locs : List Loc} {ls : Array Slot} (hc : zC p s m args meth c prog_9_method_24_code (some .int) 3 "NumberDress$Reader") (hA : ∀ q : Nat, s.heap.size ≤ q → A q) (hE : zE gE A s) (hl : lv_has ls 3 []) (hK : va_K (dC, dI) zCl [(cA1, .char), (cA3, .int), (cA4, .int)] s) (hP : va_P (dC, dI) zCl [(h0, .inr (8, o_Reader I0 h1 h2 h5)), (h1, .inl (cA1, n1, .inl f1)), (h2, .inr (1, o_Code I2 a2_0 h3 h4)), (h3, .inl (cA3, n3, .inl f3)), (h4, .inl (cA4, n4, .inl f4)), (h5, .inr (9, o_Section I5))] H) (hD : va_D A [(h0, .inr (8, o_Reader I0 h1 h2 h5)), (h1, .inl (cA1, n1, .inl f1)), (h2, .inr (1, o_Code I2 a2_0 h3 h4)), (h3, .inl (cA3, n3, .inl f3)), (h4, .inl (cA4, n4, .inl f4)), (h5, .inr (9, o_Section I5))]) (hS : va_S A s.heap H locs) (hv : v_Reader_readDateItem_49 I0 n1 f1 I2 n3 f3 n4 f4 I5 s1  Z) : W p l e (headSpec (Cond.code (⟨"NumberDress$Reader", "readDateItem", "(I)I"⟩ : MethodName) prog_9_method_24_code 3 (some .int) :: zT) { frames := 6, cells := 0, slots := 0, locals := 129 }).room s m args below meth c H locs 0 0 (MQ below (va_Qi Z (zB (dC, dI) zCl [(cA1, .char), (cA3, .int), (cA4, .int)] A (fun u : (Nat → Int32) × (Nat → Int32) × (Nat → Int32) × (Nat → Int32) => [(h0, .inr (8, o_Reader I0 h1 h2 h5)), (h1, .inl (cA1, n1, .inl f1)), (h2, .inr (1, o_Code u.1 a2_0 h3 h4)), (h3, .inl (cA3, n3, .inl u.2.1)), (h4, .inl (cA4, n4, .inl u.2.2.1)), (h5, .inr (9, o_Section u.2.2.2))])) A) args s 0 0 A) (F0 m 49 ls [.int s1, .ref h0]) := by
  obtain ⟨hx, hb, hr, hml, hown, ht, hlocks⟩ := id hc
  unfold v_Reader_readDateItem_49 at hv
  refine z_calli (wc := [(h0, .inr (8, o_Reader I0 h1 h2 h5)), (h5, .inr (9, o_Section I5)), (h2, .inr (1, o_Code I2 a2_0 h3 h4)), (h3, .inl (cA3, n3, .inl f3)), (h4, .inl (cA4, n4, .inl f4))]) (wr := [(h1, .inl (cA1, n1, .inl f1))]) [0, 5, 2, 3, 4] [1] (va_runV (As := [.int s1]) (rest := []) ⟨hx, hb, hml, hown, ht⟩ (m_Reader_readHalfDay l dC dI hv) ⟨(callB_of 1 ht (zG_in zi_Reader_readHalfDay) rfl rfl rfl (ht _ zw_113) (ht _ zw_789) zh_Reader_readHalfDay ⟨Nat.le_of_ble_eq_true rfl, Nat.le_of_ble_eq_true rfl⟩), (ht _ zw_791), (ht _ zw_30)⟩ ⟨zPc_blind, va_recv hK hP (ci := 8) (q0 := 0) rfl rfl, zPc_pre hP hK hD hS hA hE [0, 5, 2, 3, 4] [1, 2] rfl rfl (by decide) rfl⟩ rfl rfl hl.1 rfl (lv_room (Nat.le_of_ble_eq_true rfl)) d_Reader_readDateItem_49 ⟨Nat.le_of_ble_eq_true rfl, Nat.le_of_ble_eq_true rfl⟩) hP hD hS hA rfl rfl (by decide) (by decide) (fun r u H locs hv hP hD hS => ?_)
  have hP : va_P (dC, dI) zCl [(h0, .inr (8, o_Reader I0 h1 h2 h5)), (h1, .inl (cA1, n1, .inl f1)), (h2, .inr (1, o_Code u.2.1 a2_0 h3 h4)), (h3, .inl (cA3, n3, .inl u.2.2.1)), (h4, .inl (cA4, n4, .inl u.2.2.2)), (h5, .inr (9, o_Section u.1))] H := hP.sub [1, 0, 3, 4, 5, 2] rfl
  have hD : va_D A [(h0, .inr (8, o_Reader I0 h1 h2 h5)), (h1, .inl (cA1, n1, .inl f1)), (h2, .inr (1, o_Code u.2.1 a2_0 h3 h4)), (h3, .inl (cA3, n3, .inl u.2.2.1)), (h4, .inl (cA4, n4, .inl u.2.2.2)), (h5, .inr (9, o_Section u.1))] := hD.sub [1, 0, 3, 4, 5, 2] (by decide) rfl
  exact b_Reader_readDateItem_52 hc hA hE  (lv_sub hl [] rfl) hK hP hD hS hv
set_option maxHeartbeats 4000000 in
set_option maxRecDepth 100000 in
theorem b_Reader_readDateItem_72 {h0 : Nat} {h1 : Nat} {cA1 : ClassId} {h2 : Nat} {a2_0 : Nat} {h3 : Nat} {cA3 : ClassId} {h4 : Nat} {cA4 : ClassId} {h5 : Nat} {I0 : Nat → Int32} {n1 : Nat} {f1 : Nat → Int32} {I2 : Nat → Int32} {n3 : Nat} {f3 : Nat → Int32} {n4 : Nat} {f4 : Nat → Int32} {I5 : Nat → Int32} {s0 : Int32}  {Z : Int32 → (Nat → Int32) × (Nat → Int32) × (Nat → Int32) × (Nat → Int32) → Prop} {H : Heap} {locs : List Loc} {ls : Array Slot} (hc : zC p s m args meth c prog_9_method_24_code (some .int) 3 "NumberDress$Reader") (hA : ∀ q : Nat, s.heap.size ≤ q → A q) (hE : zE gE A s) (hl : lv_has ls 3 []) (hK : va_K (dC, dI) zCl [(cA1, .char), (cA3, .int), (cA4, .int)] s) (hP : va_P (dC, dI) zCl [(h0, .inr (8, o_Reader I0 h1 h2 h5)), (h1, .inl (cA1, n1, .inl f1)), (h2, .inr (1, o_Code I2 a2_0 h3 h4)), (h3, .inl (cA3, n3, .inl f3)), (h4, .inl (cA4, n4, .inl f4)), (h5, .inr (9, o_Section I5))] H) (hD : va_D A [(h0, .inr (8, o_Reader I0 h1 h2 h5)), (h1, .inl (cA1, n1, .inl f1)), (h2, .inr (1, o_Code I2 a2_0 h3 h4)), (h3, .inl (cA3, n3, .inl f3)), (h4, .inl (cA4, n4, .inl f4)), (h5, .inr (9, o_Section I5))]) (hS : va_S A s.heap H locs) (hv : v_Reader_readDateItem_72 I0 n1 f1 I2 n3 f3 n4 f4 I5 s0  Z) : W p l e (headSpec (Cond.code (⟨"NumberDress$Reader", "readDateItem", "(I)I"⟩ : MethodName) prog_9_method_24_code 3 (some .int) :: zT) { frames := 6, cells := 0, slots := 0, locals := 129 }).room s m args below meth c H locs 0 0 (MQ below (va_Qi Z (zB (dC, dI) zCl [(cA1, .char), (cA3, .int), (cA4, .int)] A (fun u : (Nat → Int32) × (Nat → Int32) × (Nat → Int32) × (Nat → Int32) => [(h0, .inr (8, o_Reader I0 h1 h2 h5)), (h1, .inl (cA1, n1, .inl f1)), (h2, .inr (1, o_Code u.1 a2_0 h3 h4)), (h3, .inl (cA3, n3, .inl u.2.1)), (h4, .inl (cA4, n4, .inl u.2.2.1)), (h5, .inr (9, o_Section u.2.2.2))])) A) args s 0 0 A) (F0 m 72 ls [.int s0]) := by
  obtain ⟨hx, hb, hr, hml, hown, ht, hlocks⟩ := id hc
  unfold v_Reader_readDateItem_72 at hv
  exact W.iret (v := s0) hx hb hr (fun t ht hW => ⟨⟨_, (I2, f3, f4, I5), rfl, hv, ⟨by rw [ht]; exact hP, va_K.moved hW.alike hK, hD⟩⟩, hS.F ht⟩) hS.2.2 d_Reader_readDateItem_72
set_option maxHeartbeats 4000000 in
set_option maxRecDepth 100000 in
theorem b_Reader_readDateItem_64 {h0 : Nat} {h1 : Nat} {cA1 : ClassId} {h2 : Nat} {a2_0 : Nat} {h3 : Nat} {cA3 : ClassId} {h4 : Nat} {cA4 : ClassId} {h5 : Nat} {I0 : Nat → Int32} {n1 : Nat} {f1 : Nat → Int32} {I2 : Nat → Int32} {n3 : Nat} {f3 : Nat → Int32} {n4 : Nat} {f4 : Nat → Int32} {I5 : Nat → Int32} {s0 : Int32}  {Z : Int32 → (Nat → Int32) × (Nat → Int32) × (Nat → Int32) × (Nat → Int32) → Prop} {H : Heap} {locs : List Loc} {ls : Array Slot} (hc : zC p s m args meth c prog_9_method_24_code (some .int) 3 "NumberDress$Reader") (hA : ∀ q : Nat, s.heap.size ≤ q → A q) (hE : zE gE A s) (hl : lv_has ls 3 []) (hK : va_K (dC, dI) zCl [(cA1, .char), (cA3, .int), (cA4, .int)] s) (hP : va_P (dC, dI) zCl [(h0, .inr (8, o_Reader I0 h1 h2 h5)), (h1, .inl (cA1, n1, .inl f1)), (h2, .inr (1, o_Code I2 a2_0 h3 h4)), (h3, .inl (cA3, n3, .inl f3)), (h4, .inl (cA4, n4, .inl f4)), (h5, .inr (9, o_Section I5))] H) (hD : va_D A [(h0, .inr (8, o_Reader I0 h1 h2 h5)), (h1, .inl (cA1, n1, .inl f1)), (h2, .inr (1, o_Code I2 a2_0 h3 h4)), (h3, .inl (cA3, n3, .inl f3)), (h4, .inl (cA4, n4, .inl f4)), (h5, .inr (9, o_Section I5))]) (hS : va_S A s.heap H locs) (hv : v_Reader_readDateItem_64 I0 n1 f1 I2 n3 f3 n4 f4 I5 s0  Z) : W p l e (headSpec (Cond.code (⟨"NumberDress$Reader", "readDateItem", "(I)I"⟩ : MethodName) prog_9_method_24_code 3 (some .int) :: zT) { frames := 6, cells := 0, slots := 0, locals := 129 }).room s m args below meth c H locs 0 0 (MQ below (va_Qi Z (zB (dC, dI) zCl [(cA1, .char), (cA3, .int), (cA4, .int)] A (fun u : (Nat → Int32) × (Nat → Int32) × (Nat → Int32) × (Nat → Int32) => [(h0, .inr (8, o_Reader I0 h1 h2 h5)), (h1, .inl (cA1, n1, .inl f1)), (h2, .inr (1, o_Code u.1 a2_0 h3 h4)), (h3, .inl (cA3, n3, .inl u.2.1)), (h4, .inl (cA4, n4, .inl u.2.2.1)), (h5, .inr (9, o_Section u.2.2.2))])) A) args s 0 0 A) (F0 m 64 ls [.int s0]) := by
  obtain ⟨hx, hb, hr, hml, hown, ht, hlocks⟩ := id hc
  unfold v_Reader_readDateItem_64 at hv
  refine lv_goto (tgt := 72) hx hb d_Reader_readDateItem_64 (by decide) ?_
  exact b_Reader_readDateItem_72 hc hA hE  (lv_sub hl [] rfl) hK hP hD hS hv
set_option maxHeartbeats 4000000 in
set_option maxRecDepth 100000 in
theorem b_Reader_readDateItem_10 {h0 : Nat} {h1 : Nat} {cA1 : ClassId} {h2 : Nat} {a2_0 : Nat} {h3 : Nat} {cA3 : ClassId} {h4 : Nat} {cA4 : ClassId} {h5 : Nat} {I0 : Nat → Int32} {n1 : Nat} {f1 : Nat → Int32} {I2 : Nat → Int32} {n3 : Nat} {f3 : Nat → Int32} {n4 : Nat} {f4 : Nat → Int32} {I5 : Nat → Int32} {x1 : Int32} {x2 : Int32} {s0 : Int32}  {Z : Int32 → (Nat → Int32) × (Nat → Int32) × (Nat → Int32) × (Nat → Int32) → Prop} {H : Heap} {locs : List Loc} {ls : Array Slot} (hc : zC p s m args meth c prog_9_method_24_code (some .int) 3 "NumberDress$Reader") (hA : ∀ q : Nat, s.heap.size ≤ q → A q) (hE : zE gE A s) (hl : lv_has ls 3 [(0, .ref h0), (1, .int x1), (2, .int x2)]) (hK : va_K (dC, dI) zCl [(cA1, .char), (cA3, .int), (cA4, .int)] s) (hP : va_P (dC, dI) zCl [(h0, .inr (8, o_Reader I0 h1 h2 h5)), (h1, .inl (cA1, n1, .inl f1)), (h2, .inr (1, o_Code I2 a2_0 h3 h4)), (h3, .inl (cA3, n3, .inl f3)), (h4, .inl (cA4, n4, .inl f4)), (h5, .inr (9, o_Section I5))] H) (hD : va_D A [(h0, .inr (8, o_Reader I0 h1 h2 h5)), (h1, .inl (cA1, n1, .inl f1)), (h2, .inr (1, o_Code I2 a2_0 h3 h4)), (h3, .inl (cA3, n3, .inl f3)), (h4, .inl (cA4, n4, .inl f4)), (h5, .inr (9, o_Section I5))]) (hS : va_S A s.heap H locs) (hv : v_Reader_readDateItem_10 I0 n1 f1 I2 n3 f3 n4 f4 I5 x1 x2 s0  Z) : W p l e (headSpec (Cond.code (⟨"NumberDress$Reader", "readDateItem", "(I)I"⟩ : MethodName) prog_9_method_24_code 3 (some .int) :: zT) { frames := 6, cells := 0, slots := 0, locals := 129 }).room s m args below meth c H locs 0 0 (MQ below (va_Qi Z (zB (dC, dI) zCl [(cA1, .char), (cA3, .int), (cA4, .int)] A (fun u : (Nat → Int32) × (Nat → Int32) × (Nat → Int32) × (Nat → Int32) => [(h0, .inr (8, o_Reader I0 h1 h2 h5)), (h1, .inl (cA1, n1, .inl f1)), (h2, .inr (1, o_Code u.1 a2_0 h3 h4)), (h3, .inl (cA3, n3, .inl u.2.1)), (h4, .inl (cA4, n4, .inl u.2.2.1)), (h5, .inr (9, o_Section u.2.2.2))])) A) args s 0 0 A) (F0 m 10 ls [.int s0]) := by
  obtain ⟨hx, hb, hr, hml, hown, ht, hlocks⟩ := id hc
  unfold v_Reader_readDateItem_10 at hv
  refine lv_if_eq (tgt := 20) hx hb d_Reader_readDateItem_10 (by decide) (fun c_1 => ?_) (fun c_1 => ?_)
  · have hv := hv.1 c_1
    refine lv_iload_n hx hb d_Reader_readDateItem_20 rfl (lv_at hl 2 rfl) ?_
    refine lv_bipush (v := (91 : Int32)) hx hb d_Reader_readDateItem_21 (by decide) ?_
    refine lv_icmp_ne (tgt := 37) hx hb d_Reader_readDateItem_23 (by decide) (fun c_2 => ?_) (fun c_2 => ?_)
    · have hv := hv.1 c_2
      refine lv_iload_n hx hb d_Reader_readDateItem_37 rfl (lv_at hl 2 rfl) ?_
      refine lv_bipush (v := (97 : Int32)) hx hb d_Reader_readDateItem_38 (by decide) ?_
      refine lv_icmp_ne (tgt := 53) hx hb d_Reader_readDateItem_40 (by decide) (fun c_3 => ?_) (fun c_3 => ?_)
      · have hv := hv.1 c_3
        refine lv_iload_n hx hb d_Reader_readDateItem_53 rfl (lv_at hl 2 rfl) ?_
        refine lv_bipush (v := (46 : Int32)) hx hb d_Reader_readDateItem_54 (by decide) ?_
        refine lv_icmp_ne (tgt := 67) hx hb d_Reader_readDateItem_56 (by decide) (fun c_4 => ?_) (fun c_4 => ?_)
        · have hv := hv.1 c_4
          refine lv_aload_n hx hb d_Reader_readDateItem_67 rfl (lv_at hl 0 rfl) ?_
          refine lv_iload_n hx hb d_Reader_readDateItem_68 rfl (lv_at hl 1 rfl) ?_
          refine z_calli (wc := [(h0, .inr (8, o_Reader I0 h1 h2 h5)), (h1, .inl (cA1, n1, .inl f1)), (h2, .inr (1, o_Code I2 a2_0 h3 h4)), (h3, .inl (cA3, n3, .inl f3)), (h4, .inl (cA4, n4, .inl f4))]) (wr := [(h5, .inr (9, o_Section I5))]) [0, 1, 2, 3, 4] [5] (va_runV (As := [.int x1]) (rest := []) ⟨hx, hb, hml, hown, ht⟩ (m_Reader_readSign l dC dI hv) ⟨(callB_of 1 ht (zG_in zi_Reader_readSign) rfl rfl rfl (ht _ zw_113) (ht _ zw_797) zh_Reader_readSign ⟨Nat.le_of_ble_eq_true rfl, Nat.le_of_ble_eq_true rfl⟩), (ht _ zw_799), (ht _ zw_32)⟩ ⟨zPc_blind, va_recv hK hP (ci := 8) (q0 := 0) rfl rfl, zPc_pre hP hK hD hS hA hE [0, 1, 2, 3, 4] [0, 1, 2] rfl rfl (by decide) rfl⟩ rfl rfl hl.1 rfl (lv_room (Nat.le_of_ble_eq_true rfl)) d_Reader_readDateItem_69 ⟨Nat.le_of_ble_eq_true rfl, Nat.le_of_ble_eq_true rfl⟩) hP hD hS hA rfl rfl (by decide) (by decide) (fun r u H locs hv hP hD hS => ?_)
          have hP : va_P (dC, dI) zCl [(h0, .inr (8, o_Reader I0 h1 h2 h5)), (h1, .inl (cA1, n1, .inl f1)), (h2, .inr (1, o_Code u.1 a2_0 h3 h4)), (h3, .inl (cA3, n3, .inl u.2.1)), (h4, .inl (cA4, n4, .inl u.2.2)), (h5, .inr (9, o_Section I5))] H := hP.sub [1, 2, 3, 4, 5, 0] rfl
          have hD : va_D A [(h0, .inr (8, o_Reader I0 h1 h2 h5)), (h1, .inl (cA1, n1, .inl f1)), (h2, .inr (1, o_Code u.1 a2_0 h3 h4)), (h3, .inl (cA3, n3, .inl u.2.1)), (h4, .inl (cA4, n4, .inl u.2.2)), (h5, .inr (9, o_Section I5))] := hD.sub [1, 2, 3, 4, 5, 0] (by decide) rfl
          exact b_Reader_readDateItem_72 hc hA hE  (lv_sub hl [] rfl) hK hP hD hS hv
        · have hv := hv.2 c_4
          refine lv_aload_n hx hb d_Reader_readDateItem_59 rfl (lv_at hl 0 rfl) ?_
          refine lv_iload_n hx hb d_Reader_readDateItem_60 rfl (lv_at hl 1 rfl) ?_
          refine z_calli (wc := [(h0, .inr (8, o_Reader I0 h1 h2 h5)), (h2, .inr (1, o_Code I2 a2_0 h3 h4)), (h5, .inr (9, o_Section I5)), (h3, .inl (cA3, n3, .inl f3)), (h1, .inl (cA1, n1, .inl f1)), (h4, .inl (cA4, n4, .inl f4))]) (wr := []) [0, 2, 5, 3, 1, 4] [] (va_runV (As := [.int x1]) (rest := []) ⟨hx, hb, hml, hown, ht⟩ (m_Reader_readParts l dC dI hv) ⟨(callB_of 1 ht (zG_in zi_Reader_readParts) rfl rfl rfl (ht _ zw_113) (ht _ zw_793) zh_Reader_readParts ⟨Nat.le_of_ble_eq_true rfl, Nat.le_of_ble_eq_true rfl⟩), (ht _ zw_795), (ht _ zw_31)⟩ ⟨zPc_blind, va_recv hK hP (ci := 8) (q0 := 0) rfl rfl, zPc_pre hP hK hD hS hA hE [0, 2, 5, 3, 1, 4] [1, 0, 2] rfl rfl (by decide) rfl⟩ rfl rfl hl.1 rfl (lv_room (Nat.le_of_ble_eq_true rfl)) d_Reader_readDateItem_61 ⟨Nat.le_of_ble_eq_true rfl, Nat.le_of_ble_eq_true rfl⟩) hP hD hS hA rfl rfl (by decide) (by decide) (fun r u H locs hv hP hD hS => ?_)
          have hP : va_P (dC, dI) zCl [(h0, .inr (8, o_Reader I0 h1 h2 h5)), (h1, .inl (cA1, n1, .inl f1)), (h2, .inr (1, o_Code u.1 a2_0 h3 h4)), (h3, .inl (cA3, n3, .inl u.2.2.1)), (h4, .inl (cA4, n4, .inl u.2.2.2)), (h5, .inr (9, o_Section u.2.1))] H := hP.sub [0, 4, 1, 3, 5, 2] rfl
          have hD : va_D A [(h0, .inr (8, o_Reader I0 h1 h2 h5)), (h1, .inl (cA1, n1, .inl f1)), (h2, .inr (1, o_Code u.1 a2_0 h3 h4)), (h3, .inl (cA3, n3, .inl u.2.2.1)), (h4, .inl (cA4, n4, .inl u.2.2.2)), (h5, .inr (9, o_Section u.2.1))] := hD.sub [0, 4, 1, 3, 5, 2] (by decide) rfl
          exact b_Reader_readDateItem_64 hc hA hE  (lv_sub hl [] rfl) hK hP hD hS hv
      · have hv := hv.2 c_3
        refine lv_aload_n hx hb d_Reader_readDateItem_43 rfl (lv_at hl 0 rfl) ?_
        refine lv_aload_n hx hb d_Reader_readDateItem_44 rfl (lv_at hl 0 rfl) ?_
        refine lv_iload_n hx hb d_Reader_readDateItem_45 rfl (lv_at hl 1 rfl) ?_
        refine z_calli (wc := [(h0, .inr (8, o_Reader I0 h1 h2 h5)), (h1, .inl (cA1, n1, .inl f1))]) (wr := [(h2, .inr (1, o_Code I2 a2_0 h3 h4)), (h3, .inl (cA3, n3, .inl f3)), (h4, .inl (cA4, n4, .inl f4)), (h5, .inr (9, o_Section I5))]) [0, 1] [2, 3, 4, 5] (va_runV (As := [.int x1]) (rest := [.ref h0]) ⟨hx, hb, hml, hown, ht⟩ (m_Reader_halfDayLength l dC dI hv) ⟨(callB_of 1 ht (zG_in zi_Reader_halfDayLength) rfl rfl rfl (ht _ zw_113) (ht _ zw_692) zh_Reader_halfDayLength ⟨Nat.le_of_ble_eq_true rfl, Nat.le_of_ble_eq_true rfl⟩), (ht _ zw_694), (ht _ zw_12)⟩ ⟨zPc_blind, va_recv hK hP (ci := 8) (q0 := 0) rfl rfl, zPc_pre hP hK hD hS hA hE [0, 1] [0] rfl rfl (by decide) rfl⟩ rfl rfl hl.1 rfl (lv_room (Nat.le_of_ble_eq_true rfl)) d_Reader_readDateItem_46 ⟨Nat.le_of_ble_eq_true rfl, Nat.le_of_ble_eq_true rfl⟩) hP hD hS hA rfl rfl (by decide) (by decide) (fun r u H locs hv hP hD hS => ?_)
        have hP : va_P (dC, dI) zCl [(h0, .inr (8, o_Reader I0 h1 h2 h5)), (h1, .inl (cA1, n1, .inl f1)), (h2, .inr (1, o_Code I2 a2_0 h3 h4)), (h3, .inl (cA3, n3, .inl f3)), (h4, .inl (cA4, n4, .inl f4)), (h5, .inr (9, o_Section I5))] H := hP.sub [4, 5, 0, 1, 2, 3] rfl
        have hD : va_D A [(h0, .inr (8, o_Reader I0 h1 h2 h5)), (h1, .inl (cA1, n1, .inl f1)), (h2, .inr (1, o_Code I2 a2_0 h3 h4)), (h3, .inl (cA3, n3, .inl f3)), (h4, .inl (cA4, n4, .inl f4)), (h5, .inr (9, o_Section I5))] := hD.sub [4, 5, 0, 1, 2, 3] (by decide) rfl
        exact b_Reader_readDateItem_49 hc hA hE  (lv_sub hl [] rfl) hK hP hD hS hv
    · have hv := hv.2 c_2
      refine lv_aload_n hx hb d_Reader_readDateItem_26 rfl (lv_at hl 0 rfl) ?_
      refine lv_iload_n hx hb d_Reader_readDateItem_27 rfl (lv_at hl 1 rfl) ?_
      refine lv_aload_n hx hb d_Reader_readDateItem_28 rfl (lv_at hl 0 rfl) ?_
      refine lv_iload_n hx hb d_Reader_readDateItem_29 rfl (lv_at hl 1 rfl) ?_
      refine z_calli (wc := [(h0, .inr (8, o_Reader I0 h1 h2 h5)), (h1, .inl (cA1, n1, .inl f1))]) (wr := [(h2, .inr (1, o_Code I2 a2_0 h3 h4)), (h3, .inl (cA3, n3, .inl f3)), (h4, .inl (cA4, n4, .inl f4)), (h5, .inr (9, o_Section I5))]) [0, 1] [2, 3, 4, 5] (va_runV (As := [.int x1]) (rest := [.int x1, .ref h0]) ⟨hx, hb, hml, hown, ht⟩ (m_Reader_bracketRow l dC dI hv) ⟨(callB_of 1 ht (zG_in zi_Reader_bracketRow) rfl rfl rfl (ht _ zw_113) (ht _ zw_684) zh_Reader_bracketRow ⟨Nat.le_of_ble_eq_true rfl, Nat.le_of_ble_eq_true rfl⟩), (ht _ zw_686), (ht _ zw_10)⟩ ⟨zPc_blind, va_recv hK hP (ci := 8) (q0 := 0) rfl rfl, zPc_pre hP hK hD hS hA hE [0, 1] [0] rfl rfl (by decide) rfl⟩ rfl rfl hl.1 rfl (lv_room (Nat.le_of_ble_eq_true rfl)) d_Reader_readDateItem_30 ⟨Nat.le_of_ble_eq_true rfl, Nat.le_of_ble_eq_true rfl⟩) hP hD hS hA rfl rfl (by decide) (by decide) (fun r u H locs hv hP hD hS => ?_)
      have hP : va_P (dC, dI) zCl [(h0, .inr (8, o_Reader I0 h1 h2 h5)), (h1, .inl (cA1, n1, .inl f1)), (h2, .inr (1, o_Code I2 a2_0 h3 h4)), (h3, .inl (cA3, n3, .inl f3)), (h4, .inl (cA4, n4, .inl f4)), (h5, .inr (9, o_Section I5))] H := hP.sub [4, 5, 0, 1, 2, 3] rfl
      have hD : va_D A [(h0, .inr (8, o_Reader I0 h1 h2 h5)), (h1, .inl (cA1, n1, .inl f1)), (h2, .inr (1, o_Code I2 a2_0 h3 h4)), (h3, .inl (cA3, n3, .inl f3)), (h4, .inl (cA4, n4, .inl f4)), (h5, .inr (9, o_Section I5))] := hD.sub [4, 5, 0, 1, 2, 3] (by decide) rfl
      exact b_Reader_readDateItem_33 hc hA hE  (lv_sub hl [] rfl) hK hP hD hS hv
  · have hv := hv.2 c_1
    refine lv_aload_n hx hb d_Reader_readDateItem_13 rfl (lv_at hl 0 rfl) ?_
    refine lv_iload_n hx hb d_Reader_readDateItem_14 rfl (lv_at hl 1 rfl) ?_
    refine lv_iload_n hx hb d_Reader_readDateItem_15 rfl (lv_at hl 2 rfl) ?_
    refine z_calli (wc := [(h0, .inr (8, o_Reader I0 h1 h2 h5)), (h1, .inl (cA1, n1, .inl f1)), (h2, .inr (1, o_Code I2 a2_0 h3 h4)), (h3, .inl (cA3, n3, .inl f3)), (h4, .inl (cA4, n4, .inl f4))]) (wr := [(h5, .inr (9, o_Section I5))]) [0, 1, 2, 3, 4] [5] (va_runV (As := [.int x1, .int x2]) (rest := []) ⟨hx, hb, hml, hown, ht⟩ (m_Reader_readRow l dC dI hv) ⟨(callB_of 2 ht (zG_in zi_Reader_readRow) rfl rfl rfl (ht _ zw_113) (ht _ zw_777) zh_Reader_readRow ⟨Nat.le_of_ble_eq_true rfl, Nat.le_of_ble_eq_true rfl⟩), (ht _ zw_779), (ht _ zw_27)⟩ ⟨zPc_blind, va_recv hK hP (ci := 8) (q0 := 0) rfl rfl, zPc_pre hP hK hD hS hA hE [0, 1, 2, 3, 4] [0, 1, 2] rfl rfl (by decide) rfl⟩ rfl rfl hl.1 rfl (lv_room (Nat.le_of_ble_eq_true rfl)) d_Reader_readDateItem_16 ⟨Nat.le_of_ble_eq_true rfl, Nat.le_of_ble_eq_true rfl⟩) hP hD hS hA rfl rfl (by decide) (by decide) (fun r u H locs hv hP hD hS => ?_)
    have hP : va_P (dC, dI) zCl [(h0, .inr (8, o_Reader I0 h1 h2 h5)), (h1, .inl (cA1, n1, .inl f1)), (h2, .inr (1, o_Code u.1 a2_0 h3 h4)), (h3, .inl (cA3, n3, .inl u.2.1)), (h4, .inl (cA4, n4, .inl u.2.2)), (h5, .inr (9, o_Section I5))] H := hP.sub [1, 2, 3, 4, 5, 0] rfl
    have hD : va_D A [(h0, .inr (8, o_Reader I0 h1 h2 h5)), (h1, .inl (cA1, n1, .inl f1)), (h2, .inr (1, o_Code u.1 a2_0 h3 h4)), (h3, .inl (cA3, n3, .inl u.2.1)), (h4, .inl (cA4, n4, .inl u.2.2)), (h5, .inr (9, o_Section I5))] := hD.sub [1, 2, 3, 4, 5, 0] (by decide) rfl
    exact b_Reader_readDateItem_19 hc hA hE  (lv_sub hl [] rfl) hK hP hD hS hv
set_option maxHeartbeats 4000000 in
set_option maxRecDepth 100000 in
theorem b_Reader_readDateItem_5 {h0 : Nat} {h1 : Nat} {cA1 : ClassId} {h2 : Nat} {a2_0 : Nat} {h3 : Nat} {cA3 : ClassId} {h4 : Nat} {cA4 : ClassId} {h5 : Nat} {I0 : Nat → Int32} {n1 : Nat} {f1 : Nat → Int32} {I2 : Nat → Int32} {n3 : Nat} {f3 : Nat → Int32} {n4 : Nat} {f4 : Nat → Int32} {I5 : Nat → Int32} {x1 : Int32} {s0 : Int32}  {Z : Int32 → (Nat → Int32) × (Nat → Int32) × (Nat → Int32) × (Nat → Int32) → Prop} {H : Heap} {locs : List Loc} {ls : Array Slot} (hc : zC p s m args meth c prog_9_method_24_code (some .int) 3 "NumberDress$Reader") (hA : ∀ q : Nat, s.heap.size ≤ q → A q) (hE : zE gE A s) (hl : lv_has ls 3 [(0, .ref h0), (1, .int x1)]) (hK : va_K (dC, dI) zCl [(cA1, .char), (cA3, .int), (cA4, .int)] s) (hP : va_P (dC, dI) zCl [(h0, .inr (8, o_Reader I0 h1 h2 h5)), (h1, .inl (cA1, n1, .inl f1)), (h2, .inr (1, o_Code I2 a2_0 h3 h4)), (h3, .inl (cA3, n3, .inl f3)), (h4, .inl (cA4, n4, .inl f4)), (h5, .inr (9, o_Section I5))] H) (hD : va_D A [(h0, .inr (8, o_Reader I0 h1 h2 h5)), (h1, .inl (cA1, n1, .inl f1)), (h2, .inr (1, o_Code I2 a2_0 h3 h4)), (h3, .inl (cA3, n3, .inl f3)), (h4, .inl (cA4, n4, .inl f4)), (h5, .inr (9, o_Section I5))]) (hS : va_S A s.heap H locs) (hv : v_Reader_readDateItem_5 I0 n1 f1 I2 n3 f3 n4 f4 I5 x1 s0  Z) : W p l e (headSpec (Cond.code (⟨"NumberDress$Reader", "readDateItem", "(I)I"⟩ : MethodName) prog_9_method_24_code 3 (some .int) :: zT) { frames := 6, cells := 0, slots := 0, locals := 129 }).room s m args below meth c H locs 0 0 (MQ below (va_Qi Z (zB (dC, dI) zCl [(cA1, .char), (cA3, .int), (cA4, .int)] A (fun u : (Nat → Int32) × (Nat → Int32) × (Nat → Int32) × (Nat → Int32) => [(h0, .inr (8, o_Reader I0 h1 h2 h5)), (h1, .inl (cA1, n1, .inl f1)), (h2, .inr (1, o_Code u.1 a2_0 h3 h4)), (h3, .inl (cA3, n3, .inl u.2.1)), (h4, .inl (cA4, n4, .inl u.2.2.1)), (h5, .inr (9, o_Section u.2.2.2))])) A) args s 0 0 A) (F0 m 5 ls [.int s0]) := by
  obtain ⟨hx, hb, hr, hml, hown, ht, hlocks⟩ := id hc
  unfold v_Reader_readDateItem_5 at hv
  refine lv_istore_n (lv' := [(2, .int s0), (0, .ref h0), (1, .int x1)]) hx hb d_Reader_readDateItem_5 rfl hl (by decide) rfl (fun ls hl => ?_)
  refine lv_iload_n hx hb d_Reader_readDateItem_6 rfl (lv_at hl 0 rfl) ?_
  refine z_calli (wc := []) (wr := [(h0, .inr (8, o_Reader I0 h1 h2 h5)), (h1, .inl (cA1, n1, .inl f1)), (h2, .inr (1, o_Code I2 a2_0 h3 h4)), (h3, .inl (cA3, n3, .inl f3)), (h4, .inl (cA4, n4, .inl f4)), (h5, .inr (9, o_Section I5))]) [] [0, 1, 2, 3, 4, 5] (va_runS (As := [.int s0]) (rest := []) ⟨hx, hb, hml, hown, ht⟩ (m_Reader_isDateLetter l dC dI hv) ⟨(callB_of 1 ht (zG_in zi_Reader_isDateLetter) rfl rfl rfl (ht _ zw_113) (ht _ zw_681) zh_Reader_isDateLetter ⟨Nat.le_of_ble_eq_true rfl, Nat.le_of_ble_eq_true rfl⟩), (ht _ zw_682)⟩ ⟨zPc_blind, zPc_pre hP hK hD hS hA hE [] [] rfl rfl (by decide) rfl⟩ rfl rfl hl.1 rfl (lv_room (Nat.le_of_ble_eq_true rfl)) d_Reader_readDateItem_7 ⟨Nat.le_of_ble_eq_true rfl, Nat.le_of_ble_eq_true rfl⟩) hP hD hS hA rfl rfl (by decide) (by decide) (fun r u H locs hv hP hD hS => ?_)
  have hP : va_P (dC, dI) zCl [(h0, .inr (8, o_Reader I0 h1 h2 h5)), (h1, .inl (cA1, n1, .inl f1)), (h2, .inr (1, o_Code I2 a2_0 h3 h4)), (h3, .inl (cA3, n3, .inl f3)), (h4, .inl (cA4, n4, .inl f4)), (h5, .inr (9, o_Section I5))] H := hP.sub [0, 1, 2, 3, 4, 5] rfl
  have hD : va_D A [(h0, .inr (8, o_Reader I0 h1 h2 h5)), (h1, .inl (cA1, n1, .inl f1)), (h2, .inr (1, o_Code I2 a2_0 h3 h4)), (h3, .inl (cA3, n3, .inl f3)), (h4, .inl (cA4, n4, .inl f4)), (h5, .inr (9, o_Section I5))] := hD.sub [0, 1, 2, 3, 4, 5] (by decide) rfl
  exact b_Reader_readDateItem_10 hc hA hE  (lv_sub hl [1, 2, 0] rfl) hK hP hD hS hv
set_option maxHeartbeats 4000000 in
set_option maxRecDepth 100000 in
theorem b_Reader_readDateItem_0 {h0 : Nat} {h1 : Nat} {cA1 : ClassId} {h2 : Nat} {a2_0 : Nat} {h3 : Nat} {cA3 : ClassId} {h4 : Nat} {cA4 : ClassId} {h5 : Nat} {I0 : Nat → Int32} {n1 : Nat} {f1 : Nat → Int32} {I2 : Nat → Int32} {n3 : Nat} {f3 : Nat → Int32} {n4 : Nat} {f4 : Nat → Int32} {I5 : Nat → Int32} {x1 : Int32}  {Z : Int32 → (Nat → Int32) × (Nat → Int32) × (Nat → Int32) × (Nat → Int32) → Prop} {H : Heap} {locs : List Loc} {ls : Array Slot} (hc : zC p s m args meth c prog_9_method_24_code (some .int) 3 "NumberDress$Reader") (hA : ∀ q : Nat, s.heap.size ≤ q → A q) (hE : zE gE A s) (hl : lv_has ls 3 [(0, .ref h0), (1, .int x1)]) (hK : va_K (dC, dI) zCl [(cA1, .char), (cA3, .int), (cA4, .int)] s) (hP : va_P (dC, dI) zCl [(h0, .inr (8, o_Reader I0 h1 h2 h5)), (h1, .inl (cA1, n1, .inl f1)), (h2, .inr (1, o_Code I2 a2_0 h3 h4)), (h3, .inl (cA3, n3, .inl f3)), (h4, .inl (cA4, n4, .inl f4)), (h5, .inr (9, o_Section I5))] H) (hD : va_D A [(h0, .inr (8, o_Reader I0 h1 h2 h5)), (h1, .inl (cA1, n1, .inl f1)), (h2, .inr (1, o_Code I2 a2_0 h3 h4)), (h3, .inl (cA3, n3, .inl f3)), (h4, .inl (cA4, n4, .inl f4)), (h5, .inr (9, o_Section I5))]) (hS : va_S A s.heap H locs) (hv : v_Reader_readDateItem_0 I0 n1 f1 I2 n3 f3 n4 f4 I5 x1  Z) : W p l e (headSpec (Cond.code (⟨"NumberDress$Reader", "readDateItem", "(I)I"⟩ : MethodName) prog_9_method_24_code 3 (some .int) :: zT) { frames := 6, cells := 0, slots := 0, locals := 129 }).room s m args below meth c H locs 0 0 (MQ below (va_Qi Z (zB (dC, dI) zCl [(cA1, .char), (cA3, .int), (cA4, .int)] A (fun u : (Nat → Int32) × (Nat → Int32) × (Nat → Int32) × (Nat → Int32) => [(h0, .inr (8, o_Reader I0 h1 h2 h5)), (h1, .inl (cA1, n1, .inl f1)), (h2, .inr (1, o_Code u.1 a2_0 h3 h4)), (h3, .inl (cA3, n3, .inl u.2.1)), (h4, .inl (cA4, n4, .inl u.2.2.1)), (h5, .inr (9, o_Section u.2.2.2))])) A) args s 0 0 A) (F0 m 0 ls []) := by
  obtain ⟨hx, hb, hr, hml, hown, ht, hlocks⟩ := id hc
  unfold v_Reader_readDateItem_0 at hv
  refine lv_aload_n hx hb d_Reader_readDateItem_0 rfl (lv_at hl 0 rfl) ?_
  refine lv_iload_n hx hb d_Reader_readDateItem_1 rfl (lv_at hl 1 rfl) ?_
  refine z_calli (wc := [(h0, .inr (8, o_Reader I0 h1 h2 h5)), (h1, .inl (cA1, n1, .inl f1))]) (wr := [(h2, .inr (1, o_Code I2 a2_0 h3 h4)), (h3, .inl (cA3, n3, .inl f3)), (h4, .inl (cA4, n4, .inl f4)), (h5, .inr (9, o_Section I5))]) [0, 1] [2, 3, 4, 5] (va_runV (As := [.int x1]) (rest := []) ⟨hx, hb, hml, hown, ht⟩ (m_Reader_small l dC dI hv) ⟨(callB_of 1 ht (zG_in zi_Reader_small) rfl rfl rfl (ht _ zw_113) (ht _ zw_553) zh_Reader_small ⟨Nat.le_of_ble_eq_true rfl, Nat.le_of_ble_eq_true rfl⟩), (ht _ zw_555), (ht _ zw_6)⟩ ⟨zPc_blind, va_recv hK hP (ci := 8) (q0 := 0) rfl rfl, zPc_pre hP hK hD hS hA hE [0, 1] [0] rfl rfl (by decide) rfl⟩ rfl rfl hl.1 rfl (lv_room (Nat.le_of_ble_eq_true rfl)) d_Reader_readDateItem_2 ⟨Nat.le_of_ble_eq_true rfl, Nat.le_of_ble_eq_true rfl⟩) hP hD hS hA rfl rfl (by decide) (by decide) (fun r u H locs hv hP hD hS => ?_)
  have hP : va_P (dC, dI) zCl [(h0, .inr (8, o_Reader I0 h1 h2 h5)), (h1, .inl (cA1, n1, .inl f1)), (h2, .inr (1, o_Code I2 a2_0 h3 h4)), (h3, .inl (cA3, n3, .inl f3)), (h4, .inl (cA4, n4, .inl f4)), (h5, .inr (9, o_Section I5))] H := hP.sub [4, 5, 0, 1, 2, 3] rfl
  have hD : va_D A [(h0, .inr (8, o_Reader I0 h1 h2 h5)), (h1, .inl (cA1, n1, .inl f1)), (h2, .inr (1, o_Code I2 a2_0 h3 h4)), (h3, .inl (cA3, n3, .inl f3)), (h4, .inl (cA4, n4, .inl f4)), (h5, .inr (9, o_Section I5))] := hD.sub [4, 5, 0, 1, 2, 3] (by decide) rfl
  exact b_Reader_readDateItem_5 hc hA hE  (lv_sub hl [0, 1] rfl) hK hP hD hS hv
theorem zi_Reader_readDateItem : Cond.code (⟨"NumberDress$Reader", "readDateItem", "(I)I"⟩ : MethodName) prog_9_method_24_code 3 (some .int) ∈ zT := zw_776
theorem zh_Reader_readDateItem : (((⟨"NumberDress$Reader", "readDateItem", "(I)I"⟩ : MethodName)).cls ≠ "java/lang/invoke/MethodHandle" ∧ ((⟨"NumberDress$Reader", "readDateItem", "(I)I"⟩ : MethodName)).cls ≠ "java/lang/invoke/VarHandle" ∧ (parseMethodDescriptor ((⟨"NumberDress$Reader", "readDateItem", "(I)I"⟩ : MethodName)).desc).map (fun d => d.parameters.length) = some 1) := by decide +kernel
set_option maxHeartbeats 4000000 in
set_option maxRecDepth 100000 in
theorem m_Reader_readDateItem (l : Launch) (dC : Nat → ClassId) (dI : Nat → Nat → Nat) {gE : zG} {h0 : Nat} {h1 : Nat} {cA1 : ClassId} {h2 : Nat} {a2_0 : Nat} {h3 : Nat} {cA3 : ClassId} {h4 : Nat} {cA4 : ClassId} {h5 : Nat} {I0 : Nat → Int32} {n1 : Nat} {f1 : Nat → Int32} {I2 : Nat → Int32} {n3 : Nat} {f3 : Nat → Int32} {n4 : Nat} {f4 : Nat → Int32} {I5 : Nat → Int32} {x1 : Int32} {sz : Nat} {Z : Int32 → (Nat → Int32) × (Nat → Int32) × (Nat → Int32) × (Nat → Int32) → Prop} (hv : v_Reader_readDateItem_0 I0 n1 f1 I2 n3 f3 n4 f4 I5 x1 Z) : Met l (⟨"NumberDress$Reader", "readDateItem", "(I)I"⟩ : MethodName) (Cond.code (⟨"NumberDress$Reader", "readDateItem", "(I)I"⟩ : MethodName) prog_9_method_24_code 3 (some .int) :: zT) { frames := 6, cells := 0, slots := 0, locals := 129 } (zPc gE (dC, dI) zCl [(cA1, .char), (cA3, .int), (cA4, .int)] [.ref h0, .int x1] sz [(h0, .inr (8, o_Reader I0 h1 h2 h5)), (h1, .inl (cA1, n1, .inl f1)), (h2, .inr (1, o_Code I2 a2_0 h3 h4)), (h3, .inl (cA3, n3, .inl f3)), (h4, .inl (cA4, n4, .inl f4)), (h5, .inr (9, o_Section I5))]) (va_Qi Z (zB (dC, dI) zCl [(cA1, .char), (cA3, .int), (cA4, .int)] (va_A [(h0, .inr (8, o_Reader I0 h1 h2 h5)), (h1, .inl (cA1, n1, .inl f1)), (h2, .inr (1, o_Code I2 a2_0 h3 h4)), (h3, .inl (cA3, n3, .inl f3)), (h4, .inl (cA4, n4, .inl f4)), (h5, .inr (9, o_Section I5))] sz) (fun u : (Nat → Int32) × (Nat → Int32) × (Nat → Int32) × (Nat → Int32) => [(h0, .inr (8, o_Reader I0 h1 h2 h5)), (h1, .inl (cA1, n1, .inl f1)), (h2, .inr (1, o_Code u.1 a2_0 h3 h4)), (h3, .inl (cA3, n3, .inl u.2.1)), (h4, .inl (cA4, n4, .inl u.2.2.1)), (h5, .inr (9, o_Section u.2.2.2))])) (va_A [(h0, .inr (8, o_Reader I0 h1 h2 h5)), (h1, .inl (cA1, n1, .inl f1)), (h2, .inr (1, o_Code I2 a2_0 h3 h4)), (h3, .inl (cA3, n3, .inl f3)), (h4, .inl (cA4, n4, .inl f4)), (h5, .inr (9, o_Section I5))] sz)) 0 0 (va_A [(h0, .inr (8, o_Reader I0 h1 h2 h5)), (h1, .inl (cA1, n1, .inl f1)), (h2, .inr (1, o_Code I2 a2_0 h3 h4)), (h3, .inl (cA3, n3, .inl f3)), (h4, .inl (cA4, n4, .inl f4)), (h5, .inr (9, o_Section I5))] sz) := by
  refine Met.ofW (cc := prog_9_method_24_code) (maxL := 3) (ret := (some .int)) (by decide +kernel) rfl ?_
  intro p e s m args below meth c s₁ B hml hp
  obtain ⟨rfl, hsz, hP, hK, hD0, hE⟩ := hp
  have hts := atoms_spec (ws := (Cond.code (⟨"NumberDress$Reader", "readDateItem", "(I)I"⟩ : MethodName) prog_9_method_24_code 3 (some .int) :: zT)) B.pre
  have hown : s.vm.findClass "NumberDress$Reader" = some m.cls := findClass_of_methodNamed B.named
  have hc : zC p s m _ meth c prog_9_method_24_code (some .int) 3 "NumberDress$Reader" := ⟨B.exec, B.bytes, B.returns, hml, hown, fun w h => hts w (List.mem_cons_of_mem _ h), B.notSynchronized⟩
  subst hsz
  have hD := hD0.self (sz := s.heap.size)
  generalize hAe : va_A [(h0, .inr (8, o_Reader I0 h1 h2 h5)), (h1, .inl (cA1, n1, .inl f1)), (h2, .inr (1, o_Code I2 a2_0 h3 h4)), (h3, .inl (cA3, n3, .inl f3)), (h4, .inl (cA4, n4, .inl f4)), (h5, .inr (9, o_Section I5))] s.heap.size = A at hD hE ⊢
  have hA : ∀ q : Nat, s.heap.size ≤ q → A q := fun q h => by rw [← hAe]; exact Or.inr h
  have hl := lv_entry ([.ref h0, .int x1]) (n := 3) (Nat.le_of_ble_eq_true rfl)
  rw [lg_entry_eq]
  exact b_Reader_readDateItem_0 hc hA hE hl hK hP hD va_S.rf hv
theorem d_Reader_readComma_0 : decode prog_9_method_18_code 0 = .ok (.aload_n 0, 1) := by decide +kernel
theorem d_Reader_readComma_1 : decode prog_9_method_18_code 1 = .ok (.invokevirtual 183, 3) := by decide +kernel
theorem d_Reader_readComma_4 : decode prog_9_method_18_code 4 = .ok (.istore_n 2, 1) := by decide +kernel
theorem d_Reader_readComma_5 : decode prog_9_method_18_code 5 = .ok (.iload_n 2, 1) := by decide +kernel
theorem d_Reader_readComma_6 : decode prog_9_method_18_code 6 = .ok (.iconst 2, 1) := by decide +kernel
theorem d_Reader_readComma_7 : decode prog_9_method_18_code 7 = .ok (.if_icmp .ne 32, 3) := by decide +kernel
theorem d_Reader_readComma_10 : decode prog_9_method_18_code 10 = .ok (.aload_n 0, 1) := by decide +kernel
theorem d_Reader_readComma_11 : decode prog_9_method_18_code 11 = .ok (.iload_n 1, 1) := by decide +kernel
theorem d_Reader_readComma_12 : decode prog_9_method_18_code 12 = .ok (.iconst 1, 1) := by decide +kernel
theorem d_Reader_readComma_13 : decode prog_9_method_18_code 13 = .ok (.iadd, 1) := by decide +kernel
theorem d_Reader_readComma_14 : decode prog_9_method_18_code 14 = .ok (.invokevirtual 86, 3) := by decide +kernel
theorem d_Reader_readComma_17 : decode prog_9_method_18_code 17 = .ok (.invokestatic 102, 3) := by decide +kernel
theorem d_Reader_readComma_20 : decode prog_9_method_18_code 20 = .ok (.ifCond .eq 19, 3) := by decide +kernel
theorem d_Reader_readComma_23 : decode prog_9_method_18_code 23 = .ok (.aload_n 0, 1) := by decide +kernel
theorem d_Reader_readComma_24 : decode prog_9_method_18_code 24 = .ok (.getfield 25, 3) := by decide +kernel
theorem d_Reader_readComma_27 : decode prog_9_method_18_code 27 = .ok (.iconst 1, 1) := by decide +kernel
theorem d_Reader_readComma_28 : decode prog_9_method_18_code 28 = .ok (.putfield 186, 3) := by decide +kernel
theorem d_Reader_readComma_31 : decode prog_9_method_18_code 31 = .ok (.aload_n 0, 1) := by decide +kernel
theorem d_Reader_readComma_32 : decode prog_9_method_18_code 32 = .ok (.iconst 5, 1) := by decide +kernel
theorem d_Reader_readComma_33 : decode prog_9_method_18_code 33 = .ok (.bipush 44, 2) := by decide +kernel
theorem d_Reader_readComma_35 : decode prog_9_method_18_code 35 = .ok (.invokevirtual 124, 3) := by decide +kernel
theorem d_Reader_readComma_38 : decode prog_9_method_18_code 38 = .ok (.ireturn, 1) := by decide +kernel
theorem d_Reader_readComma_39 : decode prog_9_method_18_code 39 = .ok (.iload_n 2, 1) := by decide +kernel
theorem d_Reader_readComma_40 : decode prog_9_method_18_code 40 = .ok (.iconst 2, 1) := by decide +kernel
theorem d_Reader_readComma_41 : decode prog_9_method_18_code 41 = .ok (.if_icmp .eq 9, 3) := by decide +kernel
theorem d_Reader_readComma_44 : decode prog_9_method_18_code 44 = .ok (.iload_n 2, 1) := by decide +kernel
theorem d_Reader_readComma_45 : decode prog_9_method_18_code 45 = .ok (.bipush 6, 2) := by decide +kernel
theorem d_Reader_readComma_47 : decode prog_9_method_18_code 47 = .ok (.if_icmp .ne 25, 3) := by decide +kernel
theorem d_Reader_readComma_50 : decode prog_9_method_18_code 50 = .ok (.aload_n 0, 1) := by decide +kernel
theorem d_Reader_readComma_51 : decode prog_9_method_18_code 51 = .ok (.getfield 25, 3) := by decide +kernel
theorem d_Reader_readComma_54 : decode prog_9_method_18_code 54 = .ok (.dup, 1) := by decide +kernel
theorem d_Reader_readComma_55 : decode prog_9_method_18_code 55 = .ok (.getfield 177, 3) := by decide +kernel
theorem d_Reader_readComma_58 : decode prog_9_method_18_code 58 = .ok (.iconst 1, 1) := by decide +kernel
theorem d_Reader_readComma_59 : decode prog_9_method_18_code 59 = .ok (.iadd, 1) := by decide +kernel
theorem d_Reader_readComma_60 : decode prog_9_method_18_code 60 = .ok (.putfield 177, 3) := by decide +kernel
theorem d_Reader_readComma_63 : decode prog_9_method_18_code 63 = .ok (.aload_n 0, 1) := by decide +kernel
theorem d_Reader_readComma_64 : decode prog_9_method_18_code 64 = .ok (.bipush 6, 2) := by decide +kernel
theorem d_Reader_readComma_66 : decode prog_9_method_18_code 66 = .ok (.bipush 44, 2) := by decide +kernel
theorem d_Reader_readComma_68 : decode prog_9_method_18_code 68 = .ok (.invokevirtual 124, 3) := by decide +kernel
theorem d_Reader_readComma_71 : decode prog_9_method_18_code 71 = .ok (.ireturn, 1) := by decide +kernel
theorem d_Reader_readComma_72 : decode prog_9_method_18_code 72 = .ok (.iconst 0, 1) := by decide +kernel
theorem d_Reader_readComma_73 : decode prog_9_method_18_code 73 = .ok (.ireturn, 1) := by decide +kernel
def v_Reader_readComma_38 (I0 : Nat → Int32) (I1 : Nat → Int32) (I2 : Nat → Int32) (n3 : Nat) (f3 : Nat → Int32) (n4 : Nat) (f4 : Nat → Int32) (n5 : Nat) (f5 : Nat → Int32) (s0 : Int32)  (Z : Int32 → (Nat → Int32) × (Nat → Int32) × (Nat → Int32) × (Nat → Int32) → Prop) : Prop :=
  (Z s0 (I1, I2, f3, f5))
def v_Reader_readComma_71 (I0 : Nat → Int32) (I1 : Nat → Int32) (I2 : Nat → Int32) (n3 : Nat) (f3 : Nat → Int32) (n4 : Nat) (f4 : Nat → Int32) (n5 : Nat) (f5 : Nat → Int32) (s0 : Int32)  (Z : Int32 → (Nat → Int32) × (Nat → Int32) × (Nat → Int32) × (Nat → Int32) → Prop) : Prop :=
  (Z s0 (I1, I2, f3, f5))
def v_Reader_readComma_50 (I0 : Nat → Int32) (I1 : Nat → Int32) (I2 : Nat → Int32) (n3 : Nat) (f3 : Nat → Int32) (n4 : Nat) (f4 : Nat → Int32) (n5 : Nat) (f5 : Nat → Int32)  (Z : Int32 → (Nat → Int32) × (Nat → Int32) × (Nat → Int32) × (Nat → Int32) → Prop) : Prop :=
  (v_Reader_addOne_0 I0 I1 n3 f3 n5 f5 (6 : Int32) (44 : Int32) (fun r u => (v_Reader_readComma_71 I0 u.1 (zu I2 7 ((I2 7) + (1 : Int32))) n3 u.2.1 n4 f4 n5 u.2.2 r  Z)))
def v_Reader_readComma_39 (I0 : Nat → Int32) (I1 : Nat → Int32) (I2 : Nat → Int32) (n3 : Nat) (f3 : Nat → Int32) (n4 : Nat) (f4 : Nat → Int32) (n5 : Nat) (f5 : Nat → Int32) (x2 : Int32)  (Z : Int32 → (Nat → Int32) × (Nat → Int32) × (Nat → Int32) × (Nat → Int32) → Prop) : Prop :=
  ((x2 = (2 : Int32) → (v_Reader_readComma_50 I0 I1 I2 n3 f3 n4 f4 n5 f5  Z)) ∧ (¬ x2 = (2 : Int32) → ((¬ x2 = (6 : Int32) → (Z (0 : Int32) (I1, I2, f3, f5))) ∧ (x2 = (6 : Int32) → (v_Reader_readComma_50 I0 I1 I2 n3 f3 n4 f4 n5 f5  Z)))))
def v_Reader_readComma_20 (I0 : Nat → Int32) (I1 : Nat → Int32) (I2 : Nat → Int32) (n3 : Nat) (f3 : Nat → Int32) (n4 : Nat) (f4 : Nat → Int32) (n5 : Nat) (f5 : Nat → Int32) (x2 : Int32) (s0 : Int32)  (Z : Int32 → (Nat → Int32) × (Nat → Int32) × (Nat → Int32) × (Nat → Int32) → Prop) : Prop :=
  ((s0 = 0 → (v_Reader_readComma_39 I0 I1 I2 n3 f3 n4 f4 n5 f5 x2  Z)) ∧ (¬ s0 = 0 → (v_Reader_addOne_0 I0 I1 n3 f3 n5 f5 (5 : Int32) (44 : Int32) (fun r u => (v_Reader_readComma_38 I0 u.1 (zu I2 6 (1 : Int32)) n3 u.2.1 n4 f4 n5 u.2.2 r  Z)))))
def v_Reader_readComma_17 (I0 : Nat → Int32) (I1 : Nat → Int32) (I2 : Nat → Int32) (n3 : Nat) (f3 : Nat → Int32) (n4 : Nat) (f4 : Nat → Int32) (n5 : Nat) (f5 : Nat → Int32) (x2 : Int32) (s0 : Int32)  (Z : Int32 → (Nat → Int32) × (Nat → Int32) × (Nat → Int32) × (Nat → Int32) → Prop) : Prop :=
  (v_Reader_isPlace_0 s0 (fun r u => (v_Reader_readComma_20 I0 I1 I2 n3 f3 n4 f4 n5 f5 x2 r  Z)))
def v_Reader_readComma_4 (I0 : Nat → Int32) (I1 : Nat → Int32) (I2 : Nat → Int32) (n3 : Nat) (f3 : Nat → Int32) (n4 : Nat) (f4 : Nat → Int32) (n5 : Nat) (f5 : Nat → Int32) (x1 : Int32) (s0 : Int32)  (Z : Int32 → (Nat → Int32) × (Nat → Int32) × (Nat → Int32) × (Nat → Int32) → Prop) : Prop :=
  ((¬ s0 = (2 : Int32) → (v_Reader_readComma_39 I0 I1 I2 n3 f3 n4 f4 n5 f5 s0  Z)) ∧ (s0 = (2 : Int32) → (v_Reader_sign_0 I0 n4 f4 (x1 + (1 : Int32)) (fun r u => (v_Reader_readComma_17 I0 I1 I2 n3 f3 n4 f4 n5 f5 s0 r  Z)))))
def v_Reader_readComma_0 (I0 : Nat → Int32) (I1 : Nat → Int32) (I2 : Nat → Int32) (n3 : Nat) (f3 : Nat → Int32) (n4 : Nat) (f4 : Nat → Int32) (n5 : Nat) (f5 : Nat → Int32) (x1 : Int32)  (Z : Int32 → (Nat → Int32) × (Nat → Int32) × (Nat → Int32) × (Nat → Int32) → Prop) : Prop :=
  (v_Reader_kindBefore_0 I0 I1 I2 n3 f3 (fun r u => (v_Reader_readComma_4 I0 I1 I2 n3 f3 n4 f4 n5 f5 x1 r  Z)))
set_option maxHeartbeats 4000000 in
set_option maxRecDepth 100000 in
theorem b_Reader_readComma_38 {h0 : Nat} {h1 : Nat} {a1_0 : Nat} {h2 : Nat} {h3 : Nat} {cA3 : ClassId} {h4 : Nat} {cA4 : ClassId} {h5 : Nat} {cA5 : ClassId} {I0 : Nat → Int32} {I1 : Nat → Int32} {I2 : Nat → Int32} {n3 : Nat} {f3 : Nat → Int32} {n4 : Nat} {f4 : Nat → Int32} {n5 : Nat} {f5 : Nat → Int32} {s0 : Int32}  {Z : Int32 → (Nat → Int32) × (Nat → Int32) × (Nat → Int32) × (Nat → Int32) → Prop} {H : Heap} {locs : List Loc} {ls : Array Slot} (hc : zC p s m args meth c prog_9_method_18_code (some .int) 3 "NumberDress$Reader") (hA : ∀ q : Nat, s.heap.size ≤ q → A q) (hE : zE gE A s) (hl : lv_has ls 3 []) (hK : va_K (dC, dI) zCl [(cA3, .int), (cA4, .char), (cA5, .int)] s) (hP : va_P (dC, dI) zCl [(h0, .inr (8, o_Reader I0 h4 h1 h2)), (h1, .inr (1, o_Code I1 a1_0 h3 h5)), (h2, .inr (9, o_Section I2)), (h3, .inl (cA3, n3, .inl f3)), (h4, .inl (cA4, n4, .inl f4)), (h5, .inl (cA5, n5, .inl f5))] H) (hD : va_D A [(h0, .inr (8, o_Reader I0 h4 h1 h2)), (h1, .inr (1, o_Code I1 a1_0 h3 h5)), (h2, .inr (9, o_Section I2)), (h3, .inl (cA3, n3, .inl f3)), (h4, .inl (cA4, n4, .inl f4)), (h5, .inl (cA5, n5, .inl f5))]) (hS : va_S A s.heap H locs) (hv : v_Reader_readComma_38 I0 I1 I2 n3 f3 n4 f4 n5 f5 s0  Z) : W p l e (headSpec (Cond.code (⟨"NumberDress$Reader", "readComma", "(I)I"⟩ : MethodName) prog_9_method_18_code 3 (some .int) :: zT) { frames := 2, cells := 0, slots := 0, locals := 44 }).room s m args below meth c H locs 0 0 (MQ below (va_Qi Z (zB (dC, dI) zCl [(cA3, .int), (cA4, .char), (cA5, .int)] A (fun u : (Nat → Int32) × (Nat → Int32) × (Nat → Int32) × (Nat → Int32) => [(h0, .inr (8, o_Reader I0 h4 h1 h2)), (h1, .inr (1, o_Code u.1 a1_0 h3 h5)), (h2, .inr (9, o_Section u.2.1)), (h3, .inl (cA3, n3, .inl u.2.2.1)), (h4, .inl (cA4, n4, .inl f4)), (h5, .inl (cA5, n5, .inl u.2.2.2))])) A) args s 0 0 A) (F0 m 38 ls [.int s0]) := by
  obtain ⟨hx, hb, hr, hml, hown, ht, hlocks⟩ := id hc
  unfold v_Reader_readComma_38 at hv
  exact W.iret (v := s0) hx hb hr (fun t ht hW => ⟨⟨_, (I1, I2, f3, f5), rfl, hv, ⟨by rw [ht]; exact hP, va_K.moved hW.alike hK, hD⟩⟩, hS.F ht⟩) hS.2.2 d_Reader_readComma_38
set_option maxHeartbeats 4000000 in
set_option maxRecDepth 100000 in
theorem b_Reader_readComma_71 {h0 : Nat} {h1 : Nat} {a1_0 : Nat} {h2 : Nat} {h3 : Nat} {cA3 : ClassId} {h4 : Nat} {cA4 : ClassId} {h5 : Nat} {cA5 : ClassId} {I0 : Nat → Int32} {I1 : Nat → Int32} {I2 : Nat → Int32} {n3 : Nat} {f3 : Nat → Int32} {n4 : Nat} {f4 : Nat → Int32} {n5 : Nat} {f5 : Nat → Int32} {s0 : Int32}  {Z : Int32 → (Nat → Int32) × (Nat → Int32) × (Nat → Int32) × (Nat → Int32) → Prop} {H : Heap} {locs : List Loc} {ls : Array Slot} (hc : zC p s m args meth c prog_9_method_18_code (some .int) 3 "NumberDress$Reader") (hA : ∀ q : Nat, s.heap.size ≤ q → A q) (hE : zE gE A s) (hl : lv_has ls 3 []) (hK : va_K (dC, dI) zCl [(cA3, .int), (cA4, .char), (cA5, .int)] s) (hP : va_P (dC, dI) zCl [(h0, .inr (8, o_Reader I0 h4 h1 h2)), (h1, .inr (1, o_Code I1 a1_0 h3 h5)), (h2, .inr (9, o_Section I2)), (h3, .inl (cA3, n3, .inl f3)), (h4, .inl (cA4, n4, .inl f4)), (h5, .inl (cA5, n5, .inl f5))] H) (hD : va_D A [(h0, .inr (8, o_Reader I0 h4 h1 h2)), (h1, .inr (1, o_Code I1 a1_0 h3 h5)), (h2, .inr (9, o_Section I2)), (h3, .inl (cA3, n3, .inl f3)), (h4, .inl (cA4, n4, .inl f4)), (h5, .inl (cA5, n5, .inl f5))]) (hS : va_S A s.heap H locs) (hv : v_Reader_readComma_71 I0 I1 I2 n3 f3 n4 f4 n5 f5 s0  Z) : W p l e (headSpec (Cond.code (⟨"NumberDress$Reader", "readComma", "(I)I"⟩ : MethodName) prog_9_method_18_code 3 (some .int) :: zT) { frames := 2, cells := 0, slots := 0, locals := 44 }).room s m args below meth c H locs 0 0 (MQ below (va_Qi Z (zB (dC, dI) zCl [(cA3, .int), (cA4, .char), (cA5, .int)] A (fun u : (Nat → Int32) × (Nat → Int32) × (Nat → Int32) × (Nat → Int32) => [(h0, .inr (8, o_Reader I0 h4 h1 h2)), (h1, .inr (1, o_Code u.1 a1_0 h3 h5)), (h2, .inr (9, o_Section u.2.1)), (h3, .inl (cA3, n3, .inl u.2.2.1)), (h4, .inl (cA4, n4, .inl f4)), (h5, .inl (cA5, n5, .inl u.2.2.2))])) A) args s 0 0 A) (F0 m 71 ls [.int s0]) := by
  obtain ⟨hx, hb, hr, hml, hown, ht, hlocks⟩ := id hc
  unfold v_Reader_readComma_71 at hv
  exact W.iret (v := s0) hx hb hr (fun t ht hW => ⟨⟨_, (I1, I2, f3, f5), rfl, hv, ⟨by rw [ht]; exact hP, va_K.moved hW.alike hK, hD⟩⟩, hS.F ht⟩) hS.2.2 d_Reader_readComma_71
set_option maxHeartbeats 4000000 in
set_option maxRecDepth 100000 in
theorem b_Reader_readComma_50 {h0 : Nat} {h1 : Nat} {a1_0 : Nat} {h2 : Nat} {h3 : Nat} {cA3 : ClassId} {h4 : Nat} {cA4 : ClassId} {h5 : Nat} {cA5 : ClassId} {I0 : Nat → Int32} {I1 : Nat → Int32} {I2 : Nat → Int32} {n3 : Nat} {f3 : Nat → Int32} {n4 : Nat} {f4 : Nat → Int32} {n5 : Nat} {f5 : Nat → Int32}  {Z : Int32 → (Nat → Int32) × (Nat → Int32) × (Nat → Int32) × (Nat → Int32) → Prop} {H : Heap} {locs : List Loc} {ls : Array Slot} (hc : zC p s m args meth c prog_9_method_18_code (some .int) 3 "NumberDress$Reader") (hA : ∀ q : Nat, s.heap.size ≤ q → A q) (hE : zE gE A s) (hl : lv_has ls 3 [(0, .ref h0)]) (hK : va_K (dC, dI) zCl [(cA3, .int), (cA4, .char), (cA5, .int)] s) (hP : va_P (dC, dI) zCl [(h0, .inr (8, o_Reader I0 h4 h1 h2)), (h1, .inr (1, o_Code I1 a1_0 h3 h5)), (h2, .inr (9, o_Section I2)), (h3, .inl (cA3, n3, .inl f3)), (h4, .inl (cA4, n4, .inl f4)), (h5, .inl (cA5, n5, .inl f5))] H) (hD : va_D A [(h0, .inr (8, o_Reader I0 h4 h1 h2)), (h1, .inr (1, o_Code I1 a1_0 h3 h5)), (h2, .inr (9, o_Section I2)), (h3, .inl (cA3, n3, .inl f3)), (h4, .inl (cA4, n4, .inl f4)), (h5, .inl (cA5, n5, .inl f5))]) (hS : va_S A s.heap H locs) (hv : v_Reader_readComma_50 I0 I1 I2 n3 f3 n4 f4 n5 f5  Z) : W p l e (headSpec (Cond.code (⟨"NumberDress$Reader", "readComma", "(I)I"⟩ : MethodName) prog_9_method_18_code 3 (some .int) :: zT) { frames := 2, cells := 0, slots := 0, locals := 44 }).room s m args below meth c H locs 0 0 (MQ below (va_Qi Z (zB (dC, dI) zCl [(cA3, .int), (cA4, .char), (cA5, .int)] A (fun u : (Nat → Int32) × (Nat → Int32) × (Nat → Int32) × (Nat → Int32) => [(h0, .inr (8, o_Reader I0 h4 h1 h2)), (h1, .inr (1, o_Code u.1 a1_0 h3 h5)), (h2, .inr (9, o_Section u.2.1)), (h3, .inl (cA3, n3, .inl u.2.2.1)), (h4, .inl (cA4, n4, .inl f4)), (h5, .inl (cA5, n5, .inl u.2.2.2))])) A) args s 0 0 A) (F0 m 50 ls []) := by
  obtain ⟨hx, hb, hr, hml, hown, ht, hlocks⟩ := id hc
  unfold v_Reader_readComma_50 at hv
  refine lv_aload_n hx hb d_Reader_readComma_50 rfl (lv_at hl 0 rfl) ?_
  refine va_get (D := (dC, dI)) (ci := 8) (v := .ref h2) (C := "NumberDress$Reader") (T := T_Reader) (N := 5) hx hb ht zin_Reader hown hK hP 0 rfl rfl 3 (by decide) (ht _ zw_274) (fun _ h9 => h9) rfl d_Reader_readComma_51 ?_
  refine lv_dup hx hb d_Reader_readComma_54 rfl ?_
  refine va_get (D := (dC, dI)) (ci := 9) (v := .int (I2 7)) (C := "NumberDress$Section") (T := T_Section) (N := 15) hx hb ht zin_Section hown hK hP 2 rfl rfl 7 (by decide) (ht _ zw_188) (fun _ h9 => h9) rfl d_Reader_readComma_55 ?_
  refine lv_iconst (v := (1 : Int32)) hx hb d_Reader_readComma_58 (by decide) ?_
  refine lv_iadd hx hb d_Reader_readComma_59 ?_
  refine va_put (D := (dC, dI)) (ci := 9) (v := .int ((I2 7) + (1 : Int32))) (ty := .int) (C := "NumberDress$Section") (T := T_Section) (N := 15) hx hb ht zin_Section ty_Section tyok_Section nm_Section hown hK hP hD hS 2 rfl rfl 7 (by decide) (ht _ zw_188) (fun _ h9 => h9) rfl (by decide +kernel) rfl rfl (Nat.le_of_ble_eq_true rfl) d_Reader_readComma_60 (fun H locs hP hD hS => ?_)
  have hP : va_P (dC, dI) zCl [(h0, .inr (8, o_Reader I0 h4 h1 h2)), (h1, .inr (1, o_Code I1 a1_0 h3 h5)), (h2, .inr (9, o_Section (zu I2 7 ((I2 7) + (1 : Int32))))), (h3, .inl (cA3, n3, .inl f3)), (h4, .inl (cA4, n4, .inl f4)), (h5, .inl (cA5, n5, .inl f5))] H := hP
  have hD : va_D A [(h0, .inr (8, o_Reader I0 h4 h1 h2)), (h1, .inr (1, o_Code I1 a1_0 h3 h5)), (h2, .inr (9, o_Section (zu I2 7 ((I2 7) + (1 : Int32))))), (h3, .inl (cA3, n3, .inl f3)), (h4, .inl (cA4, n4, .inl f4)), (h5, .inl (cA5, n5, .inl f5))] := hD
  refine lv_aload_n hx hb d_Reader_readComma_63 rfl (lv_at hl 0 rfl) ?_
  refine lv_bipush (v := (6 : Int32)) hx hb d_Reader_readComma_64 (by decide) ?_
  refine lv_bipush (v := (44 : Int32)) hx hb d_Reader_readComma_66 (by decide) ?_
  refine z_calli (wc := [(h0, .inr (8, o_Reader I0 h4 h1 h2)), (h1, .inr (1, o_Code I1 a1_0 h3 h5)), (h3, .inl (cA3, n3, .inl f3)), (h5, .inl (cA5, n5, .inl f5))]) (wr := [(h2, .inr (9, o_Section (zu I2 7 ((I2 7) + (1 : Int32))))), (h4, .inl (cA4, n4, .inl f4))]) [0, 1, 3, 5] [2, 4] (va_runV (As := [.int (6 : Int32), .int (44 : Int32)]) (rest := []) ⟨hx, hb, hml, hown, ht⟩ (m_Reader_addOne l dC dI hv) ⟨(callB_of 2 ht (zG_in zi_Reader_addOne) rfl rfl rfl (ht _ zw_113) (ht _ zw_722) zh_Reader_addOne ⟨Nat.le_of_ble_eq_true rfl, Nat.le_of_ble_eq_true rfl⟩), (ht _ zw_724), (ht _ zw_17)⟩ ⟨zPc_blind, va_recv hK hP (ci := 8) (q0 := 0) rfl rfl, zPc_pre hP hK hD hS hA hE [0, 1, 3, 5] [0, 2] rfl rfl (by decide) rfl⟩ rfl rfl hl.1 rfl (lv_room (Nat.le_of_ble_eq_true rfl)) d_Reader_readComma_68 ⟨Nat.le_of_ble_eq_true rfl, Nat.le_of_ble_eq_true rfl⟩) hP hD hS hA rfl rfl (by decide) (by decide) (fun r u H locs hv hP hD hS => ?_)
  have hP : va_P (dC, dI) zCl [(h0, .inr (8, o_Reader I0 h4 h1 h2)), (h1, .inr (1, o_Code u.1 a1_0 h3 h5)), (h2, .inr (9, o_Section (zu I2 7 ((I2 7) + (1 : Int32))))), (h3, .inl (cA3, n3, .inl u.2.1)), (h4, .inl (cA4, n4, .inl f4)), (h5, .inl (cA5, n5, .inl u.2.2))] H := hP.sub [2, 3, 0, 4, 1, 5] rfl
  have hD : va_D A [(h0, .inr (8, o_Reader I0 h4 h1 h2)), (h1, .inr (1, o_Code u.1 a1_0 h3 h5)), (h2, .inr (9, o_Section (zu I2 7 ((I2 7) + (1 : Int32))))), (h3, .inl (cA3, n3, .inl u.2.1)), (h4, .inl (cA4, n4, .inl f4)), (h5, .inl (cA5, n5, .inl u.2.2))] := hD.sub [2, 3, 0, 4, 1, 5] (by decide) rfl
  exact b_Reader_readComma_71 hc hA hE  (lv_sub hl [] rfl) hK hP hD hS hv
set_option maxHeartbeats 4000000 in
set_option maxRecDepth 100000 in
theorem b_Reader_readComma_39 {h0 : Nat} {h1 : Nat} {a1_0 : Nat} {h2 : Nat} {h3 : Nat} {cA3 : ClassId} {h4 : Nat} {cA4 : ClassId} {h5 : Nat} {cA5 : ClassId} {I0 : Nat → Int32} {I1 : Nat → Int32} {I2 : Nat → Int32} {n3 : Nat} {f3 : Nat → Int32} {n4 : Nat} {f4 : Nat → Int32} {n5 : Nat} {f5 : Nat → Int32} {x2 : Int32}  {Z : Int32 → (Nat → Int32) × (Nat → Int32) × (Nat → Int32) × (Nat → Int32) → Prop} {H : Heap} {locs : List Loc} {ls : Array Slot} (hc : zC p s m args meth c prog_9_method_18_code (some .int) 3 "NumberDress$Reader") (hA : ∀ q : Nat, s.heap.size ≤ q → A q) (hE : zE gE A s) (hl : lv_has ls 3 [(0, .ref h0), (2, .int x2)]) (hK : va_K (dC, dI) zCl [(cA3, .int), (cA4, .char), (cA5, .int)] s) (hP : va_P (dC, dI) zCl [(h0, .inr (8, o_Reader I0 h4 h1 h2)), (h1, .inr (1, o_Code I1 a1_0 h3 h5)), (h2, .inr (9, o_Section I2)), (h3, .inl (cA3, n3, .inl f3)), (h4, .inl (cA4, n4, .inl f4)), (h5, .inl (cA5, n5, .inl f5))] H) (hD : va_D A [(h0, .inr (8, o_Reader I0 h4 h1 h2)), (h1, .inr (1, o_Code I1 a1_0 h3 h5)), (h2, .inr (9, o_Section I2)), (h3, .inl (cA3, n3, .inl f3)), (h4, .inl (cA4, n4, .inl f4)), (h5, .inl (cA5, n5, .inl f5))]) (hS : va_S A s.heap H locs) (hv : v_Reader_readComma_39 I0 I1 I2 n3 f3 n4 f4 n5 f5 x2  Z) : W p l e (headSpec (Cond.code (⟨"NumberDress$Reader", "readComma", "(I)I"⟩ : MethodName) prog_9_method_18_code 3 (some .int) :: zT) { frames := 2, cells := 0, slots := 0, locals := 44 }).room s m args below meth c H locs 0 0 (MQ below (va_Qi Z (zB (dC, dI) zCl [(cA3, .int), (cA4, .char), (cA5, .int)] A (fun u : (Nat → Int32) × (Nat → Int32) × (Nat → Int32) × (Nat → Int32) => [(h0, .inr (8, o_Reader I0 h4 h1 h2)), (h1, .inr (1, o_Code u.1 a1_0 h3 h5)), (h2, .inr (9, o_Section u.2.1)), (h3, .inl (cA3, n3, .inl u.2.2.1)), (h4, .inl (cA4, n4, .inl f4)), (h5, .inl (cA5, n5, .inl u.2.2.2))])) A) args s 0 0 A) (F0 m 39 ls []) := by
  obtain ⟨hx, hb, hr, hml, hown, ht, hlocks⟩ := id hc
  unfold v_Reader_readComma_39 at hv
  refine lv_iload_n hx hb d_Reader_readComma_39 rfl (lv_at hl 1 rfl) ?_
  refine lv_iconst (v := (2 : Int32)) hx hb d_Reader_readComma_40 (by decide) ?_
  refine lv_icmp_eq (tgt := 50) hx hb d_Reader_readComma_41 (by decide) (fun c_1 => ?_) (fun c_1 => ?_)
  · have hv := hv.1 c_1
    exact b_Reader_readComma_50 hc hA hE  (lv_sub hl [0] rfl) hK hP hD hS hv
  · have hv := hv.2 c_1
    refine lv_iload_n hx hb d_Reader_readComma_44 rfl (lv_at hl 1 rfl) ?_
    refine lv_bipush (v := (6 : Int32)) hx hb d_Reader_readComma_45 (by decide) ?_
    refine lv_icmp_ne (tgt := 72) hx hb d_Reader_readComma_47 (by decide) (fun c_2 => ?_) (fun c_2 => ?_)
    · have hv := hv.1 c_2
      refine lv_iconst (v := (0 : Int32)) hx hb d_Reader_readComma_72 (by decide) ?_
      exact W.iret (v := (0 : Int32)) hx hb hr (fun t ht hW => ⟨⟨_, (I1, I2, f3, f5), rfl, hv, ⟨by rw [ht]; exact hP, va_K.moved hW.alike hK, hD⟩⟩, hS.F ht⟩) hS.2.2 d_Reader_readComma_73
    · have hv := hv.2 c_2
      exact b_Reader_readComma_50 hc hA hE  (lv_sub hl [0] rfl) hK hP hD hS hv
set_option maxHeartbeats 4000000 in
set_option maxRecDepth 100000 in
theorem b_Reader_readComma_20 {h0 : Nat} {h1 : Nat} {a1_0 : Nat} {h2 : Nat} {h3 : Nat} {cA3 : ClassId} {h4 : Nat} {cA4 : ClassId} {h5 : Nat} {cA5 : ClassId} {I0 : Nat → Int32} {I1 : Nat → Int32} {I2 : Nat → Int32} {n3 : Nat} {f3 : Nat → Int32} {n4 : Nat} {f4 : Nat → Int32} {n5 : Nat} {f5 : Nat → Int32} {x2 : Int32} {s0 : Int32}  {Z : Int32 → (Nat → Int32) × (Nat → Int32) × (Nat → Int32) × (Nat → Int32) → Prop} {H : Heap} {locs : List Loc} {ls : Array Slot} (hc : zC p s m args meth c prog_9_method_18_code (some .int) 3 "NumberDress$Reader") (hA : ∀ q : Nat, s.heap.size ≤ q → A q) (hE : zE gE A s) (hl : lv_has ls 3 [(0, .ref h0), (2, .int x2)]) (hK : va_K (dC, dI) zCl [(cA3, .int), (cA4, .char), (cA5, .int)] s) (hP : va_P (dC, dI) zCl [(h0, .inr (8, o_Reader I0 h4 h1 h2)), (h1, .inr (1, o_Code I1 a1_0 h3 h5)), (h2, .inr (9, o_Section I2)), (h3, .inl (cA3, n3, .inl f3)), (h4, .inl (cA4, n4, .inl f4)), (h5, .inl (cA5, n5, .inl f5))] H) (hD : va_D A [(h0, .inr (8, o_Reader I0 h4 h1 h2)), (h1, .inr (1, o_Code I1 a1_0 h3 h5)), (h2, .inr (9, o_Section I2)), (h3, .inl (cA3, n3, .inl f3)), (h4, .inl (cA4, n4, .inl f4)), (h5, .inl (cA5, n5, .inl f5))]) (hS : va_S A s.heap H locs) (hv : v_Reader_readComma_20 I0 I1 I2 n3 f3 n4 f4 n5 f5 x2 s0  Z) : W p l e (headSpec (Cond.code (⟨"NumberDress$Reader", "readComma", "(I)I"⟩ : MethodName) prog_9_method_18_code 3 (some .int) :: zT) { frames := 2, cells := 0, slots := 0, locals := 44 }).room s m args below meth c H locs 0 0 (MQ below (va_Qi Z (zB (dC, dI) zCl [(cA3, .int), (cA4, .char), (cA5, .int)] A (fun u : (Nat → Int32) × (Nat → Int32) × (Nat → Int32) × (Nat → Int32) => [(h0, .inr (8, o_Reader I0 h4 h1 h2)), (h1, .inr (1, o_Code u.1 a1_0 h3 h5)), (h2, .inr (9, o_Section u.2.1)), (h3, .inl (cA3, n3, .inl u.2.2.1)), (h4, .inl (cA4, n4, .inl f4)), (h5, .inl (cA5, n5, .inl u.2.2.2))])) A) args s 0 0 A) (F0 m 20 ls [.int s0]) := by
  obtain ⟨hx, hb, hr, hml, hown, ht, hlocks⟩ := id hc
  unfold v_Reader_readComma_20 at hv
  refine lv_if_eq (tgt := 39) hx hb d_Reader_readComma_20 (by decide) (fun c_1 => ?_) (fun c_1 => ?_)
  · have hv := hv.1 c_1
    exact b_Reader_readComma_39 hc hA hE  (lv_sub hl [0, 1] rfl) hK hP hD hS hv
  · have hv := hv.2 c_1
    refine lv_aload_n hx hb d_Reader_readComma_23 rfl (lv_at hl 0 rfl) ?_
    refine va_get (D := (dC, dI)) (ci := 8) (v := .ref h2) (C := "NumberDress$Reader") (T := T_Reader) (N := 5) hx hb ht zin_Reader hown hK hP 0 rfl rfl 3 (by decide) (ht _ zw_274) (fun _ h9 => h9) rfl d_Reader_readComma_24 ?_
    refine lv_iconst (v := (1 : Int32)) hx hb d_Reader_readComma_27 (by decide) ?_
    refine va_put (D := (dC, dI)) (ci := 9) (v := .int (1 : Int32)) (ty := .boolean) (C := "NumberDress$Section") (T := T_Section) (N := 15) hx hb ht zin_Section ty_Section tyok_Section nm_Section hown hK hP hD hS 2 rfl rfl 6 (by decide) (ht _ zw_185) (fun _ h9 => h9) rfl (by decide +kernel) (by decide) (by decide) (Nat.le_of_ble_eq_true rfl) d_Reader_readComma_28 (fun H locs hP hD hS => ?_)
    have hP : va_P (dC, dI) zCl [(h0, .inr (8, o_Reader I0 h4 h1 h2)), (h1, .inr (1, o_Code I1 a1_0 h3 h5)), (h2, .inr (9, o_Section (zu I2 6 (1 : Int32)))), (h3, .inl (cA3, n3, .inl f3)), (h4, .inl (cA4, n4, .inl f4)), (h5, .inl (cA5, n5, .inl f5))] H := hP
    have hD : va_D A [(h0, .inr (8, o_Reader I0 h4 h1 h2)), (h1, .inr (1, o_Code I1 a1_0 h3 h5)), (h2, .inr (9, o_Section (zu I2 6 (1 : Int32)))), (h3, .inl (cA3, n3, .inl f3)), (h4, .inl (cA4, n4, .inl f4)), (h5, .inl (cA5, n5, .inl f5))] := hD
    refine lv_aload_n hx hb d_Reader_readComma_31 rfl (lv_at hl 0 rfl) ?_
    refine lv_iconst (v := (5 : Int32)) hx hb d_Reader_readComma_32 (by decide) ?_
    refine lv_bipush (v := (44 : Int32)) hx hb d_Reader_readComma_33 (by decide) ?_
    refine z_calli (wc := [(h0, .inr (8, o_Reader I0 h4 h1 h2)), (h1, .inr (1, o_Code I1 a1_0 h3 h5)), (h3, .inl (cA3, n3, .inl f3)), (h5, .inl (cA5, n5, .inl f5))]) (wr := [(h2, .inr (9, o_Section (zu I2 6 (1 : Int32)))), (h4, .inl (cA4, n4, .inl f4))]) [0, 1, 3, 5] [2, 4] (va_runV (As := [.int (5 : Int32), .int (44 : Int32)]) (rest := []) ⟨hx, hb, hml, hown, ht⟩ (m_Reader_addOne l dC dI hv) ⟨(callB_of 2 ht (zG_in zi_Reader_addOne) rfl rfl rfl (ht _ zw_113) (ht _ zw_722) zh_Reader_addOne ⟨Nat.le_of_ble_eq_true rfl, Nat.le_of_ble_eq_true rfl⟩), (ht _ zw_724), (ht _ zw_17)⟩ ⟨zPc_blind, va_recv hK hP (ci := 8) (q0 := 0) rfl rfl, zPc_pre hP hK hD hS hA hE [0, 1, 3, 5] [0, 2] rfl rfl (by decide) rfl⟩ rfl rfl hl.1 rfl (lv_room (Nat.le_of_ble_eq_true rfl)) d_Reader_readComma_35 ⟨Nat.le_of_ble_eq_true rfl, Nat.le_of_ble_eq_true rfl⟩) hP hD hS hA rfl rfl (by decide) (by decide) (fun r u H locs hv hP hD hS => ?_)
    have hP : va_P (dC, dI) zCl [(h0, .inr (8, o_Reader I0 h4 h1 h2)), (h1, .inr (1, o_Code u.1 a1_0 h3 h5)), (h2, .inr (9, o_Section (zu I2 6 (1 : Int32)))), (h3, .inl (cA3, n3, .inl u.2.1)), (h4, .inl (cA4, n4, .inl f4)), (h5, .inl (cA5, n5, .inl u.2.2))] H := hP.sub [2, 3, 0, 4, 1, 5] rfl
    have hD : va_D A [(h0, .inr (8, o_Reader I0 h4 h1 h2)), (h1, .inr (1, o_Code u.1 a1_0 h3 h5)), (h2, .inr (9, o_Section (zu I2 6 (1 : Int32)))), (h3, .inl (cA3, n3, .inl u.2.1)), (h4, .inl (cA4, n4, .inl f4)), (h5, .inl (cA5, n5, .inl u.2.2))] := hD.sub [2, 3, 0, 4, 1, 5] (by decide) rfl
    exact b_Reader_readComma_38 hc hA hE  (lv_sub hl [] rfl) hK hP hD hS hv
set_option maxHeartbeats 4000000 in
set_option maxRecDepth 100000 in
theorem b_Reader_readComma_17 {h0 : Nat} {h1 : Nat} {a1_0 : Nat} {h2 : Nat} {h3 : Nat} {cA3 : ClassId} {h4 : Nat} {cA4 : ClassId} {h5 : Nat} {cA5 : ClassId} {I0 : Nat → Int32} {I1 : Nat → Int32} {I2 : Nat → Int32} {n3 : Nat} {f3 : Nat → Int32} {n4 : Nat} {f4 : Nat → Int32} {n5 : Nat} {f5 : Nat → Int32} {x2 : Int32} {s0 : Int32}  {Z : Int32 → (Nat → Int32) × (Nat → Int32) × (Nat → Int32) × (Nat → Int32) → Prop} {H : Heap} {locs : List Loc} {ls : Array Slot} (hc : zC p s m args meth c prog_9_method_18_code (some .int) 3 "NumberDress$Reader") (hA : ∀ q : Nat, s.heap.size ≤ q → A q) (hE : zE gE A s) (hl : lv_has ls 3 [(0, .ref h0), (2, .int x2)]) (hK : va_K (dC, dI) zCl [(cA3, .int), (cA4, .char), (cA5, .int)] s) (hP : va_P (dC, dI) zCl [(h0, .inr (8, o_Reader I0 h4 h1 h2)), (h1, .inr (1, o_Code I1 a1_0 h3 h5)), (h2, .inr (9, o_Section I2)), (h3, .inl (cA3, n3, .inl f3)), (h4, .inl (cA4, n4, .inl f4)), (h5, .inl (cA5, n5, .inl f5))] H) (hD : va_D A [(h0, .inr (8, o_Reader I0 h4 h1 h2)), (h1, .inr (1, o_Code I1 a1_0 h3 h5)), (h2, .inr (9, o_Section I2)), (h3, .inl (cA3, n3, .inl f3)), (h4, .inl (cA4, n4, .inl f4)), (h5, .inl (cA5, n5, .inl f5))]) (hS : va_S A s.heap H locs) (hv : v_Reader_readComma_17 I0 I1 I2 n3 f3 n4 f4 n5 f5 x2 s0  Z) : W p l e (headSpec (Cond.code (⟨"NumberDress$Reader", "readComma", "(I)I"⟩ : MethodName) prog_9_method_18_code 3 (some .int) :: zT) { frames := 2, cells := 0, slots := 0, locals := 44 }).room s m args below meth c H locs 0 0 (MQ below (va_Qi Z (zB (dC, dI) zCl [(cA3, .int), (cA4, .char), (cA5, .int)] A (fun u : (Nat → Int32) × (Nat → Int32) × (Nat → Int32) × (Nat → Int32) => [(h0, .inr (8, o_Reader I0 h4 h1 h2)), (h1, .inr (1, o_Code u.1 a1_0 h3 h5)), (h2, .inr (9, o_Section u.2.1)), (h3, .inl (cA3, n3, .inl u.2.2.1)), (h4, .inl (cA4, n4, .inl f4)), (h5, .inl (cA5, n5, .inl u.2.2.2))])) A) args s 0 0 A) (F0 m 17 ls [.int s0]) := by
  obtain ⟨hx, hb, hr, hml, hown, ht, hlocks⟩ := id hc
  unfold v_Reader_readComma_17 at hv
  refine z_calli (wc := []) (wr := [(h0, .inr (8, o_Reader I0 h4 h1 h2)), (h1, .inr (1, o_Code I1 a1_0 h3 h5)), (h2, .inr (9, o_Section I2)), (h3, .inl (cA3, n3, .inl f3)), (h4, .inl (cA4, n4, .inl f4)), (h5, .inl (cA5, n5, .inl f5))]) [] [0, 1, 2, 3, 4, 5] (va_runS (As := [.int s0]) (rest := []) ⟨hx, hb, hml, hown, ht⟩ (m_Reader_isPlace l dC dI hv) ⟨(callB_of 1 ht (zG_in zi_Reader_isPlace) rfl rfl rfl (ht _ zw_113) (ht _ zw_678) zh_Reader_isPlace ⟨Nat.le_of_ble_eq_true rfl, Nat.le_of_ble_eq_true rfl⟩), (ht _ zw_679)⟩ ⟨zPc_blind, zPc_pre hP hK hD hS hA hE [] [] rfl rfl (by decide) rfl⟩ rfl rfl hl.1 rfl (lv_room (Nat.le_of_ble_eq_true rfl)) d_Reader_readComma_17 ⟨Nat.le_of_ble_eq_true rfl, Nat.le_of_ble_eq_true rfl⟩) hP hD hS hA rfl rfl (by decide) (by decide) (fun r u H locs hv hP hD hS => ?_)
  have hP : va_P (dC, dI) zCl [(h0, .inr (8, o_Reader I0 h4 h1 h2)), (h1, .inr (1, o_Code I1 a1_0 h3 h5)), (h2, .inr (9, o_Section I2)), (h3, .inl (cA3, n3, .inl f3)), (h4, .inl (cA4, n4, .inl f4)), (h5, .inl (cA5, n5, .inl f5))] H := hP.sub [0, 1, 2, 3, 4, 5] rfl
  have hD : va_D A [(h0, .inr (8, o_Reader I0 h4 h1 h2)), (h1, .inr (1, o_Code I1 a1_0 h3 h5)), (h2, .inr (9, o_Section I2)), (h3, .inl (cA3, n3, .inl f3)), (h4, .inl (cA4, n4, .inl f4)), (h5, .inl (cA5, n5, .inl f5))] := hD.sub [0, 1, 2, 3, 4, 5] (by decide) rfl
  exact b_Reader_readComma_20 hc hA hE  (lv_sub hl [0, 1] rfl) hK hP hD hS hv
set_option maxHeartbeats 4000000 in
set_option maxRecDepth 100000 in
theorem b_Reader_readComma_4 {h0 : Nat} {h1 : Nat} {a1_0 : Nat} {h2 : Nat} {h3 : Nat} {cA3 : ClassId} {h4 : Nat} {cA4 : ClassId} {h5 : Nat} {cA5 : ClassId} {I0 : Nat → Int32} {I1 : Nat → Int32} {I2 : Nat → Int32} {n3 : Nat} {f3 : Nat → Int32} {n4 : Nat} {f4 : Nat → Int32} {n5 : Nat} {f5 : Nat → Int32} {x1 : Int32} {s0 : Int32}  {Z : Int32 → (Nat → Int32) × (Nat → Int32) × (Nat → Int32) × (Nat → Int32) → Prop} {H : Heap} {locs : List Loc} {ls : Array Slot} (hc : zC p s m args meth c prog_9_method_18_code (some .int) 3 "NumberDress$Reader") (hA : ∀ q : Nat, s.heap.size ≤ q → A q) (hE : zE gE A s) (hl : lv_has ls 3 [(0, .ref h0), (1, .int x1)]) (hK : va_K (dC, dI) zCl [(cA3, .int), (cA4, .char), (cA5, .int)] s) (hP : va_P (dC, dI) zCl [(h0, .inr (8, o_Reader I0 h4 h1 h2)), (h1, .inr (1, o_Code I1 a1_0 h3 h5)), (h2, .inr (9, o_Section I2)), (h3, .inl (cA3, n3, .inl f3)), (h4, .inl (cA4, n4, .inl f4)), (h5, .inl (cA5, n5, .inl f5))] H) (hD : va_D A [(h0, .inr (8, o_Reader I0 h4 h1 h2)), (h1, .inr (1, o_Code I1 a1_0 h3 h5)), (h2, .inr (9, o_Section I2)), (h3, .inl (cA3, n3, .inl f3)), (h4, .inl (cA4, n4, .inl f4)), (h5, .inl (cA5, n5, .inl f5))]) (hS : va_S A s.heap H locs) (hv : v_Reader_readComma_4 I0 I1 I2 n3 f3 n4 f4 n5 f5 x1 s0  Z) : W p l e (headSpec (Cond.code (⟨"NumberDress$Reader", "readComma", "(I)I"⟩ : MethodName) prog_9_method_18_code 3 (some .int) :: zT) { frames := 2, cells := 0, slots := 0, locals := 44 }).room s m args below meth c H locs 0 0 (MQ below (va_Qi Z (zB (dC, dI) zCl [(cA3, .int), (cA4, .char), (cA5, .int)] A (fun u : (Nat → Int32) × (Nat → Int32) × (Nat → Int32) × (Nat → Int32) => [(h0, .inr (8, o_Reader I0 h4 h1 h2)), (h1, .inr (1, o_Code u.1 a1_0 h3 h5)), (h2, .inr (9, o_Section u.2.1)), (h3, .inl (cA3, n3, .inl u.2.2.1)), (h4, .inl (cA4, n4, .inl f4)), (h5, .inl (cA5, n5, .inl u.2.2.2))])) A) args s 0 0 A) (F0 m 4 ls [.int s0]) := by
  obtain ⟨hx, hb, hr, hml, hown, ht, hlocks⟩ := id hc
  unfold v_Reader_readComma_4 at hv
  refine lv_istore_n (lv' := [(2, .int s0), (0, .ref h0), (1, .int x1)]) hx hb d_Reader_readComma_4 rfl hl (by decide) rfl (fun ls hl => ?_)
  refine lv_iload_n hx hb d_Reader_readComma_5 rfl (lv_at hl 0 rfl) ?_
  refine lv_iconst (v := (2 : Int32)) hx hb d_Reader_readComma_6 (by decide) ?_
  refine lv_icmp_ne (tgt := 39) hx hb d_Reader_readComma_7 (by decide) (fun c_1 => ?_) (fun c_1 => ?_)
  · have hv := hv.1 c_1
    exact b_Reader_readComma_39 hc hA hE  (lv_sub hl [1, 0] rfl) hK hP hD hS hv
  · have hv := hv.2 c_1
    refine lv_aload_n hx hb d_Reader_readComma_10 rfl (lv_at hl 1 rfl) ?_
    refine lv_iload_n hx hb d_Reader_readComma_11 rfl (lv_at hl 2 rfl) ?_
    refine lv_iconst (v := (1 : Int32)) hx hb d_Reader_readComma_12 (by decide) ?_
    refine lv_iadd hx hb d_Reader_readComma_13 ?_
    refine z_calli (wc := [(h0, .inr (8, o_Reader I0 h4 h1 h2)), (h4, .inl (cA4, n4, .inl f4))]) (wr := [(h1, .inr (1, o_Code I1 a1_0 h3 h5)), (h2, .inr (9, o_Section I2)), (h3, .inl (cA3, n3, .inl f3)), (h5, .inl (cA5, n5, .inl f5))]) [0, 4] [1, 2, 3, 5] (va_runV (As := [.int (x1 + (1 : Int32))]) (rest := []) ⟨hx, hb, hml, hown, ht⟩ (m_Reader_sign l dC dI hv) ⟨(callB_of 1 ht (zG_in zi_Reader_sign) rfl rfl rfl (ht _ zw_113) (ht _ zw_512) zh_Reader_sign ⟨Nat.le_of_ble_eq_true rfl, Nat.le_of_ble_eq_true rfl⟩), (ht _ zw_514), (ht _ zw_1)⟩ ⟨zPc_blind, va_recv hK hP (ci := 8) (q0 := 0) rfl rfl, zPc_pre hP hK hD hS hA hE [0, 4] [1] rfl rfl (by decide) rfl⟩ rfl rfl hl.1 rfl (lv_room (Nat.le_of_ble_eq_true rfl)) d_Reader_readComma_14 ⟨Nat.le_of_ble_eq_true rfl, Nat.le_of_ble_eq_true rfl⟩) hP hD hS hA rfl rfl (by decide) (by decide) (fun r u H locs hv hP hD hS => ?_)
    have hP : va_P (dC, dI) zCl [(h0, .inr (8, o_Reader I0 h4 h1 h2)), (h1, .inr (1, o_Code I1 a1_0 h3 h5)), (h2, .inr (9, o_Section I2)), (h3, .inl (cA3, n3, .inl f3)), (h4, .inl (cA4, n4, .inl f4)), (h5, .inl (cA5, n5, .inl f5))] H := hP.sub [4, 0, 1, 2, 5, 3] rfl
    have hD : va_D A [(h0, .inr (8, o_Reader I0 h4 h1 h2)), (h1, .inr (1, o_Code I1 a1_0 h3 h5)), (h2, .inr (9, o_Section I2)), (h3, .inl (cA3, n3, .inl f3)), (h4, .inl (cA4, n4, .inl f4)), (h5, .inl (cA5, n5, .inl f5))] := hD.sub [4, 0, 1, 2, 5, 3] (by decide) rfl
    exact b_Reader_readComma_17 hc hA hE  (lv_sub hl [1, 0] rfl) hK hP hD hS hv
set_option maxHeartbeats 4000000 in
set_option maxRecDepth 100000 in
theorem b_Reader_readComma_0 {h0 : Nat} {h1 : Nat} {a1_0 : Nat} {h2 : Nat} {h3 : Nat} {cA3 : ClassId} {h4 : Nat} {cA4 : ClassId} {h5 : Nat} {cA5 : ClassId} {I0 : Nat → Int32} {I1 : Nat → Int32} {I2 : Nat → Int32} {n3 : Nat} {f3 : Nat → Int32} {n4 : Nat} {f4 : Nat → Int32} {n5 : Nat} {f5 : Nat → Int32} {x1 : Int32}  {Z : Int32 → (Nat → Int32) × (Nat → Int32) × (Nat → Int32) × (Nat → Int32) → Prop} {H : Heap} {locs : List Loc} {ls : Array Slot} (hc : zC p s m args meth c prog_9_method_18_code (some .int) 3 "NumberDress$Reader") (hA : ∀ q : Nat, s.heap.size ≤ q → A q) (hE : zE gE A s) (hl : lv_has ls 3 [(0, .ref h0), (1, .int x1)]) (hK : va_K (dC, dI) zCl [(cA3, .int), (cA4, .char), (cA5, .int)] s) (hP : va_P (dC, dI) zCl [(h0, .inr (8, o_Reader I0 h4 h1 h2)), (h1, .inr (1, o_Code I1 a1_0 h3 h5)), (h2, .inr (9, o_Section I2)), (h3, .inl (cA3, n3, .inl f3)), (h4, .inl (cA4, n4, .inl f4)), (h5, .inl (cA5, n5, .inl f5))] H) (hD : va_D A [(h0, .inr (8, o_Reader I0 h4 h1 h2)), (h1, .inr (1, o_Code I1 a1_0 h3 h5)), (h2, .inr (9, o_Section I2)), (h3, .inl (cA3, n3, .inl f3)), (h4, .inl (cA4, n4, .inl f4)), (h5, .inl (cA5, n5, .inl f5))]) (hS : va_S A s.heap H locs) (hv : v_Reader_readComma_0 I0 I1 I2 n3 f3 n4 f4 n5 f5 x1  Z) : W p l e (headSpec (Cond.code (⟨"NumberDress$Reader", "readComma", "(I)I"⟩ : MethodName) prog_9_method_18_code 3 (some .int) :: zT) { frames := 2, cells := 0, slots := 0, locals := 44 }).room s m args below meth c H locs 0 0 (MQ below (va_Qi Z (zB (dC, dI) zCl [(cA3, .int), (cA4, .char), (cA5, .int)] A (fun u : (Nat → Int32) × (Nat → Int32) × (Nat → Int32) × (Nat → Int32) => [(h0, .inr (8, o_Reader I0 h4 h1 h2)), (h1, .inr (1, o_Code u.1 a1_0 h3 h5)), (h2, .inr (9, o_Section u.2.1)), (h3, .inl (cA3, n3, .inl u.2.2.1)), (h4, .inl (cA4, n4, .inl f4)), (h5, .inl (cA5, n5, .inl u.2.2.2))])) A) args s 0 0 A) (F0 m 0 ls []) := by
  obtain ⟨hx, hb, hr, hml, hown, ht, hlocks⟩ := id hc
  unfold v_Reader_readComma_0 at hv
  refine lv_aload_n hx hb d_Reader_readComma_0 rfl (lv_at hl 0 rfl) ?_
  refine z_calli (wc := [(h0, .inr (8, o_Reader I0 h4 h1 h2)), (h1, .inr (1, o_Code I1 a1_0 h3 h5)), (h2, .inr (9, o_Section I2)), (h3, .inl (cA3, n3, .inl f3))]) (wr := [(h4, .inl (cA4, n4, .inl f4)), (h5, .inl (cA5, n5, .inl f5))]) [0, 1, 2, 3] [4, 5] (va_runV (As := []) (rest := []) ⟨hx, hb, hml, hown, ht⟩ (m_Reader_kindBefore l dC dI hv) ⟨(callB_of 0 ht (zG_in zi_Reader_kindBefore) rfl rfl rfl (ht _ zw_113) (ht _ zw_734) zh_Reader_kindBefore ⟨Nat.le_of_ble_eq_true rfl, Nat.le_of_ble_eq_true rfl⟩), (ht _ zw_736), (ht _ zw_20)⟩ ⟨zPc_blind, va_recv hK hP (ci := 8) (q0 := 0) rfl rfl, zPc_pre hP hK hD hS hA hE [0, 1, 2, 3] [0] rfl rfl (by decide) rfl⟩ rfl rfl hl.1 rfl (lv_room (Nat.le_of_ble_eq_true rfl)) d_Reader_readComma_1 ⟨Nat.le_of_ble_eq_true rfl, Nat.le_of_ble_eq_true rfl⟩) hP hD hS hA rfl rfl (by decide) (by decide) (fun r u H locs hv hP hD hS => ?_)
  have hP : va_P (dC, dI) zCl [(h0, .inr (8, o_Reader I0 h4 h1 h2)), (h1, .inr (1, o_Code I1 a1_0 h3 h5)), (h2, .inr (9, o_Section I2)), (h3, .inl (cA3, n3, .inl f3)), (h4, .inl (cA4, n4, .inl f4)), (h5, .inl (cA5, n5, .inl f5))] H := hP.sub [2, 3, 4, 5, 0, 1] rfl
  have hD : va_D A [(h0, .inr (8, o_Reader I0 h4 h1 h2)), (h1, .inr (1, o_Code I1 a1_0 h3 h5)), (h2, .inr (9, o_Section I2)), (h3, .inl (cA3, n3, .inl f3)), (h4, .inl (cA4, n4, .inl f4)), (h5, .inl (cA5, n5, .inl f5))] := hD.sub [2, 3, 4, 5, 0, 1] (by decide) rfl
  exact b_Reader_readComma_4 hc hA hE  (lv_sub hl [0, 1] rfl) hK hP hD hS hv
theorem zi_Reader_readComma : Cond.code (⟨"NumberDress$Reader", "readComma", "(I)I"⟩ : MethodName) prog_9_method_18_code 3 (some .int) ∈ zT := zw_733
theorem zh_Reader_readComma : (((⟨"NumberDress$Reader", "readComma", "(I)I"⟩ : MethodName)).cls ≠ "java/lang/invoke/MethodHandle" ∧ ((⟨"NumberDress$Reader", "readComma", "(I)I"⟩ : MethodName)).cls ≠ "java/lang/invoke/VarHandle" ∧ (parseMethodDescriptor ((⟨"NumberDress$Reader", "readComma", "(I)I"⟩ : MethodName)).desc).map (fun d => d.parameters.length) = some 1) := by decide +kernel
set_option maxHeartbeats 4000000 in
set_option maxRecDepth 100000 in
theorem m_Reader_readComma (l : Launch) (dC : Nat → ClassId) (dI : Nat → Nat → Nat) {gE : zG} {h0 : Nat} {h1 : Nat} {a1_0 : Nat} {h2 : Nat} {h3 : Nat} {cA3 : ClassId} {h4 : Nat} {cA4 : ClassId} {h5 : Nat} {cA5 : ClassId} {I0 : Nat → Int32} {I1 : Nat → Int32} {I2 : Nat → Int32} {n3 : Nat} {f3 : Nat → Int32} {n4 : Nat} {f4 : Nat → Int32} {n5 : Nat} {f5 : Nat → Int32} {x1 : Int32} {sz : Nat} {Z : Int32 → (Nat → Int32) × (Nat → Int32) × (Nat → Int32) × (Nat → Int32) → Prop} (hv : v_Reader_readComma_0 I0 I1 I2 n3 f3 n4 f4 n5 f5 x1 Z) : Met l (⟨"NumberDress$Reader", "readComma", "(I)I"⟩ : MethodName) (Cond.code (⟨"NumberDress$Reader", "readComma", "(I)I"⟩ : MethodName) prog_9_method_18_code 3 (some .int) :: zT) { frames := 2, cells := 0, slots := 0, locals := 44 } (zPc gE (dC, dI) zCl [(cA3, .int), (cA4, .char), (cA5, .int)] [.ref h0, .int x1] sz [(h0, .inr (8, o_Reader I0 h4 h1 h2)), (h1, .inr (1, o_Code I1 a1_0 h3 h5)), (h2, .inr (9, o_Section I2)), (h3, .inl (cA3, n3, .inl f3)), (h4, .inl (cA4, n4, .inl f4)), (h5, .inl (cA5, n5, .inl f5))]) (va_Qi Z (zB (dC, dI) zCl [(cA3, .int), (cA4, .char), (cA5, .int)] (va_A [(h0, .inr (8, o_Reader I0 h4 h1 h2)), (h1, .inr (1, o_Code I1 a1_0 h3 h5)), (h2, .inr (9, o_Section I2)), (h3, .inl (cA3, n3, .inl f3)), (h4, .inl (cA4, n4, .inl f4)), (h5, .inl (cA5, n5, .inl f5))] sz) (fun u : (Nat → Int32) × (Nat → Int32) × (Nat → Int32) × (Nat → Int32) => [(h0, .inr (8, o_Reader I0 h4 h1 h2)), (h1, .inr (1, o_Code u.1 a1_0 h3 h5)), (h2, .inr (9, o_Section u.2.1)), (h3, .inl (cA3, n3, .inl u.2.2.1)), (h4, .inl (cA4, n4, .inl f4)), (h5, .inl (cA5, n5, .inl u.2.2.2))])) (va_A [(h0, .inr (8, o_Reader I0 h4 h1 h2)), (h1, .inr (1, o_Code I1 a1_0 h3 h5)), (h2, .inr (9, o_Section I2)), (h3, .inl (cA3, n3, .inl f3)), (h4, .inl (cA4, n4, .inl f4)), (h5, .inl (cA5, n5, .inl f5))] sz)) 0 0 (va_A [(h0, .inr (8, o_Reader I0 h4 h1 h2)), (h1, .inr (1, o_Code I1 a1_0 h3 h5)), (h2, .inr (9, o_Section I2)), (h3, .inl (cA3, n3, .inl f3)), (h4, .inl (cA4, n4, .inl f4)), (h5, .inl (cA5, n5, .inl f5))] sz) := by
  refine Met.ofW (cc := prog_9_method_18_code) (maxL := 3) (ret := (some .int)) (by decide +kernel) rfl ?_
  intro p e s m args below meth c s₁ B hml hp
  obtain ⟨rfl, hsz, hP, hK, hD0, hE⟩ := hp
  have hts := atoms_spec (ws := (Cond.code (⟨"NumberDress$Reader", "readComma", "(I)I"⟩ : MethodName) prog_9_method_18_code 3 (some .int) :: zT)) B.pre
  have hown : s.vm.findClass "NumberDress$Reader" = some m.cls := findClass_of_methodNamed B.named
  have hc : zC p s m _ meth c prog_9_method_18_code (some .int) 3 "NumberDress$Reader" := ⟨B.exec, B.bytes, B.returns, hml, hown, fun w h => hts w (List.mem_cons_of_mem _ h), B.notSynchronized⟩
  subst hsz
  have hD := hD0.self (sz := s.heap.size)
  generalize hAe : va_A [(h0, .inr (8, o_Reader I0 h4 h1 h2)), (h1, .inr (1, o_Code I1 a1_0 h3 h5)), (h2, .inr (9, o_Section I2)), (h3, .inl (cA3, n3, .inl f3)), (h4, .inl (cA4, n4, .inl f4)), (h5, .inl (cA5, n5, .inl f5))] s.heap.size = A at hD hE ⊢
  have hA : ∀ q : Nat, s.heap.size ≤ q → A q := fun q h => by rw [← hAe]; exact Or.inr h
  have hl := lv_entry ([.ref h0, .int x1]) (n := 3) (Nat.le_of_ble_eq_true rfl)
  rw [lg_entry_eq]
  exact b_Reader_readComma_0 hc hA hE hl hK hP hD va_S.rf hv
theorem d_Reader_isDigit_0 : decode prog_9_method_41_code 0 = .ok (.iload_n 0, 1) := by decide +kernel
theorem d_Reader_isDigit_1 : decode prog_9_method_41_code 1 = .ok (.bipush 48, 2) := by decide +kernel
theorem d_Reader_isDigit_3 : decode prog_9_method_41_code 3 = .ok (.if_icmp .lt 13, 3) := by decide +kernel
theorem d_Reader_isDigit_6 : decode prog_9_method_41_code 6 = .ok (.iload_n 0, 1) := by decide +kernel
theorem d_Reader_isDigit_7 : decode prog_9_method_41_code 7 = .ok (.bipush 57, 2) := by decide +kernel
theorem d_Reader_isDigit_9 : decode prog_9_method_41_code 9 = .ok (.if_icmp .gt 7, 3) := by decide +kernel
theorem d_Reader_isDigit_12 : decode prog_9_method_41_code 12 = .ok (.iconst 1, 1) := by decide +kernel
theorem d_Reader_isDigit_13 : decode prog_9_method_41_code 13 = .ok (.goto 4, 3) := by decide +kernel
theorem d_Reader_isDigit_16 : decode prog_9_method_41_code 16 = .ok (.iconst 0, 1) := by decide +kernel
theorem d_Reader_isDigit_17 : decode prog_9_method_41_code 17 = .ok (.ireturn, 1) := by decide +kernel
def v_Reader_isDigit_0 (x0 : Int32)  (Z : Int32 → Unit → Prop) : Prop :=
  ((x0 < (48 : Int32) → (Z (0 : Int32) ())) ∧ (¬ x0 < (48 : Int32) → (((57 : Int32) < x0 → (Z (0 : Int32) ())) ∧ (¬ (57 : Int32) < x0 → (Z (1 : Int32) ())))))
set_option maxHeartbeats 4000000 in
set_option maxRecDepth 100000 in
theorem b_Reader_isDigit_0  {x0 : Int32}  {Z : Int32 → Unit → Prop} {H : Heap} {locs : List Loc} {ls : Array Slot} (hc : zC p s m args meth c prog_9_method_41_code (some .boolean) 1 "NumberDress$Reader") (hA : ∀ q : Nat, s.heap.size ≤ q → A q) (hE : zE gE A s) (hl : lv_has ls 1 [(0, .int x0)]) (hK : va_K (dC, dI) zCl [] s) (hP : va_P (dC, dI) zCl [] H) (hD : va_D A []) (hS : va_S A s.heap H locs) (hv : v_Reader_isDigit_0 x0  Z) : W p l e (headSpec (Cond.code (⟨"NumberDress$Reader", "isDigit", "(C)Z"⟩ : MethodName) prog_9_method_41_code 1 (some .boolean) :: zT) { frames := 0, cells := 0, slots := 0, locals := 0 }).room s m args below meth c H locs 0 0 (MQ below (va_Qi Z (zB (dC, dI) zCl [] A (fun u : Unit => [])) A) args s 0 0 A) (F0 m 0 ls []) := by
  obtain ⟨hx, hb, hr, hml, hown, ht, hlocks⟩ := id hc
  unfold v_Reader_isDigit_0 at hv
  refine lv_iload_n hx hb d_Reader_isDigit_0 rfl (lv_at hl 0 rfl) ?_
  refine lv_bipush (v := (48 : Int32)) hx hb d_Reader_isDigit_1 (by decide) ?_
  refine lv_icmp_lt (tgt := 16) hx hb d_Reader_isDigit_3 (by decide) (fun c_1 => ?_) (fun c_1 => ?_)
  · have hv := hv.1 c_1
    refine lv_iconst (v := (0 : Int32)) hx hb d_Reader_isDigit_16 (by decide) ?_
    exact W.zret (v := (0 : Int32)) hx hb hr (by decide) (fun t ht hW => ⟨⟨_, (), rfl, hv, ⟨by rw [ht]; exact hP, va_K.moved hW.alike hK, hD⟩⟩, hS.F ht⟩) hS.2.2 d_Reader_isDigit_17
  · have hv := hv.2 c_1
    refine lv_iload_n hx hb d_Reader_isDigit_6 rfl (lv_at hl 0 rfl) ?_
    refine lv_bipush (v := (57 : Int32)) hx hb d_Reader_isDigit_7 (by decide) ?_
    refine lv_icmp_gt (tgt := 16) hx hb d_Reader_isDigit_9 (by decide) (fun c_2 => ?_) (fun c_2 => ?_)
    · have hv := hv.1 c_2
      refine lv_iconst (v := (0 : Int32)) hx hb d_Reader_isDigit_16 (by decide) ?_
      exact W.zret (v := (0 : Int32)) hx hb hr (by decide) (fun t ht hW => ⟨⟨_, (), rfl, hv, ⟨by rw [ht]; exact hP, va_K.moved hW.alike hK, hD⟩⟩, hS.F ht⟩) hS.2.2 d_Reader_isDigit_17
    · have hv := hv.2 c_2
      refine lv_iconst (v := (1 : Int32)) hx hb d_Reader_isDigit_12 (by decide) ?_
      refine lv_goto (tgt := 17) hx hb d_Reader_isDigit_13 (by decide) ?_
      exact W.zret (v := (1 : Int32)) hx hb hr (by decide) (fun t ht hW => ⟨⟨_, (), rfl, hv, ⟨by rw [ht]; exact hP, va_K.moved hW.alike hK, hD⟩⟩, hS.F ht⟩) hS.2.2 d_Reader_isDigit_17
theorem zi_Reader_isDigit : Cond.code (⟨"NumberDress$Reader", "isDigit", "(C)Z"⟩ : MethodName) prog_9_method_41_code 1 (some .boolean) ∈ zT := zw_764
theorem zh_Reader_isDigit : (((⟨"NumberDress$Reader", "isDigit", "(C)Z"⟩ : MethodName)).cls ≠ "java/lang/invoke/MethodHandle" ∧ ((⟨"NumberDress$Reader", "isDigit", "(C)Z"⟩ : MethodName)).cls ≠ "java/lang/invoke/VarHandle" ∧ (parseMethodDescriptor ((⟨"NumberDress$Reader", "isDigit", "(C)Z"⟩ : MethodName)).desc).map (fun d => d.parameters.length) = some 1) := by decide +kernel
set_option maxHeartbeats 4000000 in
set_option maxRecDepth 100000 in
theorem m_Reader_isDigit (l : Launch) (dC : Nat → ClassId) (dI : Nat → Nat → Nat) {gE : zG}  {x0 : Int32} {sz : Nat} {Z : Int32 → Unit → Prop} (hv : v_Reader_isDigit_0 x0 Z) : Met l (⟨"NumberDress$Reader", "isDigit", "(C)Z"⟩ : MethodName) (Cond.code (⟨"NumberDress$Reader", "isDigit", "(C)Z"⟩ : MethodName) prog_9_method_41_code 1 (some .boolean) :: zT) { frames := 0, cells := 0, slots := 0, locals := 0 } (zPc gE (dC, dI) zCl [] [.int x0] sz []) (va_Qi Z (zB (dC, dI) zCl [] (va_A [] sz) (fun u : Unit => [])) (va_A [] sz)) 0 0 (va_A [] sz) := by
  refine Met.ofW (cc := prog_9_method_41_code) (maxL := 1) (ret := (some .boolean)) (by decide +kernel) rfl ?_
  intro p e s m args below meth c s₁ B hml hp
  obtain ⟨rfl, hsz, hP, hK, hD0, hE⟩ := hp
  have hts := atoms_spec (ws := (Cond.code (⟨"NumberDress$Reader", "isDigit", "(C)Z"⟩ : MethodName) prog_9_method_41_code 1 (some .boolean) :: zT)) B.pre
  have hown : s.vm.findClass "NumberDress$Reader" = some m.cls := findClass_of_methodNamed B.named
  have hc : zC p s m _ meth c prog_9_method_41_code (some .boolean) 1 "NumberDress$Reader" := ⟨B.exec, B.bytes, B.returns, hml, hown, fun w h => hts w (List.mem_cons_of_mem _ h), B.notSynchronized⟩
  subst hsz
  have hD := hD0.self (sz := s.heap.size)
  generalize hAe : va_A [] s.heap.size = A at hD hE ⊢
  have hA : ∀ q : Nat, s.heap.size ≤ q → A q := fun q h => by rw [← hAe]; exact Or.inr h
  have hl := lv_entry ([.int x0]) (n := 1) (Nat.le_of_ble_eq_true rfl)
  rw [lg_entry_eq]
  exact b_Reader_isDigit_0 hc hA hE hl hK hP hD va_S.rf hv
theorem d_Reader_digitsFrom_0 : decode prog_9_method_23_code 0 = .ok (.iconst 0, 1) := by decide +kernel
theorem d_Reader_digitsFrom_1 : decode prog_9_method_23_code 1 = .ok (.istore_n 2, 1) := by decide +kernel
theorem d_Reader_digitsFrom_2 : decode prog_9_method_23_code 2 = .ok (.iload_n 2, 1) := by decide +kernel
theorem d_Reader_digitsFrom_3 : decode prog_9_method_23_code 3 = .ok (.iconst 3, 1) := by decide +kernel
theorem d_Reader_digitsFrom_4 : decode prog_9_method_23_code 4 = .ok (.if_icmp .ge 32, 3) := by decide +kernel
theorem d_Reader_digitsFrom_7 : decode prog_9_method_23_code 7 = .ok (.aload_n 0, 1) := by decide +kernel
theorem d_Reader_digitsFrom_8 : decode prog_9_method_23_code 8 = .ok (.iload_n 1, 1) := by decide +kernel
theorem d_Reader_digitsFrom_9 : decode prog_9_method_23_code 9 = .ok (.iload_n 2, 1) := by decide +kernel
theorem d_Reader_digitsFrom_10 : decode prog_9_method_23_code 10 = .ok (.iadd, 1) := by decide +kernel
theorem d_Reader_digitsFrom_11 : decode prog_9_method_23_code 11 = .ok (.invokevirtual 86, 3) := by decide +kernel
theorem d_Reader_digitsFrom_14 : decode prog_9_method_23_code 14 = .ok (.invokestatic 221, 3) := by decide +kernel
theorem d_Reader_digitsFrom_17 : decode prog_9_method_23_code 17 = .ok (.ifCond .eq 19, 3) := by decide +kernel
theorem d_Reader_digitsFrom_20 : decode prog_9_method_23_code 20 = .ok (.aload_n 0, 1) := by decide +kernel
theorem d_Reader_digitsFrom_21 : decode prog_9_method_23_code 21 = .ok (.iload_n 1, 1) := by decide +kernel
theorem d_Reader_digitsFrom_22 : decode prog_9_method_23_code 22 = .ok (.invokevirtual 86, 3) := by decide +kernel
theorem d_Reader_digitsFrom_25 : decode prog_9_method_23_code 25 = .ok (.bipush 48, 2) := by decide +kernel
theorem d_Reader_digitsFrom_27 : decode prog_9_method_23_code 27 = .ok (.if_icmp .eq 9, 3) := by decide +kernel
theorem d_Reader_digitsFrom_30 : decode prog_9_method_23_code 30 = .ok (.iinc 2 1, 3) := by decide +kernel
theorem d_Reader_digitsFrom_33 : decode prog_9_method_23_code 33 = .ok (.goto (-31), 3) := by decide +kernel
theorem d_Reader_digitsFrom_36 : decode prog_9_method_23_code 36 = .ok (.iload_n 2, 1) := by decide +kernel
theorem d_Reader_digitsFrom_37 : decode prog_9_method_23_code 37 = .ok (.ireturn, 1) := by decide +kernel
def v_Reader_digitsFrom_25 (I0 : Nat → Int32) (n1 : Nat) (f1 : Nat → Int32) (x1 : Int32) (x2 : Int32) (s0 : Int32) (k2 : Int32 → Prop) (Z : Int32 → Unit → Prop) : Prop :=
  ((s0 = (48 : Int32) → (Z x2 ())) ∧ (¬ s0 = (48 : Int32) → (k2 (x2 + (1 : Int32)))))
def v_Reader_digitsFrom_17 (I0 : Nat → Int32) (n1 : Nat) (f1 : Nat → Int32) (x1 : Int32) (x2 : Int32) (s0 : Int32) (k2 : Int32 → Prop) (Z : Int32 → Unit → Prop) : Prop :=
  ((s0 = 0 → (Z x2 ())) ∧ (¬ s0 = 0 → (v_Reader_sign_0 I0 n1 f1 x1 (fun r u => (v_Reader_digitsFrom_25 I0 n1 f1 x1 x2 r k2 Z)))))
def v_Reader_digitsFrom_14 (I0 : Nat → Int32) (n1 : Nat) (f1 : Nat → Int32) (x1 : Int32) (x2 : Int32) (s0 : Int32) (k2 : Int32 → Prop) (Z : Int32 → Unit → Prop) : Prop :=
  (v_Reader_isDigit_0 s0 (fun r u => (v_Reader_digitsFrom_17 I0 n1 f1 x1 x2 r k2 Z)))
def v_Reader_digitsFrom_2 (I0 : Nat → Int32) (n1 : Nat) (f1 : Nat → Int32) (x1 : Int32)  (Z : Int32 → Unit → Prop) : Nat → Int32 → Prop
  | 0 => fun _ => False
  | N + 1 => fun x2 => (((3 : Int32) ≤ x2 → (Z x2 ())) ∧ (¬ (3 : Int32) ≤ x2 → (v_Reader_sign_0 I0 n1 f1 (x1 + x2) (fun r u => (v_Reader_digitsFrom_14 I0 n1 f1 x1 x2 r (v_Reader_digitsFrom_2 I0 n1 f1 x1  Z N) Z)))))
def v_Reader_digitsFrom_0 (I0 : Nat → Int32) (n1 : Nat) (f1 : Nat → Int32) (x1 : Int32)  (Z : Int32 → Unit → Prop) : Prop :=
  (∃ Nx, v_Reader_digitsFrom_2 I0 n1 f1 x1  Z Nx (0 : Int32))
set_option maxHeartbeats 4000000 in
set_option maxRecDepth 100000 in
theorem b_Reader_digitsFrom_25 {h0 : Nat} {a0_2 : Nat} {a0_3 : Nat} {h1 : Nat} {cA1 : ClassId} {I0 : Nat → Int32} {n1 : Nat} {f1 : Nat → Int32} {x1 : Int32} {x2 : Int32} {s0 : Int32} {k2 : Int32 → Prop} {Z : Int32 → Unit → Prop} {H : Heap} {locs : List Loc} {ls : Array Slot} (hc : zC p s m args meth c prog_9_method_23_code (some .int) 3 "NumberDress$Reader") (hA : ∀ q : Nat, s.heap.size ≤ q → A q) (hE : zE gE A s) (hk2 : ∀ (x2 : Int32) (H : Heap) (locs : List Loc) (ls : Array Slot), lv_has ls 3 [(0, .ref h0), (1, .int x1), (2, .int x2)] → va_K (dC, dI) zCl [(cA1, .char)] s → va_P (dC, dI) zCl [(h0, .inr (8, o_Reader I0 h1 a0_2 a0_3)), (h1, .inl (cA1, n1, .inl f1))] H → va_D A [(h0, .inr (8, o_Reader I0 h1 a0_2 a0_3)), (h1, .inl (cA1, n1, .inl f1))] → va_S A s.heap H locs → k2 x2 → W p l e (headSpec (Cond.code (⟨"NumberDress$Reader", "digitsFrom", "(I)I"⟩ : MethodName) prog_9_method_23_code 3 (some .int) :: zT) { frames := 1, cells := 0, slots := 0, locals := 21 }).room s m args below meth c H locs 0 0 (MQ below (va_Qi Z (zB (dC, dI) zCl [(cA1, .char)] A (fun u : Unit => [(h0, .inr (8, o_Reader I0 h1 a0_2 a0_3)), (h1, .inl (cA1, n1, .inl f1))])) A) args s 0 0 A) (F0 m 2 ls [])) (hl : lv_has ls 3 [(0, .ref h0), (1, .int x1), (2, .int x2)]) (hK : va_K (dC, dI) zCl [(cA1, .char)] s) (hP : va_P (dC, dI) zCl [(h0, .inr (8, o_Reader I0 h1 a0_2 a0_3)), (h1, .inl (cA1, n1, .inl f1))] H) (hD : va_D A [(h0, .inr (8, o_Reader I0 h1 a0_2 a0_3)), (h1, .inl (cA1, n1, .inl f1))]) (hS : va_S A s.heap H locs) (hv : v_Reader_digitsFrom_25 I0 n1 f1 x1 x2 s0 k2 Z) : W p l e (headSpec (Cond.code (⟨"NumberDress$Reader", "digitsFrom", "(I)I"⟩ : MethodName) prog_9_method_23_code 3 (some .int) :: zT) { frames := 1, cells := 0, slots := 0, locals := 21 }).room s m args below meth c H locs 0 0 (MQ below (va_Qi Z (zB (dC, dI) zCl [(cA1, .char)] A (fun u : Unit => [(h0, .inr (8, o_Reader I0 h1 a0_2 a0_3)), (h1, .inl (cA1, n1, .inl f1))])) A) args s 0 0 A) (F0 m 25 ls [.int s0]) := by
  obtain ⟨hx, hb, hr, hml, hown, ht, hlocks⟩ := id hc
  unfold v_Reader_digitsFrom_25 at hv
  refine lv_bipush (v := (48 : Int32)) hx hb d_Reader_digitsFrom_25 (by decide) ?_
  refine lv_icmp_eq (tgt := 36) hx hb d_Reader_digitsFrom_27 (by decide) (fun c_1 => ?_) (fun c_1 => ?_)
  · have hv := hv.1 c_1
    refine lv_iload_n hx hb d_Reader_digitsFrom_36 rfl (lv_at hl 2 rfl) ?_
    exact W.iret (v := x2) hx hb hr (fun t ht hW => ⟨⟨_, (), rfl, hv, ⟨by rw [ht]; exact hP, va_K.moved hW.alike hK, hD⟩⟩, hS.F ht⟩) hS.2.2 d_Reader_digitsFrom_37
  · have hv := hv.2 c_1
    refine lv_iinc (v := (x2 + (1 : Int32))) (lv' := [(2, .int (x2 + (1 : Int32))), (0, .ref h0), (1, .int x1)]) hx hb d_Reader_digitsFrom_30 hl (k := 2) rfl rfl (by decide) rfl (fun ls hl => ?_)
    refine lv_goto (tgt := 2) hx hb d_Reader_digitsFrom_33 (by decide) ?_
    exact hk2 (x2 + (1 : Int32)) _ _ _ (lv_sub hl [1, 2, 0] rfl) hK hP hD hS hv
set_option maxHeartbeats 4000000 in
set_option maxRecDepth 100000 in
theorem b_Reader_digitsFrom_17 {h0 : Nat} {a0_2 : Nat} {a0_3 : Nat} {h1 : Nat} {cA1 : ClassId} {I0 : Nat → Int32} {n1 : Nat} {f1 : Nat → Int32} {x1 : Int32} {x2 : Int32} {s0 : Int32} {k2 : Int32 → Prop} {Z : Int32 → Unit → Prop} {H : Heap} {locs : List Loc} {ls : Array Slot} (hc : zC p s m args meth c prog_9_method_23_code (some .int) 3 "NumberDress$Reader") (hA : ∀ q : Nat, s.heap.size ≤ q → A q) (hE : zE gE A s) (hk2 : ∀ (x2 : Int32) (H : Heap) (locs : List Loc) (ls : Array Slot), lv_has ls 3 [(0, .ref h0), (1, .int x1), (2, .int x2)] → va_K (dC, dI) zCl [(cA1, .char)] s → va_P (dC, dI) zCl [(h0, .inr (8, o_Reader I0 h1 a0_2 a0_3)), (h1, .inl (cA1, n1, .inl f1))] H → va_D A [(h0, .inr (8, o_Reader I0 h1 a0_2 a0_3)), (h1, .inl (cA1, n1, .inl f1))] → va_S A s.heap H locs → k2 x2 → W p l e (headSpec (Cond.code (⟨"NumberDress$Reader", "digitsFrom", "(I)I"⟩ : MethodName) prog_9_method_23_code 3 (some .int) :: zT) { frames := 1, cells := 0, slots := 0, locals := 21 }).room s m args below meth c H locs 0 0 (MQ below (va_Qi Z (zB (dC, dI) zCl [(cA1, .char)] A (fun u : Unit => [(h0, .inr (8, o_Reader I0 h1 a0_2 a0_3)), (h1, .inl (cA1, n1, .inl f1))])) A) args s 0 0 A) (F0 m 2 ls [])) (hl : lv_has ls 3 [(0, .ref h0), (1, .int x1), (2, .int x2)]) (hK : va_K (dC, dI) zCl [(cA1, .char)] s) (hP : va_P (dC, dI) zCl [(h0, .inr (8, o_Reader I0 h1 a0_2 a0_3)), (h1, .inl (cA1, n1, .inl f1))] H) (hD : va_D A [(h0, .inr (8, o_Reader I0 h1 a0_2 a0_3)), (h1, .inl (cA1, n1, .inl f1))]) (hS : va_S A s.heap H locs) (hv : v_Reader_digitsFrom_17 I0 n1 f1 x1 x2 s0 k2 Z) : W p l e (headSpec (Cond.code (⟨"NumberDress$Reader", "digitsFrom", "(I)I"⟩ : MethodName) prog_9_method_23_code 3 (some .int) :: zT) { frames := 1, cells := 0, slots := 0, locals := 21 }).room s m args below meth c H locs 0 0 (MQ below (va_Qi Z (zB (dC, dI) zCl [(cA1, .char)] A (fun u : Unit => [(h0, .inr (8, o_Reader I0 h1 a0_2 a0_3)), (h1, .inl (cA1, n1, .inl f1))])) A) args s 0 0 A) (F0 m 17 ls [.int s0]) := by
  obtain ⟨hx, hb, hr, hml, hown, ht, hlocks⟩ := id hc
  unfold v_Reader_digitsFrom_17 at hv
  refine lv_if_eq (tgt := 36) hx hb d_Reader_digitsFrom_17 (by decide) (fun c_1 => ?_) (fun c_1 => ?_)
  · have hv := hv.1 c_1
    refine lv_iload_n hx hb d_Reader_digitsFrom_36 rfl (lv_at hl 2 rfl) ?_
    exact W.iret (v := x2) hx hb hr (fun t ht hW => ⟨⟨_, (), rfl, hv, ⟨by rw [ht]; exact hP, va_K.moved hW.alike hK, hD⟩⟩, hS.F ht⟩) hS.2.2 d_Reader_digitsFrom_37
  · have hv := hv.2 c_1
    refine lv_aload_n hx hb d_Reader_digitsFrom_20 rfl (lv_at hl 0 rfl) ?_
    refine lv_iload_n hx hb d_Reader_digitsFrom_21 rfl (lv_at hl 1 rfl) ?_
    refine z_calli (wc := [(h0, .inr (8, o_Reader I0 h1 a0_2 a0_3)), (h1, .inl (cA1, n1, .inl f1))]) (wr := []) [0, 1] [] (va_runV (As := [.int x1]) (rest := []) ⟨hx, hb, hml, hown, ht⟩ (m_Reader_sign l dC dI hv) ⟨(callB_of 1 ht (zG_in zi_Reader_sign) rfl rfl rfl (ht _ zw_113) (ht _ zw_512) zh_Reader_sign ⟨Nat.le_of_ble_eq_true rfl, Nat.le_of_ble_eq_true rfl⟩), (ht _ zw_514), (ht _ zw_1)⟩ ⟨zPc_blind, va_recv hK hP (ci := 8) (q0 := 0) rfl rfl, zPc_pre hP hK hD hS hA hE [0, 1] [0] rfl rfl (by decide) rfl⟩ rfl rfl hl.1 rfl (lv_room (Nat.le_of_ble_eq_true rfl)) d_Reader_digitsFrom_22 ⟨Nat.le_of_ble_eq_true rfl, Nat.le_of_ble_eq_true rfl⟩) hP hD hS hA rfl rfl (by decide) (by decide) (fun r u H locs hv hP hD hS => ?_)
    have hP : va_P (dC, dI) zCl [(h0, .inr (8, o_Reader I0 h1 a0_2 a0_3)), (h1, .inl (cA1, n1, .inl f1))] H := hP.sub [0, 1] rfl
    have hD : va_D A [(h0, .inr (8, o_Reader I0 h1 a0_2 a0_3)), (h1, .inl (cA1, n1, .inl f1))] := hD.sub [0, 1] (by decide) rfl
    exact b_Reader_digitsFrom_25 hc hA hE hk2 (lv_sub hl [0, 1, 2] rfl) hK hP hD hS hv
set_option maxHeartbeats 4000000 in
set_option maxRecDepth 100000 in
theorem b_Reader_digitsFrom_14 {h0 : Nat} {a0_2 : Nat} {a0_3 : Nat} {h1 : Nat} {cA1 : ClassId} {I0 : Nat → Int32} {n1 : Nat} {f1 : Nat → Int32} {x1 : Int32} {x2 : Int32} {s0 : Int32} {k2 : Int32 → Prop} {Z : Int32 → Unit → Prop} {H : Heap} {locs : List Loc} {ls : Array Slot} (hc : zC p s m args meth c prog_9_method_23_code (some .int) 3 "NumberDress$Reader") (hA : ∀ q : Nat, s.heap.size ≤ q → A q) (hE : zE gE A s) (hk2 : ∀ (x2 : Int32) (H : Heap) (locs : List Loc) (ls : Array Slot), lv_has ls 3 [(0, .ref h0), (1, .int x1), (2, .int x2)] → va_K (dC, dI) zCl [(cA1, .char)] s → va_P (dC, dI) zCl [(h0, .inr (8, o_Reader I0 h1 a0_2 a0_3)), (h1, .inl (cA1, n1, .inl f1))] H → va_D A [(h0, .inr (8, o_Reader I0 h1 a0_2 a0_3)), (h1, .inl (cA1, n1, .inl f1))] → va_S A s.heap H locs → k2 x2 → W p l e (headSpec (Cond.code (⟨"NumberDress$Reader", "digitsFrom", "(I)I"⟩ : MethodName) prog_9_method_23_code 3 (some .int) :: zT) { frames := 1, cells := 0, slots := 0, locals := 21 }).room s m args below meth c H locs 0 0 (MQ below (va_Qi Z (zB (dC, dI) zCl [(cA1, .char)] A (fun u : Unit => [(h0, .inr (8, o_Reader I0 h1 a0_2 a0_3)), (h1, .inl (cA1, n1, .inl f1))])) A) args s 0 0 A) (F0 m 2 ls [])) (hl : lv_has ls 3 [(0, .ref h0), (1, .int x1), (2, .int x2)]) (hK : va_K (dC, dI) zCl [(cA1, .char)] s) (hP : va_P (dC, dI) zCl [(h0, .inr (8, o_Reader I0 h1 a0_2 a0_3)), (h1, .inl (cA1, n1, .inl f1))] H) (hD : va_D A [(h0, .inr (8, o_Reader I0 h1 a0_2 a0_3)), (h1, .inl (cA1, n1, .inl f1))]) (hS : va_S A s.heap H locs) (hv : v_Reader_digitsFrom_14 I0 n1 f1 x1 x2 s0 k2 Z) : W p l e (headSpec (Cond.code (⟨"NumberDress$Reader", "digitsFrom", "(I)I"⟩ : MethodName) prog_9_method_23_code 3 (some .int) :: zT) { frames := 1, cells := 0, slots := 0, locals := 21 }).room s m args below meth c H locs 0 0 (MQ below (va_Qi Z (zB (dC, dI) zCl [(cA1, .char)] A (fun u : Unit => [(h0, .inr (8, o_Reader I0 h1 a0_2 a0_3)), (h1, .inl (cA1, n1, .inl f1))])) A) args s 0 0 A) (F0 m 14 ls [.int s0]) := by
  obtain ⟨hx, hb, hr, hml, hown, ht, hlocks⟩ := id hc
  unfold v_Reader_digitsFrom_14 at hv
  refine z_calli (wc := []) (wr := [(h0, .inr (8, o_Reader I0 h1 a0_2 a0_3)), (h1, .inl (cA1, n1, .inl f1))]) [] [0, 1] (va_runS (As := [.int s0]) (rest := []) ⟨hx, hb, hml, hown, ht⟩ (m_Reader_isDigit l dC dI hv) ⟨(callB_of 1 ht (zG_in zi_Reader_isDigit) rfl rfl rfl (ht _ zw_113) (ht _ zw_762) zh_Reader_isDigit ⟨Nat.le_of_ble_eq_true rfl, Nat.le_of_ble_eq_true rfl⟩), (ht _ zw_763)⟩ ⟨zPc_blind, zPc_pre hP hK hD hS hA hE [] [] rfl rfl (by decide) rfl⟩ rfl rfl hl.1 rfl (lv_room (Nat.le_of_ble_eq_true rfl)) d_Reader_digitsFrom_14 ⟨Nat.le_of_ble_eq_true rfl, Nat.le_of_ble_eq_true rfl⟩) hP hD hS hA rfl rfl (by decide) (by decide) (fun r u H locs hv hP hD hS => ?_)
  have hP : va_P (dC, dI) zCl [(h0, .inr (8, o_Reader I0 h1 a0_2 a0_3)), (h1, .inl (cA1, n1, .inl f1))] H := hP.sub [0, 1] rfl
  have hD : va_D A [(h0, .inr (8, o_Reader I0 h1 a0_2 a0_3)), (h1, .inl (cA1, n1, .inl f1))] := hD.sub [0, 1] (by decide) rfl
  exact b_Reader_digitsFrom_17 hc hA hE hk2 (lv_sub hl [0, 1, 2] rfl) hK hP hD hS hv
set_option maxHeartbeats 4000000 in
set_option maxRecDepth 100000 in
theorem b_Reader_digitsFrom_2 {h0 : Nat} {a0_2 : Nat} {a0_3 : Nat} {h1 : Nat} {cA1 : ClassId} {I0 : Nat → Int32} {n1 : Nat} {f1 : Nat → Int32} {x1 : Int32}  {Z : Int32 → Unit → Prop} (hc : zC p s m args meth c prog_9_method_23_code (some .int) 3 "NumberDress$Reader") (hA : ∀ q : Nat, s.heap.size ≤ q → A q) (hE : zE gE A s) : ∀ (N : Nat) (x2 : Int32) (H : Heap) (locs : List Loc) (ls : Array Slot), lv_has ls 3 [(0, .ref h0), (1, .int x1), (2, .int x2)] → va_K (dC, dI) zCl [(cA1, .char)] s → va_P (dC, dI) zCl [(h0, .inr (8, o_Reader I0 h1 a0_2 a0_3)), (h1, .inl (cA1, n1, .inl f1))] H → va_D A [(h0, .inr (8, o_Reader I0 h1 a0_2 a0_3)), (h1, .inl (cA1, n1, .inl f1))] → va_S A s.heap H locs → v_Reader_digitsFrom_2 I0 n1 f1 x1  Z N x2 → W p l e (headSpec (Cond.code (⟨"NumberDress$Reader", "digitsFrom", "(I)I"⟩ : MethodName) prog_9_method_23_code 3 (some .int) :: zT) { frames := 1, cells := 0, slots := 0, locals := 21 }).room s m args below meth c H locs 0 0 (MQ below (va_Qi Z (zB (dC, dI) zCl [(cA1, .char)] A (fun u : Unit => [(h0, .inr (8, o_Reader I0 h1 a0_2 a0_3)), (h1, .inl (cA1, n1, .inl f1))])) A) args s 0 0 A) (F0 m 2 ls []) := by
  obtain ⟨hx, hb, hr, hml, hown, ht, hlocks⟩ := id hc
  intro N
  induction N with
  | zero => intro x2 H locs ls hl hK hP hD hS hv; exact hv.elim
  | succ N hk2 =>
    intro x2 H locs ls hl hK hP hD hS hv
    unfold v_Reader_digitsFrom_2 at hv
    refine lv_iload_n hx hb d_Reader_digitsFrom_2 rfl (lv_at hl 2 rfl) ?_
    refine lv_iconst (v := (3 : Int32)) hx hb d_Reader_digitsFrom_3 (by decide) ?_
    refine lv_icmp_ge (tgt := 36) hx hb d_Reader_digitsFrom_4 (by decide) (fun c_1 => ?_) (fun c_1 => ?_)
    · have hv := hv.1 c_1
      refine lv_iload_n hx hb d_Reader_digitsFrom_36 rfl (lv_at hl 2 rfl) ?_
      exact W.iret (v := x2) hx hb hr (fun t ht hW => ⟨⟨_, (), rfl, hv, ⟨by rw [ht]; exact hP, va_K.moved hW.alike hK, hD⟩⟩, hS.F ht⟩) hS.2.2 d_Reader_digitsFrom_37
    · have hv := hv.2 c_1
      refine lv_aload_n hx hb d_Reader_digitsFrom_7 rfl (lv_at hl 0 rfl) ?_
      refine lv_iload_n hx hb d_Reader_digitsFrom_8 rfl (lv_at hl 1 rfl) ?_
      refine lv_iload_n hx hb d_Reader_digitsFrom_9 rfl (lv_at hl 2 rfl) ?_
      refine lv_iadd hx hb d_Reader_digitsFrom_10 ?_
      refine z_calli (wc := [(h0, .inr (8, o_Reader I0 h1 a0_2 a0_3)), (h1, .inl (cA1, n1, .inl f1))]) (wr := []) [0, 1] [] (va_runV (As := [.int (x1 + x2)]) (rest := []) ⟨hx, hb, hml, hown, ht⟩ (m_Reader_sign l dC dI hv) ⟨(callB_of 1 ht (zG_in zi_Reader_sign) rfl rfl rfl (ht _ zw_113) (ht _ zw_512) zh_Reader_sign ⟨Nat.le_of_ble_eq_true rfl, Nat.le_of_ble_eq_true rfl⟩), (ht _ zw_514), (ht _ zw_1)⟩ ⟨zPc_blind, va_recv hK hP (ci := 8) (q0 := 0) rfl rfl, zPc_pre hP hK hD hS hA hE [0, 1] [0] rfl rfl (by decide) rfl⟩ rfl rfl hl.1 rfl (lv_room (Nat.le_of_ble_eq_true rfl)) d_Reader_digitsFrom_11 ⟨Nat.le_of_ble_eq_true rfl, Nat.le_of_ble_eq_true rfl⟩) hP hD hS hA rfl rfl (by decide) (by decide) (fun r u H locs hv hP hD hS => ?_)
      have hP : va_P (dC, dI) zCl [(h0, .inr (8, o_Reader I0 h1 a0_2 a0_3)), (h1, .inl (cA1, n1, .inl f1))] H := hP.sub [0, 1] rfl
      have hD : va_D A [(h0, .inr (8, o_Reader I0 h1 a0_2 a0_3)), (h1, .inl (cA1, n1, .inl f1))] := hD.sub [0, 1] (by decide) rfl
      exact b_Reader_digitsFrom_14 hc hA hE hk2 (lv_sub hl [0, 1, 2] rfl) hK hP hD hS hv
set_option maxHeartbeats 4000000 in
set_option maxRecDepth 100000 in
theorem b_Reader_digitsFrom_0 {h0 : Nat} {a0_2 : Nat} {a0_3 : Nat} {h1 : Nat} {cA1 : ClassId} {I0 : Nat → Int32} {n1 : Nat} {f1 : Nat → Int32} {x1 : Int32}  {Z : Int32 → Unit → Prop} {H : Heap} {locs : List Loc} {ls : Array Slot} (hc : zC p s m args meth c prog_9_method_23_code (some .int) 3 "NumberDress$Reader") (hA : ∀ q : Nat, s.heap.size ≤ q → A q) (hE : zE gE A s) (hl : lv_has ls 3 [(0, .ref h0), (1, .int x1)]) (hK : va_K (dC, dI) zCl [(cA1, .char)] s) (hP : va_P (dC, dI) zCl [(h0, .inr (8, o_Reader I0 h1 a0_2 a0_3)), (h1, .inl (cA1, n1, .inl f1))] H) (hD : va_D A [(h0, .inr (8, o_Reader I0 h1 a0_2 a0_3)), (h1, .inl (cA1, n1, .inl f1))]) (hS : va_S A s.heap H locs) (hv : v_Reader_digitsFrom_0 I0 n1 f1 x1  Z) : W p l e (headSpec (Cond.code (⟨"NumberDress$Reader", "digitsFrom", "(I)I"⟩ : MethodName) prog_9_method_23_code 3 (some .int) :: zT) { frames := 1, cells := 0, slots := 0, locals := 21 }).room s m args below meth c H locs 0 0 (MQ below (va_Qi Z (zB (dC, dI) zCl [(cA1, .char)] A (fun u : Unit => [(h0, .inr (8, o_Reader I0 h1 a0_2 a0_3)), (h1, .inl (cA1, n1, .inl f1))])) A) args s 0 0 A) (F0 m 0 ls []) := by
  obtain ⟨hx, hb, hr, hml, hown, ht, hlocks⟩ := id hc
  unfold v_Reader_digitsFrom_0 at hv
  refine lv_iconst (v := (0 : Int32)) hx hb d_Reader_digitsFrom_0 (by decide) ?_
  refine lv_istore_n (lv' := [(2, .int (0 : Int32)), (0, .ref h0), (1, .int x1)]) hx hb d_Reader_digitsFrom_1 rfl hl (by decide) rfl (fun ls hl => ?_)
  obtain ⟨Nx, hv⟩ := hv
  exact b_Reader_digitsFrom_2 hc hA hE  Nx (0 : Int32) _ _ _ (lv_sub hl [1, 2, 0] rfl) hK hP hD hS hv
theorem zi_Reader_digitsFrom : Cond.code (⟨"NumberDress$Reader", "digitsFrom", "(I)I"⟩ : MethodName) prog_9_method_23_code 3 (some .int) ∈ zT := zw_761
theorem zh_Reader_digitsFrom : (((⟨"NumberDress$Reader", "digitsFrom", "(I)I"⟩ : MethodName)).cls ≠ "java/lang/invoke/MethodHandle" ∧ ((⟨"NumberDress$Reader", "digitsFrom", "(I)I"⟩ : MethodName)).cls ≠ "java/lang/invoke/VarHandle" ∧ (parseMethodDescriptor ((⟨"NumberDress$Reader", "digitsFrom", "(I)I"⟩ : MethodName)).desc).map (fun d => d.parameters.length) = some 1) := by decide +kernel
set_option maxHeartbeats 4000000 in
set_option maxRecDepth 100000 in
theorem m_Reader_digitsFrom (l : Launch) (dC : Nat → ClassId) (dI : Nat → Nat → Nat) {gE : zG} {h0 : Nat} {a0_2 : Nat} {a0_3 : Nat} {h1 : Nat} {cA1 : ClassId} {I0 : Nat → Int32} {n1 : Nat} {f1 : Nat → Int32} {x1 : Int32} {sz : Nat} {Z : Int32 → Unit → Prop} (hv : v_Reader_digitsFrom_0 I0 n1 f1 x1 Z) : Met l (⟨"NumberDress$Reader", "digitsFrom", "(I)I"⟩ : MethodName) (Cond.code (⟨"NumberDress$Reader", "digitsFrom", "(I)I"⟩ : MethodName) prog_9_method_23_code 3 (some .int) :: zT) { frames := 1, cells := 0, slots := 0, locals := 21 } (zPc gE (dC, dI) zCl [(cA1, .char)] [.ref h0, .int x1] sz [(h0, .inr (8, o_Reader I0 h1 a0_2 a0_3)), (h1, .inl (cA1, n1, .inl f1))]) (va_Qi Z (zB (dC, dI) zCl [(cA1, .char)] (va_A [(h0, .inr (8, o_Reader I0 h1 a0_2 a0_3)), (h1, .inl (cA1, n1, .inl f1))] sz) (fun u : Unit => [(h0, .inr (8, o_Reader I0 h1 a0_2 a0_3)), (h1, .inl (cA1, n1, .inl f1))])) (va_A [(h0, .inr (8, o_Reader I0 h1 a0_2 a0_3)), (h1, .inl (cA1, n1, .inl f1))] sz)) 0 0 (va_A [(h0, .inr (8, o_Reader I0 h1 a0_2 a0_3)), (h1, .inl (cA1, n1, .inl f1))] sz) := by
  refine Met.ofW (cc := prog_9_method_23_code) (maxL := 3) (ret := (some .int)) (by decide +kernel) rfl ?_
  intro p e s m args below meth c s₁ B hml hp
  obtain ⟨rfl, hsz, hP, hK, hD0, hE⟩ := hp
  have hts := atoms_spec (ws := (Cond.code (⟨"NumberDress$Reader", "digitsFrom", "(I)I"⟩ : MethodName) prog_9_method_23_code 3 (some .int) :: zT)) B.pre
  have hown : s.vm.findClass "NumberDress$Reader" = some m.cls := findClass_of_methodNamed B.named
  have hc : zC p s m _ meth c prog_9_method_23_code (some .int) 3 "NumberDress$Reader" := ⟨B.exec, B.bytes, B.returns, hml, hown, fun w h => hts w (List.mem_cons_of_mem _ h), B.notSynchronized⟩
  subst hsz
  have hD := hD0.self (sz := s.heap.size)
  generalize hAe : va_A [(h0, .inr (8, o_Reader I0 h1 a0_2 a0_3)), (h1, .inl (cA1, n1, .inl f1))] s.heap.size = A at hD hE ⊢
  have hA : ∀ q : Nat, s.heap.size ≤ q → A q := fun q h => by rw [← hAe]; exact Or.inr h
  have hl := lv_entry ([.ref h0, .int x1]) (n := 3) (Nat.le_of_ble_eq_true rfl)
  rw [lg_entry_eq]
  exact b_Reader_digitsFrom_0 hc hA hE hl hK hP hD va_S.rf hv
theorem d_Reader_makeNumerator_0 : decode prog_9_method_21_code 0 = .ok (.aload_n 0, 1) := by decide +kernel
theorem d_Reader_makeNumerator_1 : decode prog_9_method_21_code 1 = .ok (.getfield 18, 3) := by decide +kernel
theorem d_Reader_makeNumerator_4 : decode prog_9_method_21_code 4 = .ok (.getfield 77, 3) := by decide +kernel
theorem d_Reader_makeNumerator_7 : decode prog_9_method_21_code 7 = .ok (.iconst 1, 1) := by decide +kernel
theorem d_Reader_makeNumerator_8 : decode prog_9_method_21_code 8 = .ok (.isub, 1) := by decide +kernel
theorem d_Reader_makeNumerator_9 : decode prog_9_method_21_code 9 = .ok (.istore_n 1, 1) := by decide +kernel
theorem d_Reader_makeNumerator_10 : decode prog_9_method_21_code 10 = .ok (.iload_n 1, 1) := by decide +kernel
theorem d_Reader_makeNumerator_11 : decode prog_9_method_21_code 11 = .ok (.aload_n 0, 1) := by decide +kernel
theorem d_Reader_makeNumerator_12 : decode prog_9_method_21_code 12 = .ok (.getfield 25, 3) := by decide +kernel
theorem d_Reader_makeNumerator_15 : decode prog_9_method_21_code 15 = .ok (.getfield 210, 3) := by decide +kernel
theorem d_Reader_makeNumerator_18 : decode prog_9_method_21_code 18 = .ok (.if_icmp .lt 57, 3) := by decide +kernel
theorem d_Reader_makeNumerator_21 : decode prog_9_method_21_code 21 = .ok (.aload_n 0, 1) := by decide +kernel
theorem d_Reader_makeNumerator_22 : decode prog_9_method_21_code 22 = .ok (.getfield 18, 3) := by decide +kernel
theorem d_Reader_makeNumerator_25 : decode prog_9_method_21_code 25 = .ok (.iload_n 1, 1) := by decide +kernel
theorem d_Reader_makeNumerator_26 : decode prog_9_method_21_code 26 = .ok (.invokevirtual 213, 3) := by decide +kernel
theorem d_Reader_makeNumerator_29 : decode prog_9_method_21_code 29 = .ok (.iconst 2, 1) := by decide +kernel
theorem d_Reader_makeNumerator_30 : decode prog_9_method_21_code 30 = .ok (.if_icmp .ne 45, 3) := by decide +kernel
theorem d_Reader_makeNumerator_33 : decode prog_9_method_21_code 33 = .ok (.aload_n 0, 1) := by decide +kernel
theorem d_Reader_makeNumerator_34 : decode prog_9_method_21_code 34 = .ok (.getfield 18, 3) := by decide +kernel
theorem d_Reader_makeNumerator_37 : decode prog_9_method_21_code 37 = .ok (.iload_n 1, 1) := by decide +kernel
theorem d_Reader_makeNumerator_38 : decode prog_9_method_21_code 38 = .ok (.bipush 9, 2) := by decide +kernel
theorem d_Reader_makeNumerator_40 : decode prog_9_method_21_code 40 = .ok (.invokevirtual 215, 3) := by decide +kernel
theorem d_Reader_makeNumerator_43 : decode prog_9_method_21_code 43 = .ok (.aload_n 0, 1) := by decide +kernel
theorem d_Reader_makeNumerator_44 : decode prog_9_method_21_code 44 = .ok (.getfield 25, 3) := by decide +kernel
theorem d_Reader_makeNumerator_47 : decode prog_9_method_21_code 47 = .ok (.dup, 1) := by decide +kernel
theorem d_Reader_makeNumerator_48 : decode prog_9_method_21_code 48 = .ok (.getfield 218, 3) := by decide +kernel
theorem d_Reader_makeNumerator_51 : decode prog_9_method_21_code 51 = .ok (.iconst 1, 1) := by decide +kernel
theorem d_Reader_makeNumerator_52 : decode prog_9_method_21_code 52 = .ok (.iadd, 1) := by decide +kernel
theorem d_Reader_makeNumerator_53 : decode prog_9_method_21_code 53 = .ok (.putfield 218, 3) := by decide +kernel
theorem d_Reader_makeNumerator_56 : decode prog_9_method_21_code 56 = .ok (.aload_n 0, 1) := by decide +kernel
theorem d_Reader_makeNumerator_57 : decode prog_9_method_21_code 57 = .ok (.getfield 25, 3) := by decide +kernel
theorem d_Reader_makeNumerator_60 : decode prog_9_method_21_code 60 = .ok (.dup, 1) := by decide +kernel
theorem d_Reader_makeNumerator_61 : decode prog_9_method_21_code 61 = .ok (.getfield 180, 3) := by decide +kernel
theorem d_Reader_makeNumerator_64 : decode prog_9_method_21_code 64 = .ok (.iconst 1, 1) := by decide +kernel
theorem d_Reader_makeNumerator_65 : decode prog_9_method_21_code 65 = .ok (.isub, 1) := by decide +kernel
theorem d_Reader_makeNumerator_66 : decode prog_9_method_21_code 66 = .ok (.putfield 180, 3) := by decide +kernel
theorem d_Reader_makeNumerator_69 : decode prog_9_method_21_code 69 = .ok (.iinc 1 (-1), 3) := by decide +kernel
theorem d_Reader_makeNumerator_72 : decode prog_9_method_21_code 72 = .ok (.goto (-62), 3) := by decide +kernel
theorem d_Reader_makeNumerator_75 : decode prog_9_method_21_code 75 = .ok (.return_, 1) := by decide +kernel
def v_Reader_makeNumerator_43 (I0 : Nat → Int32) (I1 : Nat → Int32) (I2 : Nat → Int32) (n3 : Nat) (f3 : Nat → Int32) (x1 : Int32) (k10 : (Nat → Int32) → (Nat → Int32) → Int32 → Prop) (Z : (Nat → Int32) × (Nat → Int32) → Prop) : Prop :=
  (k10 (zu (zu I2 3 ((I2 3) - (1 : Int32))) 10 ((I2 10) + (1 : Int32))) f3 (x1 + (-1 : Int32)))
def v_Reader_makeNumerator_29 (I0 : Nat → Int32) (I1 : Nat → Int32) (I2 : Nat → Int32) (n3 : Nat) (f3 : Nat → Int32) (x1 : Int32) (s0 : Int32) (k10 : (Nat → Int32) → (Nat → Int32) → Int32 → Prop) (Z : (Nat → Int32) × (Nat → Int32) → Prop) : Prop :=
  ((¬ s0 = (2 : Int32) → (Z (I2, f3))) ∧ (s0 = (2 : Int32) → (v_Code_change_0 I1 n3 f3 x1 (9 : Int32) (fun u => (v_Reader_makeNumerator_43 I0 I1 I2 n3 u x1 k10 Z)))))
def v_Reader_makeNumerator_10 (I0 : Nat → Int32) (I1 : Nat → Int32) (n3 : Nat)  (Z : (Nat → Int32) × (Nat → Int32) → Prop) : Nat → (Nat → Int32) → (Nat → Int32) → Int32 → Prop
  | 0 => fun _ _ _ => False
  | N + 1 => fun I2 f3 x1 => ((x1 < (I2 1) → (Z (I2, f3))) ∧ (¬ x1 < (I2 1) → (v_Code_kind_0 I1 n3 f3 x1 (fun r u => (v_Reader_makeNumerator_29 I0 I1 I2 n3 f3 x1 r (v_Reader_makeNumerator_10 I0 I1 n3  Z N) Z)))))
def v_Reader_makeNumerator_0 (I0 : Nat → Int32) (I1 : Nat → Int32) (I2 : Nat → Int32) (n3 : Nat) (f3 : Nat → Int32)  (Z : (Nat → Int32) × (Nat → Int32) → Prop) : Prop :=
  (∃ Nx, v_Reader_makeNumerator_10 I0 I1 n3  Z Nx I2 f3 ((I1 4) - (1 : Int32)))
set_option maxHeartbeats 4000000 in
set_option maxRecDepth 100000 in
theorem b_Reader_makeNumerator_43 {h0 : Nat} {a0_0 : Nat} {h1 : Nat} {a1_0 : Nat} {a1_3 : Nat} {h2 : Nat} {h3 : Nat} {cA3 : ClassId} {I0 : Nat → Int32} {I1 : Nat → Int32} {I2 : Nat → Int32} {n3 : Nat} {f3 : Nat → Int32} {x1 : Int32} {k10 : (Nat → Int32) → (Nat → Int32) → Int32 → Prop} {Z : (Nat → Int32) × (Nat → Int32) → Prop} {H : Heap} {locs : List Loc} {ls : Array Slot} (hc : zC p s m args meth c prog_9_method_21_code none 2 "NumberDress$Reader") (hA : ∀ q : Nat, s.heap.size ≤ q → A q) (hE : zE gE A s) (hk10 : ∀ (I2 : Nat → Int32) (f3 : Nat → Int32) (x1 : Int32) (H : Heap) (locs : List Loc) (ls : Array Slot), lv_has ls 2 [(0, .ref h0), (1, .int x1)] → va_K (dC, dI) zCl [(cA3, .int)] s → va_P (dC, dI) zCl [(h0, .inr (8, o_Reader I0 a0_0 h1 h2)), (h1, .inr (1, o_Code I1 a1_0 h3 a1_3)), (h2, .inr (9, o_Section I2)), (h3, .inl (cA3, n3, .inl f3))] H → va_D A [(h0, .inr (8, o_Reader I0 a0_0 h1 h2)), (h1, .inr (1, o_Code I1 a1_0 h3 a1_3)), (h2, .inr (9, o_Section I2)), (h3, .inl (cA3, n3, .inl f3))] → va_S A s.heap H locs → k10 I2 f3 x1 → W p l e (headSpec (Cond.code (⟨"NumberDress$Reader", "makeNumerator", "()V"⟩ : MethodName) prog_9_method_21_code 2 none :: zT) { frames := 1, cells := 0, slots := 0, locals := 22 }).room s m args below meth c H locs 0 0 (MQ below (va_Qv Z (zB (dC, dI) zCl [(cA3, .int)] A (fun u : (Nat → Int32) × (Nat → Int32) => [(h0, .inr (8, o_Reader I0 a0_0 h1 h2)), (h1, .inr (1, o_Code I1 a1_0 h3 a1_3)), (h2, .inr (9, o_Section u.1)), (h3, .inl (cA3, n3, .inl u.2))])) A) args s 0 0 A) (F0 m 10 ls [])) (hl : lv_has ls 2 [(0, .ref h0), (1, .int x1)]) (hK : va_K (dC, dI) zCl [(cA3, .int)] s) (hP : va_P (dC, dI) zCl [(h0, .inr (8, o_Reader I0 a0_0 h1 h2)), (h1, .inr (1, o_Code I1 a1_0 h3 a1_3)), (h2, .inr (9, o_Section I2)), (h3, .inl (cA3, n3, .inl f3))] H) (hD : va_D A [(h0, .inr (8, o_Reader I0 a0_0 h1 h2)), (h1, .inr (1, o_Code I1 a1_0 h3 a1_3)), (h2, .inr (9, o_Section I2)), (h3, .inl (cA3, n3, .inl f3))]) (hS : va_S A s.heap H locs) (hv : v_Reader_makeNumerator_43 I0 I1 I2 n3 f3 x1 k10 Z) : W p l e (headSpec (Cond.code (⟨"NumberDress$Reader", "makeNumerator", "()V"⟩ : MethodName) prog_9_method_21_code 2 none :: zT) { frames := 1, cells := 0, slots := 0, locals := 22 }).room s m args below meth c H locs 0 0 (MQ below (va_Qv Z (zB (dC, dI) zCl [(cA3, .int)] A (fun u : (Nat → Int32) × (Nat → Int32) => [(h0, .inr (8, o_Reader I0 a0_0 h1 h2)), (h1, .inr (1, o_Code I1 a1_0 h3 a1_3)), (h2, .inr (9, o_Section u.1)), (h3, .inl (cA3, n3, .inl u.2))])) A) args s 0 0 A) (F0 m 43 ls []) := by
  obtain ⟨hx, hb, hr, hml, hown, ht, hlocks⟩ := id hc
  unfold v_Reader_makeNumerator_43 at hv
  refine lv_aload_n hx hb d_Reader_makeNumerator_43 rfl (lv_at hl 0 rfl) ?_
  refine va_get (D := (dC, dI)) (ci := 8) (v := .ref h2) (C := "NumberDress$Reader") (T := T_Reader) (N := 5) hx hb ht zin_Reader hown hK hP 0 rfl rfl 3 (by decide) (ht _ zw_274) (fun _ h9 => h9) rfl d_Reader_makeNumerator_44 ?_
  refine lv_dup hx hb d_Reader_makeNumerator_47 rfl ?_
  refine va_get (D := (dC, dI)) (ci := 9) (v := .int (I2 10)) (C := "NumberDress$Section") (T := T_Section) (N := 15) hx hb ht zin_Section hown hK hP 2 rfl rfl 10 (by decide) (ht _ zw_197) (fun _ h9 => h9) rfl d_Reader_makeNumerator_48 ?_
  refine lv_iconst (v := (1 : Int32)) hx hb d_Reader_makeNumerator_51 (by decide) ?_
  refine lv_iadd hx hb d_Reader_makeNumerator_52 ?_
  refine va_put (D := (dC, dI)) (ci := 9) (v := .int ((I2 10) + (1 : Int32))) (ty := .int) (C := "NumberDress$Section") (T := T_Section) (N := 15) hx hb ht zin_Section ty_Section tyok_Section nm_Section hown hK hP hD hS 2 rfl rfl 10 (by decide) (ht _ zw_197) (fun _ h9 => h9) rfl (by decide +kernel) rfl rfl (Nat.le_of_ble_eq_true rfl) d_Reader_makeNumerator_53 (fun H locs hP hD hS => ?_)
  have hP : va_P (dC, dI) zCl [(h0, .inr (8, o_Reader I0 a0_0 h1 h2)), (h1, .inr (1, o_Code I1 a1_0 h3 a1_3)), (h2, .inr (9, o_Section (zu I2 10 ((I2 10) + (1 : Int32))))), (h3, .inl (cA3, n3, .inl f3))] H := hP
  have hD : va_D A [(h0, .inr (8, o_Reader I0 a0_0 h1 h2)), (h1, .inr (1, o_Code I1 a1_0 h3 a1_3)), (h2, .inr (9, o_Section (zu I2 10 ((I2 10) + (1 : Int32))))), (h3, .inl (cA3, n3, .inl f3))] := hD
  refine lv_aload_n hx hb d_Reader_makeNumerator_56 rfl (lv_at hl 0 rfl) ?_
  refine va_get (D := (dC, dI)) (ci := 8) (v := .ref h2) (C := "NumberDress$Reader") (T := T_Reader) (N := 5) hx hb ht zin_Reader hown hK hP 0 rfl rfl 3 (by decide) (ht _ zw_274) (fun _ h9 => h9) rfl d_Reader_makeNumerator_57 ?_
  refine lv_dup hx hb d_Reader_makeNumerator_60 rfl ?_
  refine va_get (D := (dC, dI)) (ci := 9) (v := .int (I2 3)) (C := "NumberDress$Section") (T := T_Section) (N := 15) hx hb ht zin_Section hown hK hP 2 rfl rfl 3 (by decide) (ht _ zw_177) (fun _ h9 => h9) rfl d_Reader_makeNumerator_61 ?_
  refine lv_iconst (v := (1 : Int32)) hx hb d_Reader_makeNumerator_64 (by decide) ?_
  refine lv_isub hx hb d_Reader_makeNumerator_65 ?_
  refine va_put (D := (dC, dI)) (ci := 9) (v := .int ((I2 3) - (1 : Int32))) (ty := .int) (C := "NumberDress$Section") (T := T_Section) (N := 15) hx hb ht zin_Section ty_Section tyok_Section nm_Section hown hK hP hD hS 2 rfl rfl 3 (by decide) (ht _ zw_177) (fun _ h9 => h9) rfl (by decide +kernel) rfl rfl (Nat.le_of_ble_eq_true rfl) d_Reader_makeNumerator_66 (fun H locs hP hD hS => ?_)
  have hP : va_P (dC, dI) zCl [(h0, .inr (8, o_Reader I0 a0_0 h1 h2)), (h1, .inr (1, o_Code I1 a1_0 h3 a1_3)), (h2, .inr (9, o_Section (zu (zu I2 3 ((I2 3) - (1 : Int32))) 10 ((I2 10) + (1 : Int32))))), (h3, .inl (cA3, n3, .inl f3))] H := hP
  have hD : va_D A [(h0, .inr (8, o_Reader I0 a0_0 h1 h2)), (h1, .inr (1, o_Code I1 a1_0 h3 a1_3)), (h2, .inr (9, o_Section (zu (zu I2 3 ((I2 3) - (1 : Int32))) 10 ((I2 10) + (1 : Int32))))), (h3, .inl (cA3, n3, .inl f3))] := hD
  refine lv_iinc (v := (x1 + (-1 : Int32))) (lv' := [(1, .int (x1 + (-1 : Int32))), (0, .ref h0)]) hx hb d_Reader_makeNumerator_69 hl (k := 1) rfl rfl (by decide) rfl (fun ls hl => ?_)
  refine lv_goto (tgt := 10) hx hb d_Reader_makeNumerator_72 (by decide) ?_
  exact hk10 (zu (zu I2 3 ((I2 3) - (1 : Int32))) 10 ((I2 10) + (1 : Int32))) f3 (x1 + (-1 : Int32)) _ _ _ (lv_sub hl [1, 0] rfl) hK hP hD hS hv
set_option maxHeartbeats 4000000 in
set_option maxRecDepth 100000 in
theorem b_Reader_makeNumerator_29 {h0 : Nat} {a0_0 : Nat} {h1 : Nat} {a1_0 : Nat} {a1_3 : Nat} {h2 : Nat} {h3 : Nat} {cA3 : ClassId} {I0 : Nat → Int32} {I1 : Nat → Int32} {I2 : Nat → Int32} {n3 : Nat} {f3 : Nat → Int32} {x1 : Int32} {s0 : Int32} {k10 : (Nat → Int32) → (Nat → Int32) → Int32 → Prop} {Z : (Nat → Int32) × (Nat → Int32) → Prop} {H : Heap} {locs : List Loc} {ls : Array Slot} (hc : zC p s m args meth c prog_9_method_21_code none 2 "NumberDress$Reader") (hA : ∀ q : Nat, s.heap.size ≤ q → A q) (hE : zE gE A s) (hk10 : ∀ (I2 : Nat → Int32) (f3 : Nat → Int32) (x1 : Int32) (H : Heap) (locs : List Loc) (ls : Array Slot), lv_has ls 2 [(0, .ref h0), (1, .int x1)] → va_K (dC, dI) zCl [(cA3, .int)] s → va_P (dC, dI) zCl [(h0, .inr (8, o_Reader I0 a0_0 h1 h2)), (h1, .inr (1, o_Code I1 a1_0 h3 a1_3)), (h2, .inr (9, o_Section I2)), (h3, .inl (cA3, n3, .inl f3))] H → va_D A [(h0, .inr (8, o_Reader I0 a0_0 h1 h2)), (h1, .inr (1, o_Code I1 a1_0 h3 a1_3)), (h2, .inr (9, o_Section I2)), (h3, .inl (cA3, n3, .inl f3))] → va_S A s.heap H locs → k10 I2 f3 x1 → W p l e (headSpec (Cond.code (⟨"NumberDress$Reader", "makeNumerator", "()V"⟩ : MethodName) prog_9_method_21_code 2 none :: zT) { frames := 1, cells := 0, slots := 0, locals := 22 }).room s m args below meth c H locs 0 0 (MQ below (va_Qv Z (zB (dC, dI) zCl [(cA3, .int)] A (fun u : (Nat → Int32) × (Nat → Int32) => [(h0, .inr (8, o_Reader I0 a0_0 h1 h2)), (h1, .inr (1, o_Code I1 a1_0 h3 a1_3)), (h2, .inr (9, o_Section u.1)), (h3, .inl (cA3, n3, .inl u.2))])) A) args s 0 0 A) (F0 m 10 ls [])) (hl : lv_has ls 2 [(0, .ref h0), (1, .int x1)]) (hK : va_K (dC, dI) zCl [(cA3, .int)] s) (hP : va_P (dC, dI) zCl [(h0, .inr (8, o_Reader I0 a0_0 h1 h2)), (h1, .inr (1, o_Code I1 a1_0 h3 a1_3)), (h2, .inr (9, o_Section I2)), (h3, .inl (cA3, n3, .inl f3))] H) (hD : va_D A [(h0, .inr (8, o_Reader I0 a0_0 h1 h2)), (h1, .inr (1, o_Code I1 a1_0 h3 a1_3)), (h2, .inr (9, o_Section I2)), (h3, .inl (cA3, n3, .inl f3))]) (hS : va_S A s.heap H locs) (hv : v_Reader_makeNumerator_29 I0 I1 I2 n3 f3 x1 s0 k10 Z) : W p l e (headSpec (Cond.code (⟨"NumberDress$Reader", "makeNumerator", "()V"⟩ : MethodName) prog_9_method_21_code 2 none :: zT) { frames := 1, cells := 0, slots := 0, locals := 22 }).room s m args below meth c H locs 0 0 (MQ below (va_Qv Z (zB (dC, dI) zCl [(cA3, .int)] A (fun u : (Nat → Int32) × (Nat → Int32) => [(h0, .inr (8, o_Reader I0 a0_0 h1 h2)), (h1, .inr (1, o_Code I1 a1_0 h3 a1_3)), (h2, .inr (9, o_Section u.1)), (h3, .inl (cA3, n3, .inl u.2))])) A) args s 0 0 A) (F0 m 29 ls [.int s0]) := by
  obtain ⟨hx, hb, hr, hml, hown, ht, hlocks⟩ := id hc
  unfold v_Reader_makeNumerator_29 at hv
  refine lv_iconst (v := (2 : Int32)) hx hb d_Reader_makeNumerator_29 (by decide) ?_
  refine lv_icmp_ne (tgt := 75) hx hb d_Reader_makeNumerator_30 (by decide) (fun c_1 => ?_) (fun c_1 => ?_)
  · have hv := hv.1 c_1
    exact W.vret hx hb hr (fun t ht hW => ⟨⟨(I2, f3), rfl, hv, ⟨by rw [ht]; exact hP, va_K.moved hW.alike hK, hD⟩⟩, hS.F ht⟩) hS.2.2 d_Reader_makeNumerator_75
  · have hv := hv.2 c_1
    refine lv_aload_n hx hb d_Reader_makeNumerator_33 rfl (lv_at hl 0 rfl) ?_
    refine va_get (D := (dC, dI)) (ci := 8) (v := .ref h1) (C := "NumberDress$Reader") (T := T_Reader) (N := 5) hx hb ht zin_Reader hown hK hP 0 rfl rfl 2 (by decide) (ht _ zw_273) (fun _ h9 => h9) rfl d_Reader_makeNumerator_34 ?_
    refine lv_iload_n hx hb d_Reader_makeNumerator_37 rfl (lv_at hl 1 rfl) ?_
    refine lv_bipush (v := (9 : Int32)) hx hb d_Reader_makeNumerator_38 (by decide) ?_
    refine z_callv (wc := [(h1, .inr (1, o_Code I1 a1_0 h3 a1_3)), (h3, .inl (cA3, n3, .inl f3))]) (wr := [(h0, .inr (8, o_Reader I0 a0_0 h1 h2)), (h2, .inr (9, o_Section I2))]) [1, 3] [0, 2] (va_runV (As := [.int x1, .int (9 : Int32)]) (rest := []) ⟨hx, hb, hml, hown, ht⟩ (m_Code_change l dC dI hv) ⟨(callB_of 2 ht (zG_in zi_Code_change) rfl rfl rfl (ht _ zw_111) (ht _ zw_769) zh_Code_change ⟨Nat.le_of_ble_eq_true rfl, Nat.le_of_ble_eq_true rfl⟩), (ht _ zw_770), (ht _ zw_771)⟩ ⟨zPc_blind, va_recv hK hP (ci := 1) (q0 := 1) rfl rfl, zPc_pre hP hK hD hS hA hE [1, 3] [0] rfl rfl (by decide) rfl⟩ rfl rfl hl.1 rfl (lv_room (Nat.le_of_ble_eq_true rfl)) d_Reader_makeNumerator_40 ⟨Nat.le_of_ble_eq_true rfl, Nat.le_of_ble_eq_true rfl⟩) hP hD hS hA rfl rfl (by decide) (by decide) (fun u H locs hv hP hD hS => ?_)
    have hP : va_P (dC, dI) zCl [(h0, .inr (8, o_Reader I0 a0_0 h1 h2)), (h1, .inr (1, o_Code I1 a1_0 h3 a1_3)), (h2, .inr (9, o_Section I2)), (h3, .inl (cA3, n3, .inl u))] H := hP.sub [0, 2, 1, 3] rfl
    have hD : va_D A [(h0, .inr (8, o_Reader I0 a0_0 h1 h2)), (h1, .inr (1, o_Code I1 a1_0 h3 a1_3)), (h2, .inr (9, o_Section I2)), (h3, .inl (cA3, n3, .inl u))] := hD.sub [0, 2, 1, 3] (by decide) rfl
    exact b_Reader_makeNumerator_43 hc hA hE hk10 (lv_sub hl [0, 1] rfl) hK hP hD hS hv
set_option maxHeartbeats 4000000 in
set_option maxRecDepth 100000 in
theorem b_Reader_makeNumerator_10 {h0 : Nat} {a0_0 : Nat} {h1 : Nat} {a1_0 : Nat} {a1_3 : Nat} {h2 : Nat} {h3 : Nat} {cA3 : ClassId} {I0 : Nat → Int32} {I1 : Nat → Int32} {n3 : Nat}  {Z : (Nat → Int32) × (Nat → Int32) → Prop} (hc : zC p s m args meth c prog_9_method_21_code none 2 "NumberDress$Reader") (hA : ∀ q : Nat, s.heap.size ≤ q → A q) (hE : zE gE A s) : ∀ (N : Nat) (I2 : Nat → Int32) (f3 : Nat → Int32) (x1 : Int32) (H : Heap) (locs : List Loc) (ls : Array Slot), lv_has ls 2 [(0, .ref h0), (1, .int x1)] → va_K (dC, dI) zCl [(cA3, .int)] s → va_P (dC, dI) zCl [(h0, .inr (8, o_Reader I0 a0_0 h1 h2)), (h1, .inr (1, o_Code I1 a1_0 h3 a1_3)), (h2, .inr (9, o_Section I2)), (h3, .inl (cA3, n3, .inl f3))] H → va_D A [(h0, .inr (8, o_Reader I0 a0_0 h1 h2)), (h1, .inr (1, o_Code I1 a1_0 h3 a1_3)), (h2, .inr (9, o_Section I2)), (h3, .inl (cA3, n3, .inl f3))] → va_S A s.heap H locs → v_Reader_makeNumerator_10 I0 I1 n3  Z N I2 f3 x1 → W p l e (headSpec (Cond.code (⟨"NumberDress$Reader", "makeNumerator", "()V"⟩ : MethodName) prog_9_method_21_code 2 none :: zT) { frames := 1, cells := 0, slots := 0, locals := 22 }).room s m args below meth c H locs 0 0 (MQ below (va_Qv Z (zB (dC, dI) zCl [(cA3, .int)] A (fun u : (Nat → Int32) × (Nat → Int32) => [(h0, .inr (8, o_Reader I0 a0_0 h1 h2)), (h1, .inr (1, o_Code I1 a1_0 h3 a1_3)), (h2, .inr (9, o_Section u.1)), (h3, .inl (cA3, n3, .inl u.2))])) A) args s 0 0 A) (F0 m 10 ls []) := by
  obtain ⟨hx, hb, hr, hml, hown, ht, hlocks⟩ := id hc
  intro N
  induction N with
  | zero => intro I2 f3 x1 H locs ls hl hK hP hD hS hv; exact hv.elim
  | succ N hk10 =>
    intro I2 f3 x1 H locs ls hl hK hP hD hS hv
    unfold v_Reader_makeNumerator_10 at hv
    refine lv_iload_n hx hb d_Reader_makeNumerator_10 rfl (lv_at hl 1 rfl) ?_
    refine lv_aload_n hx hb d_Reader_makeNumerator_11 rfl (lv_at hl 0 rfl) ?_
    refine va_get (D := (dC, dI)) (ci := 8) (v := .ref h2) (C := "NumberDress$Reader") (T := T_Reader) (N := 5) hx hb ht zin_Reader hown hK hP 0 rfl rfl 3 (by decide) (ht _ zw_274) (fun _ h9 => h9) rfl d_Reader_makeNumerator_12 ?_
    refine va_get (D := (dC, dI)) (ci := 9) (v := .int (I2 1)) (C := "NumberDress$Section") (T := T_Section) (N := 15) hx hb ht zin_Section hown hK hP 2 rfl rfl 1 (by decide) (ht _ zw_167) (fun _ h9 => h9) rfl d_Reader_makeNumerator_15 ?_
    refine lv_icmp_lt (tgt := 75) hx hb d_Reader_makeNumerator_18 (by decide) (fun c_1 => ?_) (fun c_1 => ?_)
    · have hv := hv.1 c_1
      exact W.vret hx hb hr (fun t ht hW => ⟨⟨(I2, f3), rfl, hv, ⟨by rw [ht]; exact hP, va_K.moved hW.alike hK, hD⟩⟩, hS.F ht⟩) hS.2.2 d_Reader_makeNumerator_75
    · have hv := hv.2 c_1
      refine lv_aload_n hx hb d_Reader_makeNumerator_21 rfl (lv_at hl 0 rfl) ?_
      refine va_get (D := (dC, dI)) (ci := 8) (v := .ref h1) (C := "NumberDress$Reader") (T := T_Reader) (N := 5) hx hb ht zin_Reader hown hK hP 0 rfl rfl 2 (by decide) (ht _ zw_273) (fun _ h9 => h9) rfl d_Reader_makeNumerator_22 ?_
      refine lv_iload_n hx hb d_Reader_makeNumerator_25 rfl (lv_at hl 1 rfl) ?_
      refine z_calli (wc := [(h1, .inr (1, o_Code I1 a1_0 h3 a1_3)), (h3, .inl (cA3, n3, .inl f3))]) (wr := [(h0, .inr (8, o_Reader I0 a0_0 h1 h2)), (h2, .inr (9, o_Section I2))]) [1, 3] [0, 2] (va_runV (As := [.int x1]) (rest := []) ⟨hx, hb, hml, hown, ht⟩ (m_Code_kind l dC dI hv) ⟨(callB_of 1 ht (zG_in zi_Code_kind) rfl rfl rfl (ht _ zw_111) (ht _ zw_738) zh_Code_kind ⟨Nat.le_of_ble_eq_true rfl, Nat.le_of_ble_eq_true rfl⟩), (ht _ zw_739), (ht _ zw_740)⟩ ⟨zPc_blind, va_recv hK hP (ci := 1) (q0 := 1) rfl rfl, zPc_pre hP hK hD hS hA hE [1, 3] [0] rfl rfl (by decide) rfl⟩ rfl rfl hl.1 rfl (lv_room (Nat.le_of_ble_eq_true rfl)) d_Reader_makeNumerator_26 ⟨Nat.le_of_ble_eq_true rfl, Nat.le_of_ble_eq_true rfl⟩) hP hD hS hA rfl rfl (by decide) (by decide) (fun r u H locs hv hP hD hS => ?_)
      have hP : va_P (dC, dI) zCl [(h0, .inr (8, o_Reader I0 a0_0 h1 h2)), (h1, .inr (1, o_Code I1 a1_0 h3 a1_3)), (h2, .inr (9, o_Section I2)), (h3, .inl (cA3, n3, .inl f3))] H := hP.sub [0, 2, 1, 3] rfl
      have hD : va_D A [(h0, .inr (8, o_Reader I0 a0_0 h1 h2)), (h1, .inr (1, o_Code I1 a1_0 h3 a1_3)), (h2, .inr (9, o_Section I2)), (h3, .inl (cA3, n3, .inl f3))] := hD.sub [0, 2, 1, 3] (by decide) rfl
      exact b_Reader_makeNumerator_29 hc hA hE hk10 (lv_sub hl [0, 1] rfl) hK hP hD hS hv
set_option maxHeartbeats 4000000 in
set_option maxRecDepth 100000 in
theorem b_Reader_makeNumerator_0 {h0 : Nat} {a0_0 : Nat} {h1 : Nat} {a1_0 : Nat} {a1_3 : Nat} {h2 : Nat} {h3 : Nat} {cA3 : ClassId} {I0 : Nat → Int32} {I1 : Nat → Int32} {I2 : Nat → Int32} {n3 : Nat} {f3 : Nat → Int32}  {Z : (Nat → Int32) × (Nat → Int32) → Prop} {H : Heap} {locs : List Loc} {ls : Array Slot} (hc : zC p s m args meth c prog_9_method_21_code none 2 "NumberDress$Reader") (hA : ∀ q : Nat, s.heap.size ≤ q → A q) (hE : zE gE A s) (hl : lv_has ls 2 [(0, .ref h0)]) (hK : va_K (dC, dI) zCl [(cA3, .int)] s) (hP : va_P (dC, dI) zCl [(h0, .inr (8, o_Reader I0 a0_0 h1 h2)), (h1, .inr (1, o_Code I1 a1_0 h3 a1_3)), (h2, .inr (9, o_Section I2)), (h3, .inl (cA3, n3, .inl f3))] H) (hD : va_D A [(h0, .inr (8, o_Reader I0 a0_0 h1 h2)), (h1, .inr (1, o_Code I1 a1_0 h3 a1_3)), (h2, .inr (9, o_Section I2)), (h3, .inl (cA3, n3, .inl f3))]) (hS : va_S A s.heap H locs) (hv : v_Reader_makeNumerator_0 I0 I1 I2 n3 f3  Z) : W p l e (headSpec (Cond.code (⟨"NumberDress$Reader", "makeNumerator", "()V"⟩ : MethodName) prog_9_method_21_code 2 none :: zT) { frames := 1, cells := 0, slots := 0, locals := 22 }).room s m args below meth c H locs 0 0 (MQ below (va_Qv Z (zB (dC, dI) zCl [(cA3, .int)] A (fun u : (Nat → Int32) × (Nat → Int32) => [(h0, .inr (8, o_Reader I0 a0_0 h1 h2)), (h1, .inr (1, o_Code I1 a1_0 h3 a1_3)), (h2, .inr (9, o_Section u.1)), (h3, .inl (cA3, n3, .inl u.2))])) A) args s 0 0 A) (F0 m 0 ls []) := by
  obtain ⟨hx, hb, hr, hml, hown, ht, hlocks⟩ := id hc
  unfold v_Reader_makeNumerator_0 at hv
  refine lv_aload_n hx hb d_Reader_makeNumerator_0 rfl (lv_at hl 0 rfl) ?_
  refine va_get (D := (dC, dI)) (ci := 8) (v := .ref h1) (C := "NumberDress$Reader") (T := T_Reader) (N := 5) hx hb ht zin_Reader hown hK hP 0 rfl rfl 2 (by decide) (ht _ zw_273) (fun _ h9 => h9) rfl d_Reader_makeNumerator_1 ?_
  refine va_get (D := (dC, dI)) (ci := 1) (v := .int (I1 4)) (C := "NumberDress$Code") (T := T_Code) (N := 5) hx hb ht zin_Code hown hK hP 1 rfl rfl 4 (by decide) (ht _ zw_249) (fun _ h9 => h9) rfl d_Reader_makeNumerator_4 ?_
  refine lv_iconst (v := (1 : Int32)) hx hb d_Reader_makeNumerator_7 (by decide) ?_
  refine lv_isub hx hb d_Reader_makeNumerator_8 ?_
  refine lv_istore_n (lv' := [(1, .int ((I1 4) - (1 : Int32))), (0, .ref h0)]) hx hb d_Reader_makeNumerator_9 rfl hl (by decide) rfl (fun ls hl => ?_)
  obtain ⟨Nx, hv⟩ := hv
  exact b_Reader_makeNumerator_10 hc hA hE  Nx I2 f3 ((I1 4) - (1 : Int32)) _ _ _ (lv_sub hl [1, 0] rfl) hK hP hD hS hv
theorem zi_Reader_makeNumerator : Cond.code (⟨"NumberDress$Reader", "makeNumerator", "()V"⟩ : MethodName) prog_9_method_21_code 2 none ∈ zT := zw_768
theorem zh_Reader_makeNumerator : (((⟨"NumberDress$Reader", "makeNumerator", "()V"⟩ : MethodName)).cls ≠ "java/lang/invoke/MethodHandle" ∧ ((⟨"NumberDress$Reader", "makeNumerator", "()V"⟩ : MethodName)).cls ≠ "java/lang/invoke/VarHandle" ∧ (parseMethodDescriptor ((⟨"NumberDress$Reader", "makeNumerator", "()V"⟩ : MethodName)).desc).map (fun d => d.parameters.length) = some 0) := by decide +kernel
set_option maxHeartbeats 4000000 in
set_option maxRecDepth 100000 in
theorem m_Reader_makeNumerator (l : Launch) (dC : Nat → ClassId) (dI : Nat → Nat → Nat) {gE : zG} {h0 : Nat} {a0_0 : Nat} {h1 : Nat} {a1_0 : Nat} {a1_3 : Nat} {h2 : Nat} {h3 : Nat} {cA3 : ClassId} {I0 : Nat → Int32} {I1 : Nat → Int32} {I2 : Nat → Int32} {n3 : Nat} {f3 : Nat → Int32} {sz : Nat} {Z : (Nat → Int32) × (Nat → Int32) → Prop} (hv : v_Reader_makeNumerator_0 I0 I1 I2 n3 f3 Z) : Met l (⟨"NumberDress$Reader", "makeNumerator", "()V"⟩ : MethodName) (Cond.code (⟨"NumberDress$Reader", "makeNumerator", "()V"⟩ : MethodName) prog_9_method_21_code 2 none :: zT) { frames := 1, cells := 0, slots := 0, locals := 22 } (zPc gE (dC, dI) zCl [(cA3, .int)] [.ref h0] sz [(h0, .inr (8, o_Reader I0 a0_0 h1 h2)), (h1, .inr (1, o_Code I1 a1_0 h3 a1_3)), (h2, .inr (9, o_Section I2)), (h3, .inl (cA3, n3, .inl f3))]) (va_Qv Z (zB (dC, dI) zCl [(cA3, .int)] (va_A [(h0, .inr (8, o_Reader I0 a0_0 h1 h2)), (h1, .inr (1, o_Code I1 a1_0 h3 a1_3)), (h2, .inr (9, o_Section I2)), (h3, .inl (cA3, n3, .inl f3))] sz) (fun u : (Nat → Int32) × (Nat → Int32) => [(h0, .inr (8, o_Reader I0 a0_0 h1 h2)), (h1, .inr (1, o_Code I1 a1_0 h3 a1_3)), (h2, .inr (9, o_Section u.1)), (h3, .inl (cA3, n3, .inl u.2))])) (va_A [(h0, .inr (8, o_Reader I0 a0_0 h1 h2)), (h1, .inr (1, o_Code I1 a1_0 h3 a1_3)), (h2, .inr (9, o_Section I2)), (h3, .inl (cA3, n3, .inl f3))] sz)) 0 0 (va_A [(h0, .inr (8, o_Reader I0 a0_0 h1 h2)), (h1, .inr (1, o_Code I1 a1_0 h3 a1_3)), (h2, .inr (9, o_Section I2)), (h3, .inl (cA3, n3, .inl f3))] sz) := by
  refine Met.ofW (cc := prog_9_method_21_code) (maxL := 2) (ret := none) (by decide +kernel) rfl ?_
  intro p e s m args below meth c s₁ B hml hp
  obtain ⟨rfl, hsz, hP, hK, hD0, hE⟩ := hp
  have hts := atoms_spec (ws := (Cond.code (⟨"NumberDress$Reader", "makeNumerator", "()V"⟩ : MethodName) prog_9_method_21_code 2 none :: zT)) B.pre
  have hown : s.vm.findClass "NumberDress$Reader" = some m.cls := findClass_of_methodNamed B.named
  have hc : zC p s m _ meth c prog_9_method_21_code none 2 "NumberDress$Reader" := ⟨B.exec, B.bytes, B.returns, hml, hown, fun w h => hts w (List.mem_cons_of_mem _ h), B.notSynchronized⟩
  subst hsz
  have hD := hD0.self (sz := s.heap.size)
  generalize hAe : va_A [(h0, .inr (8, o_Reader I0 a0_0 h1 h2)), (h1, .inr (1, o_Code I1 a1_0 h3 a1_3)), (h2, .inr (9, o_Section I2)), (h3, .inl (cA3, n3, .inl f3))] s.heap.size = A at hD hE ⊢
  have hA : ∀ q : Nat, s.heap.size ≤ q → A q := fun q h => by rw [← hAe]; exact Or.inr h
  have hl := lv_entry ([.ref h0]) (n := 2) (Nat.le_of_ble_eq_true rfl)
  rw [lg_entry_eq]
  exact b_Reader_makeNumerator_0 hc hA hE hl hK hP hD va_S.rf hv
end
