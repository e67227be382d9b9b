section
variable {p : Program} {l : Launch} {e : Env} {s : State} {m : MethodId} {args : Array Value} {below : List Frame} {meth : Method} {c : Code} {dC : Nat → ClassId} {dI : Nat → Nat → Nat} {A : Nat → Prop} {gE : zG}
theorem d_Reader_addOne_0 : decode prog_9_method_14_code 0 = .ok (.aload_n 0, 1) := by decide +kernel
theorem d_Reader_addOne_1 : decode prog_9_method_14_code 1 = .ok (.getfield 18, 3) := by decide +kernel
theorem d_Reader_addOne_4 : decode prog_9_method_14_code 4 = .ok (.iload_n 1, 1) := by decide +kernel
theorem d_Reader_addOne_5 : decode prog_9_method_14_code 5 = .ok (.iload_n 2, 1) := by decide +kernel
theorem d_Reader_addOne_6 : decode prog_9_method_14_code 6 = .ok (.invokevirtual 139, 3) := by decide +kernel
theorem d_Reader_addOne_9 : decode prog_9_method_14_code 9 = .ok (.iconst 1, 1) := by decide +kernel
theorem d_Reader_addOne_10 : decode prog_9_method_14_code 10 = .ok (.ireturn, 1) := by decide +kernel
set_option maxHeartbeats 4000000 in
set_option maxRecDepth 100000 in
theorem b_Reader_addOne_9 {h0 : Nat} {a0_0 : Nat} {a0_3 : Nat} {h1 : Nat} {a1_0 : Nat} {h2 : Nat} {cA2 : ClassId} {h3 : Nat} {cA3 : ClassId} {I0 : Nat → Int32} {I1 : Nat → Int32} {n2 : Nat} {f2 : Nat → Int32} {n3 : Nat} {f3 : Nat → Int32}  {Z : Int32 → (Nat → Int32) × (Nat → Int32) × (Nat → Int32) → Prop} {H : Heap} {locs : List Loc} {ls : Array Slot} (hc : zC p s m args meth c prog_9_method_14_code (some .int) 3 "NumberDress$Reader") (hA : ∀ q : Nat, s.heap.size ≤ q → A q) (hE : zE gE A s) (hl : lv_has ls 3 []) (hK : va_K (dC, dI) zCl [(cA2, .int), (cA3, .int)] s) (hP : va_P (dC, dI) zCl [(h0, .inr (8, o_Reader I0 a0_0 h1 a0_3)), (h1, .inr (1, o_Code I1 a1_0 h2 h3)), (h2, .inl (cA2, n2, .inl f2)), (h3, .inl (cA3, n3, .inl f3))] H) (hD : va_D A [(h0, .inr (8, o_Reader I0 a0_0 h1 a0_3)), (h1, .inr (1, o_Code I1 a1_0 h2 h3)), (h2, .inl (cA2, n2, .inl f2)), (h3, .inl (cA3, n3, .inl f3))]) (hS : va_S A s.heap H locs) (hv : v_Reader_addOne_9 I0 I1 n2 f2 n3 f3  Z) : W p l e (headSpec (Cond.code (⟨"NumberDress$Reader", "addOne", "(II)I"⟩ : MethodName) prog_9_method_14_code 3 (some .int) :: zT) { frames := 1, cells := 0, slots := 0, locals := 22 }).room s m args below meth c H locs 0 0 (MQ below (va_Qi Z (zB (dC, dI) zCl [(cA2, .int), (cA3, .int)] A (fun u : (Nat → Int32) × (Nat → Int32) × (Nat → Int32) => [(h0, .inr (8, o_Reader I0 a0_0 h1 a0_3)), (h1, .inr (1, o_Code u.1 a1_0 h2 h3)), (h2, .inl (cA2, n2, .inl u.2.1)), (h3, .inl (cA3, n3, .inl u.2.2))])) A) args s 0 0 A) (F0 m 9 ls []) := by
  obtain ⟨hx, hb, hr, hml, hown, ht, hlocks⟩ := id hc
  unfold v_Reader_addOne_9 at hv
  refine lv_iconst (v := (1 : Int32)) hx hb d_Reader_addOne_9 (by decide) ?_
  exact W.iret (v := (1 : Int32)) hx hb hr (fun t ht hW => ⟨⟨_, (I1, f2, f3), rfl, hv, ⟨by rw [ht]; exact hP, va_K.moved hW.alike hK, hD⟩⟩, hS.F ht⟩) hS.2.2 d_Reader_addOne_10
set_option maxHeartbeats 4000000 in
set_option maxRecDepth 100000 in
theorem b_Reader_addOne_0 {h0 : Nat} {a0_0 : Nat} {a0_3 : Nat} {h1 : Nat} {a1_0 : Nat} {h2 : Nat} {cA2 : ClassId} {h3 : Nat} {cA3 : ClassId} {I0 : Nat → Int32} {I1 : Nat → Int32} {n2 : Nat} {f2 : Nat → Int32} {n3 : Nat} {f3 : Nat → Int32} {x1 : Int32} {x2 : Int32}  {Z : Int32 → (Nat → Int32) × (Nat → Int32) × (Nat → Int32) → Prop} {H : Heap} {locs : List Loc} {ls : Array Slot} (hc : zC p s m args meth c prog_9_method_14_code (some .int) 3 "NumberDress$Reader") (hA : ∀ q : Nat, s.heap.size ≤ q → A q) (hE : zE gE A s) (hl : lv_has ls 3 [(0, .ref h0), (1, .int x1), (2, .int x2)]) (hK : va_K (dC, dI) zCl [(cA2, .int), (cA3, .int)] s) (hP : va_P (dC, dI) zCl [(h0, .inr (8, o_Reader I0 a0_0 h1 a0_3)), (h1, .inr (1, o_Code I1 a1_0 h2 h3)), (h2, .inl (cA2, n2, .inl f2)), (h3, .inl (cA3, n3, .inl f3))] H) (hD : va_D A [(h0, .inr (8, o_Reader I0 a0_0 h1 a0_3)), (h1, .inr (1, o_Code I1 a1_0 h2 h3)), (h2, .inl (cA2, n2, .inl f2)), (h3, .inl (cA3, n3, .inl f3))]) (hS : va_S A s.heap H locs) (hv : v_Reader_addOne_0 I0 I1 n2 f2 n3 f3 x1 x2  Z) : W p l e (headSpec (Cond.code (⟨"NumberDress$Reader", "addOne", "(II)I"⟩ : MethodName) prog_9_method_14_code 3 (some .int) :: zT) { frames := 1, cells := 0, slots := 0, locals := 22 }).room s m args below meth c H locs 0 0 (MQ below (va_Qi Z (zB (dC, dI) zCl [(cA2, .int), (cA3, .int)] A (fun u : (Nat → Int32) × (Nat → Int32) × (Nat → Int32) => [(h0, .inr (8, o_Reader I0 a0_0 h1 a0_3)), (h1, .inr (1, o_Code u.1 a1_0 h2 h3)), (h2, .inl (cA2, n2, .inl u.2.1)), (h3, .inl (cA3, n3, .inl u.2.2))])) A) args s 0 0 A) (F0 m 0 ls []) := by
  obtain ⟨hx, hb, hr, hml, hown, ht, hlocks⟩ := id hc
  unfold v_Reader_addOne_0 at hv
  refine lv_aload_n hx hb d_Reader_addOne_0 rfl (lv_at hl 0 rfl) ?_
  refine va_get (D := (dC, dI)) (ci := 8) (v := .ref h1) (C := "NumberDress$Reader") (T := T_Reader) (N := 5) hx hb ht zin_Reader hown hK hP 0 rfl rfl 2 (by decide) (ht _ zw_273) (fun _ h9 => h9) rfl d_Reader_addOne_1 ?_
  refine lv_iload_n hx hb d_Reader_addOne_4 rfl (lv_at hl 1 rfl) ?_
  refine lv_iload_n hx hb d_Reader_addOne_5 rfl (lv_at hl 2 rfl) ?_
  refine z_callv (wc := [(h1, .inr (1, o_Code I1 a1_0 h2 h3)), (h2, .inl (cA2, n2, .inl f2)), (h3, .inl (cA3, n3, .inl f3))]) (wr := [(h0, .inr (8, o_Reader I0 a0_0 h1 a0_3))]) [1, 2, 3] [0] (va_runV (As := [.int x1, .int x2]) (rest := []) ⟨hx, hb, hml, hown, ht⟩ (m_Code_add l dC dI hv) ⟨(callB_of 2 ht (zG_in zi_Code_add) rfl rfl rfl (ht _ zw_111) (ht _ zw_710) zh_Code_add ⟨Nat.le_of_ble_eq_true rfl, Nat.le_of_ble_eq_true rfl⟩), (ht _ zw_711), (ht _ zw_712)⟩ ⟨zPc_blind, va_recv hK hP (ci := 1) (q0 := 1) rfl rfl, zPc_pre hP hK hD hS hA hE [1, 2, 3] [0, 1] rfl rfl (by decide) rfl⟩ rfl rfl hl.1 rfl (lv_room (Nat.le_of_ble_eq_true rfl)) d_Reader_addOne_6 ⟨Nat.le_of_ble_eq_true rfl, Nat.le_of_ble_eq_true rfl⟩) hP hD hS hA rfl rfl (by decide) (by decide) (fun u H locs hv hP hD hS => ?_)
  have hP : va_P (dC, dI) zCl [(h0, .inr (8, o_Reader I0 a0_0 h1 a0_3)), (h1, .inr (1, o_Code u.1 a1_0 h2 h3)), (h2, .inl (cA2, n2, .inl u.2.1)), (h3, .inl (cA3, n3, .inl u.2.2))] H := hP.sub [0, 1, 2, 3] rfl
  have hD : va_D A [(h0, .inr (8, o_Reader I0 a0_0 h1 a0_3)), (h1, .inr (1, o_Code u.1 a1_0 h2 h3)), (h2, .inl (cA2, n2, .inl u.2.1)), (h3, .inl (cA3, n3, .inl u.2.2))] := hD.sub [0, 1, 2, 3] (by decide) rfl
  exact b_Reader_addOne_9 hc hA hE  (lv_sub hl [] rfl) hK hP hD hS hv
theorem zi_Reader_addOne : Cond.code (⟨"NumberDress$Reader", "addOne", "(II)I"⟩ : MethodName) prog_9_method_14_code 3 (some .int) ∈ zT := zw_725
theorem zh_Reader_addOne : (((⟨"NumberDress$Reader", "addOne", "(II)I"⟩ : MethodName)).cls ≠ "java/lang/invoke/MethodHandle" ∧ ((⟨"NumberDress$Reader", "addOne", "(II)I"⟩ : MethodName)).cls ≠ "java/lang/invoke/VarHandle" ∧ (parseMethodDescriptor ((⟨"NumberDress$Reader", "addOne", "(II)I"⟩ : MethodName)).desc).map (fun d => d.parameters.length) = some 2) := by decide +kernel
set_option maxHeartbeats 4000000 in
set_option maxRecDepth 100000 in
theorem m_Reader_addOne (l : Launch) (dC : Nat → ClassId) (dI : Nat → Nat → Nat) {gE : zG} {h0 : Nat} {a0_0 : Nat} {a0_3 : Nat} {h1 : Nat} {a1_0 : Nat} {h2 : Nat} {cA2 : ClassId} {h3 : Nat} {cA3 : ClassId} {I0 : Nat → Int32} {I1 : Nat → Int32} {n2 : Nat} {f2 : Nat → Int32} {n3 : Nat} {f3 : Nat → Int32} {x1 : Int32} {x2 : Int32} {sz : Nat} {Z : Int32 → (Nat → Int32) × (Nat → Int32) × (Nat → Int32) → Prop} (hv : v_Reader_addOne_0 I0 I1 n2 f2 n3 f3 x1 x2 Z) : Met l (⟨"NumberDress$Reader", "addOne", "(II)I"⟩ : MethodName) (Cond.code (⟨"NumberDress$Reader", "addOne", "(II)I"⟩ : MethodName) prog_9_method_14_code 3 (some .int) :: zT) { frames := 1, cells := 0, slots := 0, locals := 22 } (zPc gE (dC, dI) zCl [(cA2, .int), (cA3, .int)] [.ref h0, .int x1, .int x2] sz [(h0, .inr (8, o_Reader I0 a0_0 h1 a0_3)), (h1, .inr (1, o_Code I1 a1_0 h2 h3)), (h2, .inl (cA2, n2, .inl f2)), (h3, .inl (cA3, n3, .inl f3))]) (va_Qi Z (zB (dC, dI) zCl [(cA2, .int), (cA3, .int)] (va_A [(h0, .inr (8, o_Reader I0 a0_0 h1 a0_3)), (h1, .inr (1, o_Code I1 a1_0 h2 h3)), (h2, .inl (cA2, n2, .inl f2)), (h3, .inl (cA3, n3, .inl f3))] sz) (fun u : (Nat → Int32) × (Nat → Int32) × (Nat → Int32) => [(h0, .inr (8, o_Reader I0 a0_0 h1 a0_3)), (h1, .inr (1, o_Code u.1 a1_0 h2 h3)), (h2, .inl (cA2, n2, .inl u.2.1)), (h3, .inl (cA3, n3, .inl u.2.2))])) (va_A [(h0, .inr (8, o_Reader I0 a0_0 h1 a0_3)), (h1, .inr (1, o_Code I1 a1_0 h2 h3)), (h2, .inl (cA2, n2, .inl f2)), (h3, .inl (cA3, n3, .inl f3))] sz)) 0 0 (va_A [(h0, .inr (8, o_Reader I0 a0_0 h1 a0_3)), (h1, .inr (1, o_Code I1 a1_0 h2 h3)), (h2, .inl (cA2, n2, .inl f2)), (h3, .inl (cA3, n3, .inl f3))] sz) := by
  refine Met.ofW (cc := prog_9_method_14_code) (maxL := 3) (ret := (some .int)) (by decide +kernel) rfl ?_
  intro p e s m args below meth c s₁ B hml hp
  obtain ⟨rfl, hsz, hP, hK, hD0, hE⟩ := hp
  have hts := atoms_spec (ws := (Cond.code (⟨"NumberDress$Reader", "addOne", "(II)I"⟩ : MethodName) prog_9_method_14_code 3 (some .int) :: zT)) B.pre
  have hown : s.vm.findClass "NumberDress$Reader" = some m.cls := findClass_of_methodNamed B.named
  have hc : zC p s m _ meth c prog_9_method_14_code (some .int) 3 "NumberDress$Reader" := ⟨B.exec, B.bytes, B.returns, hml, hown, fun w h => hts w (List.mem_cons_of_mem _ h), B.notSynchronized⟩
  subst hsz
  have hD := hD0.self (sz := s.heap.size)
  generalize hAe : va_A [(h0, .inr (8, o_Reader I0 a0_0 h1 a0_3)), (h1, .inr (1, o_Code I1 a1_0 h2 h3)), (h2, .inl (cA2, n2, .inl f2)), (h3, .inl (cA3, n3, .inl f3))] s.heap.size = A at hD hE ⊢
  have hA : ∀ q : Nat, s.heap.size ≤ q → A q := fun q h => by rw [← hAe]; exact Or.inr h
  have hl := lv_entry ([.ref h0, .int x1, .int x2]) (n := 3) (Nat.le_of_ble_eq_true rfl)
  rw [lg_entry_eq]
  exact b_Reader_addOne_0 hc hA hE hl hK hP hD va_S.rf hv
theorem d_Reader_readHalfDay_0 : decode prog_9_method_28_code 0 = .ok (.iload_n 1, 1) := by decide +kernel
theorem d_Reader_readHalfDay_1 : decode prog_9_method_28_code 1 = .ok (.ifCond .le 30, 3) := by decide +kernel
theorem d_Reader_readHalfDay_4 : decode prog_9_method_28_code 4 = .ok (.aload_n 0, 1) := by decide +kernel
theorem d_Reader_readHalfDay_5 : decode prog_9_method_28_code 5 = .ok (.getfield 25, 3) := by decide +kernel
theorem d_Reader_readHalfDay_8 : decode prog_9_method_28_code 8 = .ok (.iconst 1, 1) := by decide +kernel
theorem d_Reader_readHalfDay_9 : decode prog_9_method_28_code 9 = .ok (.putfield 243, 3) := by decide +kernel
theorem d_Reader_readHalfDay_12 : decode prog_9_method_28_code 12 = .ok (.aload_n 0, 1) := by decide +kernel
theorem d_Reader_readHalfDay_13 : decode prog_9_method_28_code 13 = .ok (.getfield 18, 3) := by decide +kernel
theorem d_Reader_readHalfDay_16 : decode prog_9_method_28_code 16 = .ok (.bipush 30, 2) := by decide +kernel
theorem d_Reader_readHalfDay_18 : decode prog_9_method_28_code 18 = .ok (.iload_n 1, 1) := by decide +kernel
theorem d_Reader_readHalfDay_19 : decode prog_9_method_28_code 19 = .ok (.iconst 5, 1) := by decide +kernel
theorem d_Reader_readHalfDay_20 : decode prog_9_method_28_code 20 = .ok (.if_icmp .ne 7, 3) := by decide +kernel
theorem d_Reader_readHalfDay_23 : decode prog_9_method_28_code 23 = .ok (.iconst 2, 1) := by decide +kernel
theorem d_Reader_readHalfDay_24 : decode prog_9_method_28_code 24 = .ok (.goto 4, 3) := by decide +kernel
theorem d_Reader_readHalfDay_27 : decode prog_9_method_28_code 27 = .ok (.iconst 1, 1) := by decide +kernel
theorem d_Reader_readHalfDay_28 : decode prog_9_method_28_code 28 = .ok (.invokevirtual 139, 3) := by decide +kernel
theorem d_Reader_readHalfDay_31 : decode prog_9_method_28_code 31 = .ok (.iload_n 1, 1) := by decide +kernel
theorem d_Reader_readHalfDay_32 : decode prog_9_method_28_code 32 = .ok (.ireturn, 1) := by decide +kernel
set_option maxHeartbeats 4000000 in
set_option maxRecDepth 100000 in
theorem b_Reader_readHalfDay_31 {h0 : Nat} {a0_0 : Nat} {h1 : Nat} {h2 : Nat} {a2_0 : Nat} {h3 : Nat} {cA3 : ClassId} {h4 : Nat} {cA4 : ClassId} {I0 : Nat → Int32} {I1 : Nat → Int32} {I2 : Nat → Int32} {n3 : Nat} {f3 : Nat → Int32} {n4 : Nat} {f4 : Nat → Int32} {x1 : Int32}  {Z : Int32 → (Nat → Int32) × (Nat → Int32) × (Nat → Int32) × (Nat → Int32) → Prop} {H : Heap} {locs : List Loc} {ls : Array Slot} (hc : zC p s m args meth c prog_9_method_28_code (some .int) 2 "NumberDress$Reader") (hA : ∀ q : Nat, s.heap.size ≤ q → A q) (hE : zE gE A s) (hl : lv_has ls 2 [(1, .int x1)]) (hK : va_K (dC, dI) zCl [(cA3, .int), (cA4, .int)] s) (hP : va_P (dC, dI) zCl [(h0, .inr (8, o_Reader I0 a0_0 h2 h1)), (h1, .inr (9, o_Section I1)), (h2, .inr (1, o_Code I2 a2_0 h3 h4)), (h3, .inl (cA3, n3, .inl f3)), (h4, .inl (cA4, n4, .inl f4))] H) (hD : va_D A [(h0, .inr (8, o_Reader I0 a0_0 h2 h1)), (h1, .inr (9, o_Section I1)), (h2, .inr (1, o_Code I2 a2_0 h3 h4)), (h3, .inl (cA3, n3, .inl f3)), (h4, .inl (cA4, n4, .inl f4))]) (hS : va_S A s.heap H locs) (hv : v_Reader_readHalfDay_31 I0 I1 I2 n3 f3 n4 f4 x1  Z) : W p l e (headSpec (Cond.code (⟨"NumberDress$Reader", "readHalfDay", "(I)I"⟩ : MethodName) prog_9_method_28_code 2 (some .int) :: zT) { frames := 1, cells := 0, slots := 0, locals := 22 }).room s m args below meth c H locs 0 0 (MQ below (va_Qi Z (zB (dC, dI) zCl [(cA3, .int), (cA4, .int)] A (fun u : (Nat → Int32) × (Nat → Int32) × (Nat → Int32) × (Nat → Int32) => [(h0, .inr (8, o_Reader I0 a0_0 h2 h1)), (h1, .inr (9, o_Section u.1)), (h2, .inr (1, o_Code u.2.1 a2_0 h3 h4)), (h3, .inl (cA3, n3, .inl u.2.2.1)), (h4, .inl (cA4, n4, .inl u.2.2.2))])) A) args s 0 0 A) (F0 m 31 ls []) := by
  obtain ⟨hx, hb, hr, hml, hown, ht, hlocks⟩ := id hc
  unfold v_Reader_readHalfDay_31 at hv
  refine lv_iload_n hx hb d_Reader_readHalfDay_31 rfl (lv_at hl 0 rfl) ?_
  exact W.iret (v := x1) hx hb hr (fun t ht hW => ⟨⟨_, (I1, I2, f3, f4), rfl, hv, ⟨by rw [ht]; exact hP, va_K.moved hW.alike hK, hD⟩⟩, hS.F ht⟩) hS.2.2 d_Reader_readHalfDay_32
set_option maxHeartbeats 4000000 in
set_option maxRecDepth 100000 in
theorem b_Reader_readHalfDay_28 {h0 : Nat} {a0_0 : Nat} {h1 : Nat} {h2 : Nat} {a2_0 : Nat} {h3 : Nat} {cA3 : ClassId} {h4 : Nat} {cA4 : ClassId} {I0 : Nat → Int32} {I1 : Nat → Int32} {I2 : Nat → Int32} {n3 : Nat} {f3 : Nat → Int32} {n4 : Nat} {f4 : Nat → Int32} {x1 : Int32} {s1 : Int32} {s2 : Int32}  {Z : Int32 → (Nat → Int32) × (Nat → Int32) × (Nat → Int32) × (Nat → Int32) → Prop} {H : Heap} {locs : List Loc} {ls : Array Slot} (hc : zC p s m args meth c prog_9_method_28_code (some .int) 2 "NumberDress$Reader") (hA : ∀ q : Nat, s.heap.size ≤ q → A q) (hE : zE gE A s) (hl : lv_has ls 2 [(1, .int x1)]) (hK : va_K (dC, dI) zCl [(cA3, .int), (cA4, .int)] s) (hP : va_P (dC, dI) zCl [(h0, .inr (8, o_Reader I0 a0_0 h2 h1)), (h1, .inr (9, o_Section I1)), (h2, .inr (1, o_Code I2 a2_0 h3 h4)), (h3, .inl (cA3, n3, .inl f3)), (h4, .inl (cA4, n4, .inl f4))] H) (hD : va_D A [(h0, .inr (8, o_Reader I0 a0_0 h2 h1)), (h1, .inr (9, o_Section I1)), (h2, .inr (1, o_Code I2 a2_0 h3 h4)), (h3, .inl (cA3, n3, .inl f3)), (h4, .inl (cA4, n4, .inl f4))]) (hS : va_S A s.heap H locs) (hv : v_Reader_readHalfDay_28 I0 I1 I2 n3 f3 n4 f4 x1 s1 s2  Z) : W p l e (headSpec (Cond.code (⟨"NumberDress$Reader", "readHalfDay", "(I)I"⟩ : MethodName) prog_9_method_28_code 2 (some .int) :: zT) { frames := 1, cells := 0, slots := 0, locals := 22 }).room s m args below meth c H locs 0 0 (MQ below (va_Qi Z (zB (dC, dI) zCl [(cA3, .int), (cA4, .int)] A (fun u : (Nat → Int32) × (Nat → Int32) × (Nat → Int32) × (Nat → Int32) => [(h0, .inr (8, o_Reader I0 a0_0 h2 h1)), (h1, .inr (9, o_Section u.1)), (h2, .inr (1, o_Code u.2.1 a2_0 h3 h4)), (h3, .inl (cA3, n3, .inl u.2.2.1)), (h4, .inl (cA4, n4, .inl u.2.2.2))])) A) args s 0 0 A) (F0 m 28 ls [.int s2, .int s1, .ref h2]) := by
  obtain ⟨hx, hb, hr, hml, hown, ht, hlocks⟩ := id hc
  unfold v_Reader_readHalfDay_28 at hv
  refine z_callv (wc := [(h2, .inr (1, o_Code I2 a2_0 h3 h4)), (h3, .inl (cA3, n3, .inl f3)), (h4, .inl (cA4, n4, .inl f4))]) (wr := [(h0, .inr (8, o_Reader I0 a0_0 h2 h1)), (h1, .inr (9, o_Section I1))]) [2, 3, 4] [0, 1] (va_runV (As := [.int s1, .int s2]) (rest := []) ⟨hx, hb, hml, hown, ht⟩ (m_Code_add l dC dI hv) ⟨(callB_of 2 ht (zG_in zi_Code_add) rfl rfl rfl (ht _ zw_111) (ht _ zw_710) zh_Code_add ⟨Nat.le_of_ble_eq_true rfl, Nat.le_of_ble_eq_true rfl⟩), (ht _ zw_711), (ht _ zw_712)⟩ ⟨zPc_blind, va_recv hK hP (ci := 1) (q0 := 2) rfl rfl, zPc_pre hP hK hD hS hA hE [2, 3, 4] [0, 1] rfl rfl (by decide) rfl⟩ rfl rfl hl.1 rfl (lv_room (Nat.le_of_ble_eq_true rfl)) d_Reader_readHalfDay_28 ⟨Nat.le_of_ble_eq_true rfl, Nat.le_of_ble_eq_true rfl⟩) hP hD hS hA rfl rfl (by decide) (by decide) (fun u H locs hv hP hD hS => ?_)
  have hP : va_P (dC, dI) zCl [(h0, .inr (8, o_Reader I0 a0_0 h2 h1)), (h1, .inr (9, o_Section I1)), (h2, .inr (1, o_Code u.1 a2_0 h3 h4)), (h3, .inl (cA3, n3, .inl u.2.1)), (h4, .inl (cA4, n4, .inl u.2.2))] H := hP.sub [0, 1, 2, 3, 4] rfl
  have hD : va_D A [(h0, .inr (8, o_Reader I0 a0_0 h2 h1)), (h1, .inr (9, o_Section I1)), (h2, .inr (1, o_Code u.1 a2_0 h3 h4)), (h3, .inl (cA3, n3, .inl u.2.1)), (h4, .inl (cA4, n4, .inl u.2.2))] := hD.sub [0, 1, 2, 3, 4] (by decide) rfl
  exact b_Reader_readHalfDay_31 hc hA hE  (lv_sub hl [0] rfl) hK hP hD hS hv
set_option maxHeartbeats 4000000 in
set_option maxRecDepth 100000 in
theorem b_Reader_readHalfDay_0 {h0 : Nat} {a0_0 : Nat} {h1 : Nat} {h2 : Nat} {a2_0 : Nat} {h3 : Nat} {cA3 : ClassId} {h4 : Nat} {cA4 : ClassId} {I0 : Nat → Int32} {I1 : Nat → Int32} {I2 : Nat → Int32} {n3 : Nat} {f3 : Nat → Int32} {n4 : Nat} {f4 : Nat → Int32} {x1 : Int32}  {Z : Int32 → (Nat → Int32) × (Nat → Int32) × (Nat → Int32) × (Nat → Int32) → Prop} {H : Heap} {locs : List Loc} {ls : Array Slot} (hc : zC p s m args meth c prog_9_method_28_code (some .int) 2 "NumberDress$Reader") (hA : ∀ q : Nat, s.heap.size ≤ q → A q) (hE : zE gE A s) (hl : lv_has ls 2 [(0, .ref h0), (1, .int x1)]) (hK : va_K (dC, dI) zCl [(cA3, .int), (cA4, .int)] s) (hP : va_P (dC, dI) zCl [(h0, .inr (8, o_Reader I0 a0_0 h2 h1)), (h1, .inr (9, o_Section I1)), (h2, .inr (1, o_Code I2 a2_0 h3 h4)), (h3, .inl (cA3, n3, .inl f3)), (h4, .inl (cA4, n4, .inl f4))] H) (hD : va_D A [(h0, .inr (8, o_Reader I0 a0_0 h2 h1)), (h1, .inr (9, o_Section I1)), (h2, .inr (1, o_Code I2 a2_0 h3 h4)), (h3, .inl (cA3, n3, .inl f3)), (h4, .inl (cA4, n4, .inl f4))]) (hS : va_S A s.heap H locs) (hv : v_Reader_readHalfDay_0 I0 I1 I2 n3 f3 n4 f4 x1  Z) : W p l e (headSpec (Cond.code (⟨"NumberDress$Reader", "readHalfDay", "(I)I"⟩ : MethodName) prog_9_method_28_code 2 (some .int) :: zT) { frames := 1, cells := 0, slots := 0, locals := 22 }).room s m args below meth c H locs 0 0 (MQ below (va_Qi Z (zB (dC, dI) zCl [(cA3, .int), (cA4, .int)] A (fun u : (Nat → Int32) × (Nat → Int32) × (Nat → Int32) × (Nat → Int32) => [(h0, .inr (8, o_Reader I0 a0_0 h2 h1)), (h1, .inr (9, o_Section u.1)), (h2, .inr (1, o_Code u.2.1 a2_0 h3 h4)), (h3, .inl (cA3, n3, .inl u.2.2.1)), (h4, .inl (cA4, n4, .inl u.2.2.2))])) A) args s 0 0 A) (F0 m 0 ls []) := by
  obtain ⟨hx, hb, hr, hml, hown, ht, hlocks⟩ := id hc
  unfold v_Reader_readHalfDay_0 at hv
  refine lv_iload_n hx hb d_Reader_readHalfDay_0 rfl (lv_at hl 1 rfl) ?_
  refine lv_if_le (tgt := 31) hx hb d_Reader_readHalfDay_1 (by decide) (fun c_1 => ?_) (fun c_1 => ?_)
  · have hv := hv.1 c_1
    exact b_Reader_readHalfDay_31 hc hA hE  (lv_sub hl [1] rfl) hK hP hD hS hv
  · have hv := hv.2 c_1
    refine lv_aload_n hx hb d_Reader_readHalfDay_4 rfl (lv_at hl 0 rfl) ?_
    refine va_get (D := (dC, dI)) (ci := 8) (v := .ref h1) (C := "NumberDress$Reader") (T := T_Reader) (N := 5) hx hb ht zin_Reader hown hK hP 0 rfl rfl 3 (by decide) (ht _ zw_274) (fun _ h9 => h9) rfl d_Reader_readHalfDay_5 ?_
    refine lv_iconst (v := (1 : Int32)) hx hb d_Reader_readHalfDay_8 (by decide) ?_
    refine va_put (D := (dC, dI)) (ci := 9) (v := .int (1 : Int32)) (ty := .boolean) (C := "NumberDress$Section") (T := T_Section) (N := 15) hx hb ht zin_Section ty_Section tyok_Section nm_Section hown hK hP hD hS 1 rfl rfl 14 (by decide) (ht _ zw_209) (fun _ h9 => h9) rfl (by decide +kernel) (by decide) (by decide) (Nat.le_of_ble_eq_true rfl) d_Reader_readHalfDay_9 (fun H locs hP hD hS => ?_)
    have hP : va_P (dC, dI) zCl [(h0, .inr (8, o_Reader I0 a0_0 h2 h1)), (h1, .inr (9, o_Section (zu I1 14 (1 : Int32)))), (h2, .inr (1, o_Code I2 a2_0 h3 h4)), (h3, .inl (cA3, n3, .inl f3)), (h4, .inl (cA4, n4, .inl f4))] H := hP
    have hD : va_D A [(h0, .inr (8, o_Reader I0 a0_0 h2 h1)), (h1, .inr (9, o_Section (zu I1 14 (1 : Int32)))), (h2, .inr (1, o_Code I2 a2_0 h3 h4)), (h3, .inl (cA3, n3, .inl f3)), (h4, .inl (cA4, n4, .inl f4))] := hD
    refine lv_aload_n hx hb d_Reader_readHalfDay_12 rfl (lv_at hl 0 rfl) ?_
    refine va_get (D := (dC, dI)) (ci := 8) (v := .ref h2) (C := "NumberDress$Reader") (T := T_Reader) (N := 5) hx hb ht zin_Reader hown hK hP 0 rfl rfl 2 (by decide) (ht _ zw_273) (fun _ h9 => h9) rfl d_Reader_readHalfDay_13 ?_
    refine lv_bipush (v := (30 : Int32)) hx hb d_Reader_readHalfDay_16 (by decide) ?_
    refine lv_iload_n hx hb d_Reader_readHalfDay_18 rfl (lv_at hl 1 rfl) ?_
    refine lv_iconst (v := (5 : Int32)) hx hb d_Reader_readHalfDay_19 (by decide) ?_
    refine lv_icmp_ne (tgt := 27) hx hb d_Reader_readHalfDay_20 (by decide) (fun c_2 => ?_) (fun c_2 => ?_)
    · have hv := hv.1 c_2
      refine lv_iconst (v := (1 : Int32)) hx hb d_Reader_readHalfDay_27 (by decide) ?_
      exact b_Reader_readHalfDay_28 hc hA hE  (lv_sub hl [1] rfl) hK hP hD hS hv
    · have hv := hv.2 c_2
      refine lv_iconst (v := (2 : Int32)) hx hb d_Reader_readHalfDay_23 (by decide) ?_
      refine lv_goto (tgt := 28) hx hb d_Reader_readHalfDay_24 (by decide) ?_
      exact b_Reader_readHalfDay_28 hc hA hE  (lv_sub hl [1] rfl) hK hP hD hS hv
theorem zi_Reader_readHalfDay : Cond.code (⟨"NumberDress$Reader", "readHalfDay", "(I)I"⟩ : MethodName) prog_9_method_28_code 2 (some .int) ∈ zT := zw_792
theorem zh_Reader_readHalfDay : (((⟨"NumberDress$Reader", "readHalfDay", "(I)I"⟩ : MethodName)).cls ≠ "java/lang/invoke/MethodHandle" ∧ ((⟨"NumberDress$Reader", "readHalfDay", "(I)I"⟩ : MethodName)).cls ≠ "java/lang/invoke/VarHandle" ∧ (parseMethodDescriptor ((⟨"NumberDress$Reader", "readHalfDay", "(I)I"⟩ : MethodName)).desc).map (fun d => d.parameters.length) = some 1) := by decide +kernel
set_option maxHeartbeats 4000000 in
set_option maxRecDepth 100000 in
theorem m_Reader_readHalfDay (l : Launch) (dC : Nat → ClassId) (dI : Nat → Nat → Nat) {gE : zG} {h0 : Nat} {a0_0 : Nat} {h1 : Nat} {h2 : Nat} {a2_0 : Nat} {h3 : Nat} {cA3 : ClassId} {h4 : Nat} {cA4 : ClassId} {I0 : Nat → Int32} {I1 : Nat → Int32} {I2 : Nat → Int32} {n3 : Nat} {f3 : Nat → Int32} {n4 : Nat} {f4 : Nat → Int32} {x1 : Int32} {sz : Nat} {Z : Int32 → (Nat → Int32) × (Nat → Int32) × (Nat → Int32) × (Nat → Int32) → Prop} (hv : v_Reader_readHalfDay_0 I0 I1 I2 n3 f3 n4 f4 x1 Z) : Met l (⟨"NumberDress$Reader", "readHalfDay", "(I)I"⟩ : MethodName) (Cond.code (⟨"NumberDress$Reader", "readHalfDay", "(I)I"⟩ : MethodName) prog_9_method_28_code 2 (some .int) :: zT) { frames := 1, cells := 0, slots := 0, locals := 22 } (zPc gE (dC, dI) zCl [(cA3, .int), (cA4, .int)] [.ref h0, .int x1] sz [(h0, .inr (8, o_Reader I0 a0_0 h2 h1)), (h1, .inr (9, o_Section I1)), (h2, .inr (1, o_Code I2 a2_0 h3 h4)), (h3, .inl (cA3, n3, .inl f3)), (h4, .inl (cA4, n4, .inl f4))]) (va_Qi Z (zB (dC, dI) zCl [(cA3, .int), (cA4, .int)] (va_A [(h0, .inr (8, o_Reader I0 a0_0 h2 h1)), (h1, .inr (9, o_Section I1)), (h2, .inr (1, o_Code I2 a2_0 h3 h4)), (h3, .inl (cA3, n3, .inl f3)), (h4, .inl (cA4, n4, .inl f4))] sz) (fun u : (Nat → Int32) × (Nat → Int32) × (Nat → Int32) × (Nat → Int32) => [(h0, .inr (8, o_Reader I0 a0_0 h2 h1)), (h1, .inr (9, o_Section u.1)), (h2, .inr (1, o_Code u.2.1 a2_0 h3 h4)), (h3, .inl (cA3, n3, .inl u.2.2.1)), (h4, .inl (cA4, n4, .inl u.2.2.2))])) (va_A [(h0, .inr (8, o_Reader I0 a0_0 h2 h1)), (h1, .inr (9, o_Section I1)), (h2, .inr (1, o_Code I2 a2_0 h3 h4)), (h3, .inl (cA3, n3, .inl f3)), (h4, .inl (cA4, n4, .inl f4))] sz)) 0 0 (va_A [(h0, .inr (8, o_Reader I0 a0_0 h2 h1)), (h1, .inr (9, o_Section I1)), (h2, .inr (1, o_Code I2 a2_0 h3 h4)), (h3, .inl (cA3, n3, .inl f3)), (h4, .inl (cA4, n4, .inl f4))] sz) := by
  refine Met.ofW (cc := prog_9_method_28_code) (maxL := 2) (ret := (some .int)) (by decide +kernel) rfl ?_
  intro p e s m args below meth c s₁ B hml hp
  obtain ⟨rfl, hsz, hP, hK, hD0, hE⟩ := hp
  have hts := atoms_spec (ws := (Cond.code (⟨"NumberDress$Reader", "readHalfDay", "(I)I"⟩ : MethodName) prog_9_method_28_code 2 (some .int) :: zT)) B.pre
  have hown : s.vm.findClass "NumberDress$Reader" = some m.cls := findClass_of_methodNamed B.named
  have hc : zC p s m _ meth c prog_9_method_28_code (some .int) 2 "NumberDress$Reader" := ⟨B.exec, B.bytes, B.returns, hml, hown, fun w h => hts w (List.mem_cons_of_mem _ h), B.notSynchronized⟩
  subst hsz
  have hD := hD0.self (sz := s.heap.size)
  generalize hAe : va_A [(h0, .inr (8, o_Reader I0 a0_0 h2 h1)), (h1, .inr (9, o_Section I1)), (h2, .inr (1, o_Code I2 a2_0 h3 h4)), (h3, .inl (cA3, n3, .inl f3)), (h4, .inl (cA4, n4, .inl f4))] s.heap.size = A at hD hE ⊢
  have hA : ∀ q : Nat, s.heap.size ≤ q → A q := fun q h => by rw [← hAe]; exact Or.inr h
  have hl := lv_entry ([.ref h0, .int x1]) (n := 2) (Nat.le_of_ble_eq_true rfl)
  rw [lg_entry_eq]
  exact b_Reader_readHalfDay_0 hc hA hE hl hK hP hD va_S.rf hv
theorem d_Reader_readInAll_0 : decode prog_9_method_27_code 0 = .ok (.iload_n 2, 1) := by decide +kernel
theorem d_Reader_readInAll_1 : decode prog_9_method_27_code 1 = .ok (.iconst 1, 1) := by decide +kernel
theorem d_Reader_readInAll_2 : decode prog_9_method_27_code 2 = .ok (.if_icmp .lt 8, 3) := by decide +kernel
theorem d_Reader_readInAll_5 : decode prog_9_method_27_code 5 = .ok (.iload_n 2, 1) := by decide +kernel
theorem d_Reader_readInAll_6 : decode prog_9_method_27_code 6 = .ok (.iconst 2, 1) := by decide +kernel
theorem d_Reader_readInAll_7 : decode prog_9_method_27_code 7 = .ok (.if_icmp .le 5, 3) := by decide +kernel
theorem d_Reader_readInAll_10 : decode prog_9_method_27_code 10 = .ok (.iconst 0, 1) := by decide +kernel
theorem d_Reader_readInAll_11 : decode prog_9_method_27_code 11 = .ok (.ireturn, 1) := by decide +kernel
theorem d_Reader_readInAll_12 : decode prog_9_method_27_code 12 = .ok (.aload_n 0, 1) := by decide +kernel
theorem d_Reader_readInAll_13 : decode prog_9_method_27_code 13 = .ok (.iload_n 1, 1) := by decide +kernel
theorem d_Reader_readInAll_14 : decode prog_9_method_27_code 14 = .ok (.iconst 1, 1) := by decide +kernel
theorem d_Reader_readInAll_15 : decode prog_9_method_27_code 15 = .ok (.iadd, 1) := by decide +kernel
theorem d_Reader_readInAll_16 : decode prog_9_method_27_code 16 = .ok (.invokevirtual 99, 3) := by decide +kernel
theorem d_Reader_readInAll_19 : decode prog_9_method_27_code 19 = .ok (.istore_n 3, 1) := by decide +kernel
theorem d_Reader_readInAll_20 : decode prog_9_method_27_code 20 = .ok (.aload_n 0, 1) := by decide +kernel
theorem d_Reader_readInAll_21 : decode prog_9_method_27_code 21 = .ok (.getfield 18, 3) := by decide +kernel
theorem d_Reader_readInAll_24 : decode prog_9_method_27_code 24 = .ok (.iload_n 3, 1) := by decide +kernel
theorem d_Reader_readInAll_25 : decode prog_9_method_27_code 25 = .ok (.bipush 104, 2) := by decide +kernel
theorem d_Reader_readInAll_27 : decode prog_9_method_27_code 27 = .ok (.if_icmp .ne 8, 3) := by decide +kernel
theorem d_Reader_readInAll_30 : decode prog_9_method_27_code 30 = .ok (.bipush 26, 2) := by decide +kernel
theorem d_Reader_readInAll_32 : decode prog_9_method_27_code 32 = .ok (.goto 16, 3) := by decide +kernel
theorem d_Reader_readInAll_35 : decode prog_9_method_27_code 35 = .ok (.iload_n 3, 1) := by decide +kernel
theorem d_Reader_readInAll_36 : decode prog_9_method_27_code 36 = .ok (.bipush 109, 2) := by decide +kernel
theorem d_Reader_readInAll_38 : decode prog_9_method_27_code 38 = .ok (.if_icmp .ne 8, 3) := by decide +kernel
theorem d_Reader_readInAll_41 : decode prog_9_method_27_code 41 = .ok (.bipush 27, 2) := by decide +kernel
theorem d_Reader_readInAll_43 : decode prog_9_method_27_code 43 = .ok (.goto 5, 3) := by decide +kernel
theorem d_Reader_readInAll_46 : decode prog_9_method_27_code 46 = .ok (.bipush 28, 2) := by decide +kernel
theorem d_Reader_readInAll_48 : decode prog_9_method_27_code 48 = .ok (.iload_n 2, 1) := by decide +kernel
theorem d_Reader_readInAll_49 : decode prog_9_method_27_code 49 = .ok (.invokevirtual 139, 3) := by decide +kernel
theorem d_Reader_readInAll_52 : decode prog_9_method_27_code 52 = .ok (.iload_n 2, 1) := by decide +kernel
theorem d_Reader_readInAll_53 : decode prog_9_method_27_code 53 = .ok (.iconst 2, 1) := by decide +kernel
theorem d_Reader_readInAll_54 : decode prog_9_method_27_code 54 = .ok (.iadd, 1) := by decide +kernel
theorem d_Reader_readInAll_55 : decode prog_9_method_27_code 55 = .ok (.ireturn, 1) := by decide +kernel
set_option maxHeartbeats 4000000 in
set_option maxRecDepth 100000 in
theorem b_Reader_readInAll_52 {h0 : Nat} {a0_3 : Nat} {h1 : Nat} {cA1 : ClassId} {h2 : Nat} {a2_0 : Nat} {h3 : Nat} {cA3 : ClassId} {h4 : Nat} {cA4 : ClassId} {I0 : Nat → Int32} {n1 : Nat} {f1 : Nat → Int32} {I2 : Nat → Int32} {n3 : Nat} {f3 : Nat → Int32} {n4 : Nat} {f4 : Nat → Int32} {x2 : Int32}  {Z : Int32 → (Nat → Int32) × (Nat → Int32) × (Nat → Int32) → Prop} {H : Heap} {locs : List Loc} {ls : Array Slot} (hc : zC p s m args meth c prog_9_method_27_code (some .int) 4 "NumberDress$Reader") (hA : ∀ q : Nat, s.heap.size ≤ q → A q) (hE : zE gE A s) (hl : lv_has ls 4 [(2, .int x2)]) (hK : va_K (dC, dI) zCl [(cA1, .char), (cA3, .int), (cA4, .int)] s) (hP : va_P (dC, dI) zCl [(h0, .inr (8, o_Reader I0 h1 h2 a0_3)), (h1, .inl (cA1, n1, .inl f1)), (h2, .inr (1, o_Code I2 a2_0 h3 h4)), (h3, .inl (cA3, n3, .inl f3)), (h4, .inl (cA4, n4, .inl f4))] H) (hD : va_D A [(h0, .inr (8, o_Reader I0 h1 h2 a0_3)), (h1, .inl (cA1, n1, .inl f1)), (h2, .inr (1, o_Code I2 a2_0 h3 h4)), (h3, .inl (cA3, n3, .inl f3)), (h4, .inl (cA4, n4, .inl f4))]) (hS : va_S A s.heap H locs) (hv : v_Reader_readInAll_52 I0 n1 f1 I2 n3 f3 n4 f4 x2  Z) : W p l e (headSpec (Cond.code (⟨"NumberDress$Reader", "readInAll", "(II)I"⟩ : MethodName) prog_9_method_27_code 4 (some .int) :: zT) { frames := 1, cells := 0, slots := 0, locals := 22 }).room s m args below meth c H locs 0 0 (MQ below (va_Qi Z (zB (dC, dI) zCl [(cA1, .char), (cA3, .int), (cA4, .int)] A (fun u : (Nat → Int32) × (Nat → Int32) × (Nat → Int32) => [(h0, .inr (8, o_Reader I0 h1 h2 a0_3)), (h1, .inl (cA1, n1, .inl f1)), (h2, .inr (1, o_Code u.1 a2_0 h3 h4)), (h3, .inl (cA3, n3, .inl u.2.1)), (h4, .inl (cA4, n4, .inl u.2.2))])) A) args s 0 0 A) (F0 m 52 ls []) := by
  obtain ⟨hx, hb, hr, hml, hown, ht, hlocks⟩ := id hc
  unfold v_Reader_readInAll_52 at hv
  refine lv_iload_n hx hb d_Reader_readInAll_52 rfl (lv_at hl 0 rfl) ?_
  refine lv_iconst (v := (2 : Int32)) hx hb d_Reader_readInAll_53 (by decide) ?_
  refine lv_iadd hx hb d_Reader_readInAll_54 ?_
  exact W.iret (v := (x2 + (2 : Int32))) hx hb hr (fun t ht hW => ⟨⟨_, (I2, f3, f4), rfl, hv, ⟨by rw [ht]; exact hP, va_K.moved hW.alike hK, hD⟩⟩, hS.F ht⟩) hS.2.2 d_Reader_readInAll_55
set_option maxHeartbeats 4000000 in
set_option maxRecDepth 100000 in
theorem b_Reader_readInAll_48 {h0 : Nat} {a0_3 : Nat} {h1 : Nat} {cA1 : ClassId} {h2 : Nat} {a2_0 : Nat} {h3 : Nat} {cA3 : ClassId} {h4 : Nat} {cA4 : ClassId} {I0 : Nat → Int32} {n1 : Nat} {f1 : Nat → Int32} {I2 : Nat → Int32} {n3 : Nat} {f3 : Nat → Int32} {n4 : Nat} {f4 : Nat → Int32} {x2 : Int32} {s1 : Int32}  {Z : Int32 → (Nat → Int32) × (Nat → Int32) × (Nat → Int32) → Prop} {H : Heap} {locs : List Loc} {ls : Array Slot} (hc : zC p s m args meth c prog_9_method_27_code (some .int) 4 "NumberDress$Reader") (hA : ∀ q : Nat, s.heap.size ≤ q → A q) (hE : zE gE A s) (hl : lv_has ls 4 [(2, .int x2)]) (hK : va_K (dC, dI) zCl [(cA1, .char), (cA3, .int), (cA4, .int)] s) (hP : va_P (dC, dI) zCl [(h0, .inr (8, o_Reader I0 h1 h2 a0_3)), (h1, .inl (cA1, n1, .inl f1)), (h2, .inr (1, o_Code I2 a2_0 h3 h4)), (h3, .inl (cA3, n3, .inl f3)), (h4, .inl (cA4, n4, .inl f4))] H) (hD : va_D A [(h0, .inr (8, o_Reader I0 h1 h2 a0_3)), (h1, .inl (cA1, n1, .inl f1)), (h2, .inr (1, o_Code I2 a2_0 h3 h4)), (h3, .inl (cA3, n3, .inl f3)), (h4, .inl (cA4, n4, .inl f4))]) (hS : va_S A s.heap H locs) (hv : v_Reader_readInAll_48 I0 n1 f1 I2 n3 f3 n4 f4 x2 s1  Z) : W p l e (headSpec (Cond.code (⟨"NumberDress$Reader", "readInAll", "(II)I"⟩ : MethodName) prog_9_method_27_code 4 (some .int) :: zT) { frames := 1, cells := 0, slots := 0, locals := 22 }).room s m args below meth c H locs 0 0 (MQ below (va_Qi Z (zB (dC, dI) zCl [(cA1, .char), (cA3, .int), (cA4, .int)] A (fun u : (Nat → Int32) × (Nat → Int32) × (Nat → Int32) => [(h0, .inr (8, o_Reader I0 h1 h2 a0_3)), (h1, .inl (cA1, n1, .inl f1)), (h2, .inr (1, o_Code u.1 a2_0 h3 h4)), (h3, .inl (cA3, n3, .inl u.2.1)), (h4, .inl (cA4, n4, .inl u.2.2))])) A) args s 0 0 A) (F0 m 48 ls [.int s1, .ref h2]) := by
  obtain ⟨hx, hb, hr, hml, hown, ht, hlocks⟩ := id hc
  unfold v_Reader_readInAll_48 at hv
  refine lv_iload_n hx hb d_Reader_readInAll_48 rfl (lv_at hl 0 rfl) ?_
  refine z_callv (wc := [(h2, .inr (1, o_Code I2 a2_0 h3 h4)), (h3, .inl (cA3, n3, .inl f3)), (h4, .inl (cA4, n4, .inl f4))]) (wr := [(h0, .inr (8, o_Reader I0 h1 h2 a0_3)), (h1, .inl (cA1, n1, .inl f1))]) [2, 3, 4] [0, 1] (va_runV (As := [.int s1, .int x2]) (rest := []) ⟨hx, hb, hml, hown, ht⟩ (m_Code_add l dC dI hv) ⟨(callB_of 2 ht (zG_in zi_Code_add) rfl rfl rfl (ht _ zw_111) (ht _ zw_710) zh_Code_add ⟨Nat.le_of_ble_eq_true rfl, Nat.le_of_ble_eq_true rfl⟩), (ht _ zw_711), (ht _ zw_712)⟩ ⟨zPc_blind, va_recv hK hP (ci := 1) (q0 := 2) rfl rfl, zPc_pre hP hK hD hS hA hE [2, 3, 4] [1, 2] rfl rfl (by decide) rfl⟩ rfl rfl hl.1 rfl (lv_room (Nat.le_of_ble_eq_true rfl)) d_Reader_readInAll_49 ⟨Nat.le_of_ble_eq_true rfl, Nat.le_of_ble_eq_true rfl⟩) hP hD hS hA rfl rfl (by decide) (by decide) (fun u H locs hv hP hD hS => ?_)
  have hP : va_P (dC, dI) zCl [(h0, .inr (8, o_Reader I0 h1 h2 a0_3)), (h1, .inl (cA1, n1, .inl f1)), (h2, .inr (1, o_Code u.1 a2_0 h3 h4)), (h3, .inl (cA3, n3, .inl u.2.1)), (h4, .inl (cA4, n4, .inl u.2.2))] H := hP.sub [0, 1, 2, 3, 4] rfl
  have hD : va_D A [(h0, .inr (8, o_Reader I0 h1 h2 a0_3)), (h1, .inl (cA1, n1, .inl f1)), (h2, .inr (1, o_Code u.1 a2_0 h3 h4)), (h3, .inl (cA3, n3, .inl u.2.1)), (h4, .inl (cA4, n4, .inl u.2.2))] := hD.sub [0, 1, 2, 3, 4] (by decide) rfl
  exact b_Reader_readInAll_52 hc hA hE  (lv_sub hl [0] rfl) hK hP hD hS hv
set_option maxHeartbeats 4000000 in
set_option maxRecDepth 100000 in
theorem b_Reader_readInAll_19 {h0 : Nat} {a0_3 : Nat} {h1 : Nat} {cA1 : ClassId} {h2 : Nat} {a2_0 : Nat} {h3 : Nat} {cA3 : ClassId} {h4 : Nat} {cA4 : ClassId} {I0 : Nat → Int32} {n1 : Nat} {f1 : Nat → Int32} {I2 : Nat → Int32} {n3 : Nat} {f3 : Nat → Int32} {n4 : Nat} {f4 : Nat → Int32} {x2 : Int32} {s0 : Int32}  {Z : Int32 → (Nat → Int32) × (Nat → Int32) × (Nat → Int32) → Prop} {H : Heap} {locs : List Loc} {ls : Array Slot} (hc : zC p s m args meth c prog_9_method_27_code (some .int) 4 "NumberDress$Reader") (hA : ∀ q : Nat, s.heap.size ≤ q → A q) (hE : zE gE A s) (hl : lv_has ls 4 [(0, .ref h0), (2, .int x2)]) (hK : va_K (dC, dI) zCl [(cA1, .char), (cA3, .int), (cA4, .int)] s) (hP : va_P (dC, dI) zCl [(h0, .inr (8, o_Reader I0 h1 h2 a0_3)), (h1, .inl (cA1, n1, .inl f1)), (h2, .inr (1, o_Code I2 a2_0 h3 h4)), (h3, .inl (cA3, n3, .inl f3)), (h4, .inl (cA4, n4, .inl f4))] H) (hD : va_D A [(h0, .inr (8, o_Reader I0 h1 h2 a0_3)), (h1, .inl (cA1, n1, .inl f1)), (h2, .inr (1, o_Code I2 a2_0 h3 h4)), (h3, .inl (cA3, n3, .inl f3)), (h4, .inl (cA4, n4, .inl f4))]) (hS : va_S A s.heap H locs) (hv : v_Reader_readInAll_19 I0 n1 f1 I2 n3 f3 n4 f4 x2 s0  Z) : W p l e (headSpec (Cond.code (⟨"NumberDress$Reader", "readInAll", "(II)I"⟩ : MethodName) prog_9_method_27_code 4 (some .int) :: zT) { frames := 1, cells := 0, slots := 0, locals := 22 }).room s m args below meth c H locs 0 0 (MQ below (va_Qi Z (zB (dC, dI) zCl [(cA1, .char), (cA3, .int), (cA4, .int)] A (fun u : (Nat → Int32) × (Nat → Int32) × (Nat → Int32) => [(h0, .inr (8, o_Reader I0 h1 h2 a0_3)), (h1, .inl (cA1, n1, .inl f1)), (h2, .inr (1, o_Code u.1 a2_0 h3 h4)), (h3, .inl (cA3, n3, .inl u.2.1)), (h4, .inl (cA4, n4, .inl u.2.2))])) A) args s 0 0 A) (F0 m 19 ls [.int s0]) := by
  obtain ⟨hx, hb, hr, hml, hown, ht, hlocks⟩ := id hc
  unfold v_Reader_readInAll_19 at hv
  refine lv_istore_n (lv' := [(3, .int s0), (0, .ref h0), (2, .int x2)]) hx hb d_Reader_readInAll_19 rfl hl (by decide) rfl (fun ls hl => ?_)
  refine lv_aload_n hx hb d_Reader_readInAll_20 rfl (lv_at hl 1 rfl) ?_
  refine va_get (D := (dC, dI)) (ci := 8) (v := .ref h2) (C := "NumberDress$Reader") (T := T_Reader) (N := 5) hx hb ht zin_Reader hown hK hP 0 rfl rfl 2 (by decide) (ht _ zw_273) (fun _ h9 => h9) rfl d_Reader_readInAll_21 ?_
  refine lv_iload_n hx hb d_Reader_readInAll_24 rfl (lv_at hl 0 rfl) ?_
  refine lv_bipush (v := (104 : Int32)) hx hb d_Reader_readInAll_25 (by decide) ?_
  refine lv_icmp_ne (tgt := 35) hx hb d_Reader_readInAll_27 (by decide) (fun c_1 => ?_) (fun c_1 => ?_)
  · have hv := hv.1 c_1
    refine lv_iload_n hx hb d_Reader_readInAll_35 rfl (lv_at hl 0 rfl) ?_
    refine lv_bipush (v := (109 : Int32)) hx hb d_Reader_readInAll_36 (by decide) ?_
    refine lv_icmp_ne (tgt := 46) hx hb d_Reader_readInAll_38 (by decide) (fun c_2 => ?_) (fun c_2 => ?_)
    · have hv := hv.1 c_2
      refine lv_bipush (v := (28 : Int32)) hx hb d_Reader_readInAll_46 (by decide) ?_
      exact b_Reader_readInAll_48 hc hA hE  (lv_sub hl [2] rfl) hK hP hD hS hv
    · have hv := hv.2 c_2
      refine lv_bipush (v := (27 : Int32)) hx hb d_Reader_readInAll_41 (by decide) ?_
      refine lv_goto (tgt := 48) hx hb d_Reader_readInAll_43 (by decide) ?_
      exact b_Reader_readInAll_48 hc hA hE  (lv_sub hl [2] rfl) hK hP hD hS hv
  · have hv := hv.2 c_1
    refine lv_bipush (v := (26 : Int32)) hx hb d_Reader_readInAll_30 (by decide) ?_
    refine lv_goto (tgt := 48) hx hb d_Reader_readInAll_32 (by decide) ?_
    exact b_Reader_readInAll_48 hc hA hE  (lv_sub hl [2] rfl) hK hP hD hS hv
set_option maxHeartbeats 4000000 in
set_option maxRecDepth 100000 in
theorem b_Reader_readInAll_0 {h0 : Nat} {a0_3 : Nat} {h1 : Nat} {cA1 : ClassId} {h2 : Nat} {a2_0 : Nat} {h3 : Nat} {cA3 : ClassId} {h4 : Nat} {cA4 : ClassId} {I0 : Nat → Int32} {n1 : Nat} {f1 : Nat → Int32} {I2 : Nat → Int32} {n3 : Nat} {f3 : Nat → Int32} {n4 : Nat} {f4 : Nat → Int32} {x1 : Int32} {x2 : Int32}  {Z : Int32 → (Nat → Int32) × (Nat → Int32) × (Nat → Int32) → Prop} {H : Heap} {locs : List Loc} {ls : Array Slot} (hc : zC p s m args meth c prog_9_method_27_code (some .int) 4 "NumberDress$Reader") (hA : ∀ q : Nat, s.heap.size ≤ q → A q) (hE : zE gE A s) (hl : lv_has ls 4 [(0, .ref h0), (1, .int x1), (2, .int x2)]) (hK : va_K (dC, dI) zCl [(cA1, .char), (cA3, .int), (cA4, .int)] s) (hP : va_P (dC, dI) zCl [(h0, .inr (8, o_Reader I0 h1 h2 a0_3)), (h1, .inl (cA1, n1, .inl f1)), (h2, .inr (1, o_Code I2 a2_0 h3 h4)), (h3, .inl (cA3, n3, .inl f3)), (h4, .inl (cA4, n4, .inl f4))] H) (hD : va_D A [(h0, .inr (8, o_Reader I0 h1 h2 a0_3)), (h1, .inl (cA1, n1, .inl f1)), (h2, .inr (1, o_Code I2 a2_0 h3 h4)), (h3, .inl (cA3, n3, .inl f3)), (h4, .inl (cA4, n4, .inl f4))]) (hS : va_S A s.heap H locs) (hv : v_Reader_readInAll_0 I0 n1 f1 I2 n3 f3 n4 f4 x1 x2  Z) : W p l e (headSpec (Cond.code (⟨"NumberDress$Reader", "readInAll", "(II)I"⟩ : MethodName) prog_9_method_27_code 4 (some .int) :: zT) { frames := 1, cells := 0, slots := 0, locals := 22 }).room s m args below meth c H locs 0 0 (MQ below (va_Qi Z (zB (dC, dI) zCl [(cA1, .char), (cA3, .int), (cA4, .int)] A (fun u : (Nat → Int32) × (Nat → Int32) × (Nat → Int32) => [(h0, .inr (8, o_Reader I0 h1 h2 a0_3)), (h1, .inl (cA1, n1, .inl f1)), (h2, .inr (1, o_Code u.1 a2_0 h3 h4)), (h3, .inl (cA3, n3, .inl u.2.1)), (h4, .inl (cA4, n4, .inl u.2.2))])) A) args s 0 0 A) (F0 m 0 ls []) := by
  obtain ⟨hx, hb, hr, hml, hown, ht, hlocks⟩ := id hc
  unfold v_Reader_readInAll_0 at hv
  refine lv_iload_n hx hb d_Reader_readInAll_0 rfl (lv_at hl 2 rfl) ?_
  refine lv_iconst (v := (1 : Int32)) hx hb d_Reader_readInAll_1 (by decide) ?_
  refine lv_icmp_lt (tgt := 10) hx hb d_Reader_readInAll_2 (by decide) (fun c_1 => ?_) (fun c_1 => ?_)
  · have hv := hv.1 c_1
    refine lv_iconst (v := (0 : Int32)) hx hb d_Reader_readInAll_10 (by decide) ?_
    exact W.iret (v := (0 : Int32)) hx hb hr (fun t ht hW => ⟨⟨_, (I2, f3, f4), rfl, hv, ⟨by rw [ht]; exact hP, va_K.moved hW.alike hK, hD⟩⟩, hS.F ht⟩) hS.2.2 d_Reader_readInAll_11
  · have hv := hv.2 c_1
    refine lv_iload_n hx hb d_Reader_readInAll_5 rfl (lv_at hl 2 rfl) ?_
    refine lv_iconst (v := (2 : Int32)) hx hb d_Reader_readInAll_6 (by decide) ?_
    refine lv_icmp_le (tgt := 12) hx hb d_Reader_readInAll_7 (by decide) (fun c_2 => ?_) (fun c_2 => ?_)
    · have hv := hv.1 c_2
      refine lv_aload_n hx hb d_Reader_readInAll_12 rfl (lv_at hl 0 rfl) ?_
      refine lv_iload_n hx hb d_Reader_readInAll_13 rfl (lv_at hl 1 rfl) ?_
      refine lv_iconst (v := (1 : Int32)) hx hb d_Reader_readInAll_14 (by decide) ?_
      refine lv_iadd hx hb d_Reader_readInAll_15 ?_
      refine z_calli (wc := [(h0, .inr (8, o_Reader I0 h1 h2 a0_3)), (h1, .inl (cA1, n1, .inl f1))]) (wr := [(h2, .inr (1, o_Code I2 a2_0 h3 h4)), (h3, .inl (cA3, n3, .inl f3)), (h4, .inl (cA4, n4, .inl f4))]) [0, 1] [2, 3, 4] (va_runV (As := [.int (x1 + (1 : Int32))]) (rest := []) ⟨hx, hb, hml, hown, ht⟩ (m_Reader_small l dC dI hv) ⟨(callB_of 1 ht (zG_in zi_Reader_small) rfl rfl rfl (ht _ zw_113) (ht _ zw_553) zh_Reader_small ⟨Nat.le_of_ble_eq_true rfl, Nat.le_of_ble_eq_true rfl⟩), (ht _ zw_555), (ht _ zw_6)⟩ ⟨zPc_blind, va_recv hK hP (ci := 8) (q0 := 0) rfl rfl, zPc_pre hP hK hD hS hA hE [0, 1] [0] rfl rfl (by decide) rfl⟩ rfl rfl hl.1 rfl (lv_room (Nat.le_of_ble_eq_true rfl)) d_Reader_readInAll_16 ⟨Nat.le_of_ble_eq_true rfl, Nat.le_of_ble_eq_true rfl⟩) hP hD hS hA rfl rfl (by decide) (by decide) (fun r u H locs hv hP hD hS => ?_)
      have hP : va_P (dC, dI) zCl [(h0, .inr (8, o_Reader I0 h1 h2 a0_3)), (h1, .inl (cA1, n1, .inl f1)), (h2, .inr (1, o_Code I2 a2_0 h3 h4)), (h3, .inl (cA3, n3, .inl f3)), (h4, .inl (cA4, n4, .inl f4))] H := hP.sub [3, 4, 0, 1, 2] rfl
      have hD : va_D A [(h0, .inr (8, o_Reader I0 h1 h2 a0_3)), (h1, .inl (cA1, n1, .inl f1)), (h2, .inr (1, o_Code I2 a2_0 h3 h4)), (h3, .inl (cA3, n3, .inl f3)), (h4, .inl (cA4, n4, .inl f4))] := hD.sub [3, 4, 0, 1, 2] (by decide) rfl
      exact b_Reader_readInAll_19 hc hA hE  (lv_sub hl [0, 2] rfl) hK hP hD hS hv
    · have hv := hv.2 c_2
      refine lv_iconst (v := (0 : Int32)) hx hb d_Reader_readInAll_10 (by decide) ?_
      exact W.iret (v := (0 : Int32)) hx hb hr (fun t ht hW => ⟨⟨_, (I2, f3, f4), rfl, hv, ⟨by rw [ht]; exact hP, va_K.moved hW.alike hK, hD⟩⟩, hS.F ht⟩) hS.2.2 d_Reader_readInAll_11
theorem zi_Reader_readInAll : Cond.code (⟨"NumberDress$Reader", "readInAll", "(II)I"⟩ : MethodName) prog_9_method_27_code 4 (some .int) ∈ zT := zw_788
theorem zh_Reader_readInAll : (((⟨"NumberDress$Reader", "readInAll", "(II)I"⟩ : MethodName)).cls ≠ "java/lang/invoke/MethodHandle" ∧ ((⟨"NumberDress$Reader", "readInAll", "(II)I"⟩ : MethodName)).cls ≠ "java/lang/invoke/VarHandle" ∧ (parseMethodDescriptor ((⟨"NumberDress$Reader", "readInAll", "(II)I"⟩ : MethodName)).desc).map (fun d => d.parameters.length) = some 2) := by decide +kernel
set_option maxHeartbeats 4000000 in
set_option maxRecDepth 100000 in
theorem m_Reader_readInAll (l : Launch) (dC : Nat → ClassId) (dI : Nat → Nat → Nat) {gE : zG} {h0 : Nat} {a0_3 : Nat} {h1 : Nat} {cA1 : ClassId} {h2 : Nat} {a2_0 : Nat} {h3 : Nat} {cA3 : ClassId} {h4 : Nat} {cA4 : ClassId} {I0 : Nat → Int32} {n1 : Nat} {f1 : Nat → Int32} {I2 : Nat → Int32} {n3 : Nat} {f3 : Nat → Int32} {n4 : Nat} {f4 : Nat → Int32} {x1 : Int32} {x2 : Int32} {sz : Nat} {Z : Int32 → (Nat → Int32) × (Nat → Int32) × (Nat → Int32) → Prop} (hv : v_Reader_readInAll_0 I0 n1 f1 I2 n3 f3 n4 f4 x1 x2 Z) : Met l (⟨"NumberDress$Reader", "readInAll", "(II)I"⟩ : MethodName) (Cond.code (⟨"NumberDress$Reader", "readInAll", "(II)I"⟩ : MethodName) prog_9_method_27_code 4 (some .int) :: zT) { frames := 1, cells := 0, slots := 0, locals := 22 } (zPc gE (dC, dI) zCl [(cA1, .char), (cA3, .int), (cA4, .int)] [.ref h0, .int x1, .int x2] sz [(h0, .inr (8, o_Reader I0 h1 h2 a0_3)), (h1, .inl (cA1, n1, .inl f1)), (h2, .inr (1, o_Code I2 a2_0 h3 h4)), (h3, .inl (cA3, n3, .inl f3)), (h4, .inl (cA4, n4, .inl f4))]) (va_Qi Z (zB (dC, dI) zCl [(cA1, .char), (cA3, .int), (cA4, .int)] (va_A [(h0, .inr (8, o_Reader I0 h1 h2 a0_3)), (h1, .inl (cA1, n1, .inl f1)), (h2, .inr (1, o_Code I2 a2_0 h3 h4)), (h3, .inl (cA3, n3, .inl f3)), (h4, .inl (cA4, n4, .inl f4))] sz) (fun u : (Nat → Int32) × (Nat → Int32) × (Nat → Int32) => [(h0, .inr (8, o_Reader I0 h1 h2 a0_3)), (h1, .inl (cA1, n1, .inl f1)), (h2, .inr (1, o_Code u.1 a2_0 h3 h4)), (h3, .inl (cA3, n3, .inl u.2.1)), (h4, .inl (cA4, n4, .inl u.2.2))])) (va_A [(h0, .inr (8, o_Reader I0 h1 h2 a0_3)), (h1, .inl (cA1, n1, .inl f1)), (h2, .inr (1, o_Code I2 a2_0 h3 h4)), (h3, .inl (cA3, n3, .inl f3)), (h4, .inl (cA4, n4, .inl f4))] sz)) 0 0 (va_A [(h0, .inr (8, o_Reader I0 h1 h2 a0_3)), (h1, .inl (cA1, n1, .inl f1)), (h2, .inr (1, o_Code I2 a2_0 h3 h4)), (h3, .inl (cA3, n3, .inl f3)), (h4, .inl (cA4, n4, .inl f4))] sz) := by
  refine Met.ofW (cc := prog_9_method_27_code) (maxL := 4) (ret := (some .int)) (by decide +kernel) rfl ?_
  intro p e s m args below meth c s₁ B hml hp
  obtain ⟨rfl, hsz, hP, hK, hD0, hE⟩ := hp
  have hts := atoms_spec (ws := (Cond.code (⟨"NumberDress$Reader", "readInAll", "(II)I"⟩ : MethodName) prog_9_method_27_code 4 (some .int) :: zT)) B.pre
  have hown : s.vm.findClass "NumberDress$Reader" = some m.cls := findClass_of_methodNamed B.named
  have hc : zC p s m _ meth c prog_9_method_27_code (some .int) 4 "NumberDress$Reader" := ⟨B.exec, B.bytes, B.returns, hml, hown, fun w h => hts w (List.mem_cons_of_mem _ h), B.notSynchronized⟩
  subst hsz
  have hD := hD0.self (sz := s.heap.size)
  generalize hAe : va_A [(h0, .inr (8, o_Reader I0 h1 h2 a0_3)), (h1, .inl (cA1, n1, .inl f1)), (h2, .inr (1, o_Code I2 a2_0 h3 h4)), (h3, .inl (cA3, n3, .inl f3)), (h4, .inl (cA4, n4, .inl f4))] s.heap.size = A at hD hE ⊢
  have hA : ∀ q : Nat, s.heap.size ≤ q → A q := fun q h => by rw [← hAe]; exact Or.inr h
  have hl := lv_entry ([.ref h0, .int x1, .int x2]) (n := 4) (Nat.le_of_ble_eq_true rfl)
  rw [lg_entry_eq]
  exact b_Reader_readInAll_0 hc hA hE hl hK hP hD va_S.rf hv
theorem d_Reader_kindBefore_0 : decode prog_9_method_33_code 0 = .ok (.aload_n 0, 1) := by decide +kernel
theorem d_Reader_kindBefore_1 : decode prog_9_method_33_code 1 = .ok (.getfield 18, 3) := by decide +kernel
theorem d_Reader_kindBefore_4 : decode prog_9_method_33_code 4 = .ok (.getfield 77, 3) := by decide +kernel
theorem d_Reader_kindBefore_7 : decode prog_9_method_33_code 7 = .ok (.iconst 1, 1) := by decide +kernel
theorem d_Reader_kindBefore_8 : decode prog_9_method_33_code 8 = .ok (.isub, 1) := by decide +kernel
theorem d_Reader_kindBefore_9 : decode prog_9_method_33_code 9 = .ok (.istore_n 1, 1) := by decide +kernel
theorem d_Reader_kindBefore_10 : decode prog_9_method_33_code 10 = .ok (.iload_n 1, 1) := by decide +kernel
theorem d_Reader_kindBefore_11 : decode prog_9_method_33_code 11 = .ok (.aload_n 0, 1) := by decide +kernel
theorem d_Reader_kindBefore_12 : decode prog_9_method_33_code 12 = .ok (.getfield 25, 3) := by decide +kernel
theorem d_Reader_kindBefore_15 : decode prog_9_method_33_code 15 = .ok (.getfield 210, 3) := by decide +kernel
theorem d_Reader_kindBefore_18 : decode prog_9_method_33_code 18 = .ok (.if_icmp .lt 14, 3) := by decide +kernel
theorem d_Reader_kindBefore_21 : decode prog_9_method_33_code 21 = .ok (.aload_n 0, 1) := by decide +kernel
theorem d_Reader_kindBefore_22 : decode prog_9_method_33_code 22 = .ok (.getfield 18, 3) := by decide +kernel
theorem d_Reader_kindBefore_25 : decode prog_9_method_33_code 25 = .ok (.iload_n 1, 1) := by decide +kernel
theorem d_Reader_kindBefore_26 : decode prog_9_method_33_code 26 = .ok (.invokevirtual 213, 3) := by decide +kernel
theorem d_Reader_kindBefore_29 : decode prog_9_method_33_code 29 = .ok (.goto 4, 3) := by decide +kernel
theorem d_Reader_kindBefore_32 : decode prog_9_method_33_code 32 = .ok (.iconst 0, 1) := by decide +kernel
theorem d_Reader_kindBefore_33 : decode prog_9_method_33_code 33 = .ok (.ireturn, 1) := by decide +kernel
set_option maxHeartbeats 4000000 in
set_option maxRecDepth 100000 in
theorem b_Reader_kindBefore_29 {h0 : Nat} {a0_0 : Nat} {h1 : Nat} {a1_0 : Nat} {a1_3 : Nat} {h2 : Nat} {h3 : Nat} {cA3 : ClassId} {I0 : Nat → Int32} {I1 : Nat → Int32} {I2 : Nat → Int32} {n3 : Nat} {f3 : Nat → Int32} {s0 : Int32}  {Z : Int32 → Unit → Prop} {H : Heap} {locs : List Loc} {ls : Array Slot} (hc : zC p s m args meth c prog_9_method_33_code (some .int) 2 "NumberDress$Reader") (hA : ∀ q : Nat, s.heap.size ≤ q → A q) (hE : zE gE A s) (hl : lv_has ls 2 []) (hK : va_K (dC, dI) zCl [(cA3, .int)] s) (hP : va_P (dC, dI) zCl [(h0, .inr (8, o_Reader I0 a0_0 h1 h2)), (h1, .inr (1, o_Code I1 a1_0 h3 a1_3)), (h2, .inr (9, o_Section I2)), (h3, .inl (cA3, n3, .inl f3))] H) (hD : va_D A [(h0, .inr (8, o_Reader I0 a0_0 h1 h2)), (h1, .inr (1, o_Code I1 a1_0 h3 a1_3)), (h2, .inr (9, o_Section I2)), (h3, .inl (cA3, n3, .inl f3))]) (hS : va_S A s.heap H locs) (hv : v_Reader_kindBefore_29 I0 I1 I2 n3 f3 s0  Z) : W p l e (headSpec (Cond.code (⟨"NumberDress$Reader", "kindBefore", "()I"⟩ : MethodName) prog_9_method_33_code 2 (some .int) :: zT) { frames := 1, cells := 0, slots := 0, locals := 21 }).room s m args below meth c H locs 0 0 (MQ below (va_Qi Z (zB (dC, dI) zCl [(cA3, .int)] A (fun u : Unit => [(h0, .inr (8, o_Reader I0 a0_0 h1 h2)), (h1, .inr (1, o_Code I1 a1_0 h3 a1_3)), (h2, .inr (9, o_Section I2)), (h3, .inl (cA3, n3, .inl f3))])) A) args s 0 0 A) (F0 m 29 ls [.int s0]) := by
  obtain ⟨hx, hb, hr, hml, hown, ht, hlocks⟩ := id hc
  unfold v_Reader_kindBefore_29 at hv
  refine lv_goto (tgt := 33) hx hb d_Reader_kindBefore_29 (by decide) ?_
  exact W.iret (v := s0) hx hb hr (fun t ht hW => ⟨⟨_, (), rfl, hv, ⟨by rw [ht]; exact hP, va_K.moved hW.alike hK, hD⟩⟩, hS.F ht⟩) hS.2.2 d_Reader_kindBefore_33
set_option maxHeartbeats 4000000 in
set_option maxRecDepth 100000 in
theorem b_Reader_kindBefore_0 {h0 : Nat} {a0_0 : Nat} {h1 : Nat} {a1_0 : Nat} {a1_3 : Nat} {h2 : Nat} {h3 : Nat} {cA3 : ClassId} {I0 : Nat → Int32} {I1 : Nat → Int32} {I2 : Nat → Int32} {n3 : Nat} {f3 : Nat → Int32}  {Z : Int32 → Unit → Prop} {H : Heap} {locs : List Loc} {ls : Array Slot} (hc : zC p s m args meth c prog_9_method_33_code (some .int) 2 "NumberDress$Reader") (hA : ∀ q : Nat, s.heap.size ≤ q → A q) (hE : zE gE A s) (hl : lv_has ls 2 [(0, .ref h0)]) (hK : va_K (dC, dI) zCl [(cA3, .int)] s) (hP : va_P (dC, dI) zCl [(h0, .inr (8, o_Reader I0 a0_0 h1 h2)), (h1, .inr (1, o_Code I1 a1_0 h3 a1_3)), (h2, .inr (9, o_Section I2)), (h3, .inl (cA3, n3, .inl f3))] H) (hD : va_D A [(h0, .inr (8, o_Reader I0 a0_0 h1 h2)), (h1, .inr (1, o_Code I1 a1_0 h3 a1_3)), (h2, .inr (9, o_Section I2)), (h3, .inl (cA3, n3, .inl f3))]) (hS : va_S A s.heap H locs) (hv : v_Reader_kindBefore_0 I0 I1 I2 n3 f3  Z) : W p l e (headSpec (Cond.code (⟨"NumberDress$Reader", "kindBefore", "()I"⟩ : MethodName) prog_9_method_33_code 2 (some .int) :: zT) { frames := 1, cells := 0, slots := 0, locals := 21 }).room s m args below meth c H locs 0 0 (MQ below (va_Qi Z (zB (dC, dI) zCl [(cA3, .int)] A (fun u : Unit => [(h0, .inr (8, o_Reader I0 a0_0 h1 h2)), (h1, .inr (1, o_Code I1 a1_0 h3 a1_3)), (h2, .inr (9, o_Section I2)), (h3, .inl (cA3, n3, .inl f3))])) A) args s 0 0 A) (F0 m 0 ls []) := by
  obtain ⟨hx, hb, hr, hml, hown, ht, hlocks⟩ := id hc
  unfold v_Reader_kindBefore_0 at hv
  refine lv_aload_n hx hb d_Reader_kindBefore_0 rfl (lv_at hl 0 rfl) ?_
  refine va_get (D := (dC, dI)) (ci := 8) (v := .ref h1) (C := "NumberDress$Reader") (T := T_Reader) (N := 5) hx hb ht zin_Reader hown hK hP 0 rfl rfl 2 (by decide) (ht _ zw_273) (fun _ h9 => h9) rfl d_Reader_kindBefore_1 ?_
  refine va_get (D := (dC, dI)) (ci := 1) (v := .int (I1 4)) (C := "NumberDress$Code") (T := T_Code) (N := 5) hx hb ht zin_Code hown hK hP 1 rfl rfl 4 (by decide) (ht _ zw_249) (fun _ h9 => h9) rfl d_Reader_kindBefore_4 ?_
  refine lv_iconst (v := (1 : Int32)) hx hb d_Reader_kindBefore_7 (by decide) ?_
  refine lv_isub hx hb d_Reader_kindBefore_8 ?_
  refine lv_istore_n (lv' := [(1, .int ((I1 4) - (1 : Int32))), (0, .ref h0)]) hx hb d_Reader_kindBefore_9 rfl hl (by decide) rfl (fun ls hl => ?_)
  refine lv_iload_n hx hb d_Reader_kindBefore_10 rfl (lv_at hl 0 rfl) ?_
  refine lv_aload_n hx hb d_Reader_kindBefore_11 rfl (lv_at hl 1 rfl) ?_
  refine va_get (D := (dC, dI)) (ci := 8) (v := .ref h2) (C := "NumberDress$Reader") (T := T_Reader) (N := 5) hx hb ht zin_Reader hown hK hP 0 rfl rfl 3 (by decide) (ht _ zw_274) (fun _ h9 => h9) rfl d_Reader_kindBefore_12 ?_
  refine va_get (D := (dC, dI)) (ci := 9) (v := .int (I2 1)) (C := "NumberDress$Section") (T := T_Section) (N := 15) hx hb ht zin_Section hown hK hP 2 rfl rfl 1 (by decide) (ht _ zw_167) (fun _ h9 => h9) rfl d_Reader_kindBefore_15 ?_
  refine lv_icmp_lt (tgt := 32) hx hb d_Reader_kindBefore_18 (by decide) (fun c_1 => ?_) (fun c_1 => ?_)
  · have hv := hv.1 c_1
    refine lv_iconst (v := (0 : Int32)) hx hb d_Reader_kindBefore_32 (by decide) ?_
    exact W.iret (v := (0 : Int32)) hx hb hr (fun t ht hW => ⟨⟨_, (), rfl, hv, ⟨by rw [ht]; exact hP, va_K.moved hW.alike hK, hD⟩⟩, hS.F ht⟩) hS.2.2 d_Reader_kindBefore_33
  · have hv := hv.2 c_1
    refine lv_aload_n hx hb d_Reader_kindBefore_21 rfl (lv_at hl 1 rfl) ?_
    refine va_get (D := (dC, dI)) (ci := 8) (v := .ref h1) (C := "NumberDress$Reader") (T := T_Reader) (N := 5) hx hb ht zin_Reader hown hK hP 0 rfl rfl 2 (by decide) (ht _ zw_273) (fun _ h9 => h9) rfl d_Reader_kindBefore_22 ?_
    refine lv_iload_n hx hb d_Reader_kindBefore_25 rfl (lv_at hl 0 rfl) ?_
    refine z_calli (wc := [(h1, .inr (1, o_Code I1 a1_0 h3 a1_3)), (h3, .inl (cA3, n3, .inl f3))]) (wr := [(h0, .inr (8, o_Reader I0 a0_0 h1 h2)), (h2, .inr (9, o_Section I2))]) [1, 3] [0, 2] (va_runV (As := [.int ((I1 4) - (1 : Int32))]) (rest := []) ⟨hx, hb, hml, hown, ht⟩ (m_Code_kind l dC dI hv) ⟨(callB_of 1 ht (zG_in zi_Code_kind) rfl rfl rfl (ht _ zw_111) (ht _ zw_738) zh_Code_kind ⟨Nat.le_of_ble_eq_true rfl, Nat.le_of_ble_eq_true rfl⟩), (ht _ zw_739), (ht _ zw_740)⟩ ⟨zPc_blind, va_recv hK hP (ci := 1) (q0 := 1) rfl rfl, zPc_pre hP hK hD hS hA hE [1, 3] [0] rfl rfl (by decide) rfl⟩ rfl rfl hl.1 rfl (lv_room (Nat.le_of_ble_eq_true rfl)) d_Reader_kindBefore_26 ⟨Nat.le_of_ble_eq_true rfl, Nat.le_of_ble_eq_true rfl⟩) hP hD hS hA rfl rfl (by decide) (by decide) (fun r u H locs hv hP hD hS => ?_)
    have hP : va_P (dC, dI) zCl [(h0, .inr (8, o_Reader I0 a0_0 h1 h2)), (h1, .inr (1, o_Code I1 a1_0 h3 a1_3)), (h2, .inr (9, o_Section I2)), (h3, .inl (cA3, n3, .inl f3))] H := hP.sub [0, 2, 1, 3] rfl
    have hD : va_D A [(h0, .inr (8, o_Reader I0 a0_0 h1 h2)), (h1, .inr (1, o_Code I1 a1_0 h3 a1_3)), (h2, .inr (9, o_Section I2)), (h3, .inl (cA3, n3, .inl f3))] := hD.sub [0, 2, 1, 3] (by decide) rfl
    exact b_Reader_kindBefore_29 hc hA hE  (lv_sub hl [] rfl) hK hP hD hS hv
theorem zi_Reader_kindBefore : Cond.code (⟨"NumberDress$Reader", "kindBefore", "()I"⟩ : MethodName) prog_9_method_33_code 2 (some .int) ∈ zT := zw_737
theorem zh_Reader_kindBefore : (((⟨"NumberDress$Reader", "kindBefore", "()I"⟩ : MethodName)).cls ≠ "java/lang/invoke/MethodHandle" ∧ ((⟨"NumberDress$Reader", "kindBefore", "()I"⟩ : MethodName)).cls ≠ "java/lang/invoke/VarHandle" ∧ (parseMethodDescriptor ((⟨"NumberDress$Reader", "kindBefore", "()I"⟩ : MethodName)).desc).map (fun d => d.parameters.length) = some 0) := by decide +kernel
set_option maxHeartbeats 4000000 in
set_option maxRecDepth 100000 in
theorem m_Reader_kindBefore (l : Launch) (dC : Nat → ClassId) (dI : Nat → Nat → Nat) {gE : zG} {h0 : Nat} {a0_0 : Nat} {h1 : Nat} {a1_0 : Nat} {a1_3 : Nat} {h2 : Nat} {h3 : Nat} {cA3 : ClassId} {I0 : Nat → Int32} {I1 : Nat → Int32} {I2 : Nat → Int32} {n3 : Nat} {f3 : Nat → Int32} {sz : Nat} {Z : Int32 → Unit → Prop} (hv : v_Reader_kindBefore_0 I0 I1 I2 n3 f3 Z) : Met l (⟨"NumberDress$Reader", "kindBefore", "()I"⟩ : MethodName) (Cond.code (⟨"NumberDress$Reader", "kindBefore", "()I"⟩ : MethodName) prog_9_method_33_code 2 (some .int) :: zT) { frames := 1, cells := 0, slots := 0, locals := 21 } (zPc gE (dC, dI) zCl [(cA3, .int)] [.ref h0] sz [(h0, .inr (8, o_Reader I0 a0_0 h1 h2)), (h1, .inr (1, o_Code I1 a1_0 h3 a1_3)), (h2, .inr (9, o_Section I2)), (h3, .inl (cA3, n3, .inl f3))]) (va_Qi Z (zB (dC, dI) zCl [(cA3, .int)] (va_A [(h0, .inr (8, o_Reader I0 a0_0 h1 h2)), (h1, .inr (1, o_Code I1 a1_0 h3 a1_3)), (h2, .inr (9, o_Section I2)), (h3, .inl (cA3, n3, .inl f3))] sz) (fun u : Unit => [(h0, .inr (8, o_Reader I0 a0_0 h1 h2)), (h1, .inr (1, o_Code I1 a1_0 h3 a1_3)), (h2, .inr (9, o_Section I2)), (h3, .inl (cA3, n3, .inl f3))])) (va_A [(h0, .inr (8, o_Reader I0 a0_0 h1 h2)), (h1, .inr (1, o_Code I1 a1_0 h3 a1_3)), (h2, .inr (9, o_Section I2)), (h3, .inl (cA3, n3, .inl f3))] sz)) 0 0 (va_A [(h0, .inr (8, o_Reader I0 a0_0 h1 h2)), (h1, .inr (1, o_Code I1 a1_0 h3 a1_3)), (h2, .inr (9, o_Section I2)), (h3, .inl (cA3, n3, .inl f3))] sz) := by
  refine Met.ofW (cc := prog_9_method_33_code) (maxL := 2) (ret := (some .int)) (by decide +kernel) rfl ?_
  intro p e s m args below meth c s₁ B hml hp
  obtain ⟨rfl, hsz, hP, hK, hD0, hE⟩ := hp
  have hts := atoms_spec (ws := (Cond.code (⟨"NumberDress$Reader", "kindBefore", "()I"⟩ : MethodName) prog_9_method_33_code 2 (some .int) :: zT)) B.pre
  have hown : s.vm.findClass "NumberDress$Reader" = some m.cls := findClass_of_methodNamed B.named
  have hc : zC p s m _ meth c prog_9_method_33_code (some .int) 2 "NumberDress$Reader" := ⟨B.exec, B.bytes, B.returns, hml, hown, fun w h => hts w (List.mem_cons_of_mem _ h), B.notSynchronized⟩
  subst hsz
  have hD := hD0.self (sz := s.heap.size)
  generalize hAe : va_A [(h0, .inr (8, o_Reader I0 a0_0 h1 h2)), (h1, .inr (1, o_Code I1 a1_0 h3 a1_3)), (h2, .inr (9, o_Section I2)), (h3, .inl (cA3, n3, .inl f3))] s.heap.size = A at hD hE ⊢
  have hA : ∀ q : Nat, s.heap.size ≤ q → A q := fun q h => by rw [← hAe]; exact Or.inr h
  have hl := lv_entry ([.ref h0]) (n := 2) (Nat.le_of_ble_eq_true rfl)
  rw [lg_entry_eq]
  exact b_Reader_kindBefore_0 hc hA hE hl hK hP hD va_S.rf hv
theorem d_Reader_readParts_0 : decode prog_9_method_29_code 0 = .ok (.aload_n 0, 1) := by decide +kernel
theorem d_Reader_readParts_1 : decode prog_9_method_29_code 1 = .ok (.invokevirtual 183, 3) := by decide +kernel
theorem d_Reader_readParts_4 : decode prog_9_method_29_code 4 = .ok (.istore_n 2, 1) := by decide +kernel
theorem d_Reader_readParts_5 : decode prog_9_method_29_code 5 = .ok (.aload_n 0, 1) := by decide +kernel
theorem d_Reader_readParts_6 : decode prog_9_method_29_code 6 = .ok (.iload_n 1, 1) := by decide +kernel
theorem d_Reader_readParts_7 : decode prog_9_method_29_code 7 = .ok (.iconst 1, 1) := by decide +kernel
theorem d_Reader_readParts_8 : decode prog_9_method_29_code 8 = .ok (.iadd, 1) := by decide +kernel
theorem d_Reader_readParts_9 : decode prog_9_method_29_code 9 = .ok (.invokevirtual 86, 3) := by decide +kernel
theorem d_Reader_readParts_12 : decode prog_9_method_29_code 12 = .ok (.bipush 48, 2) := by decide +kernel
theorem d_Reader_readParts_14 : decode prog_9_method_29_code 14 = .ok (.if_icmp .ne 13, 3) := by decide +kernel
theorem d_Reader_readParts_17 : decode prog_9_method_29_code 17 = .ok (.aload_n 0, 1) := by decide +kernel
theorem d_Reader_readParts_18 : decode prog_9_method_29_code 18 = .ok (.iload_n 1, 1) := by decide +kernel
theorem d_Reader_readParts_19 : decode prog_9_method_29_code 19 = .ok (.iconst 1, 1) := by decide +kernel
theorem d_Reader_readParts_20 : decode prog_9_method_29_code 20 = .ok (.iadd, 1) := by decide +kernel
theorem d_Reader_readParts_21 : decode prog_9_method_29_code 21 = .ok (.invokevirtual 237, 3) := by decide +kernel
theorem d_Reader_readParts_24 : decode prog_9_method_29_code 24 = .ok (.goto 4, 3) := by decide +kernel
theorem d_Reader_readParts_27 : decode prog_9_method_29_code 27 = .ok (.iconst 0, 1) := by decide +kernel
theorem d_Reader_readParts_28 : decode prog_9_method_29_code 28 = .ok (.istore_n 3, 1) := by decide +kernel
theorem d_Reader_readParts_29 : decode prog_9_method_29_code 29 = .ok (.iload_n 3, 1) := by decide +kernel
theorem d_Reader_readParts_30 : decode prog_9_method_29_code 30 = .ok (.ifCond .eq 15, 3) := by decide +kernel
theorem d_Reader_readParts_33 : decode prog_9_method_29_code 33 = .ok (.iload_n 2, 1) := by decide +kernel
theorem d_Reader_readParts_34 : decode prog_9_method_29_code 34 = .ok (.bipush 25, 2) := by decide +kernel
theorem d_Reader_readParts_36 : decode prog_9_method_29_code 36 = .ok (.if_icmp .eq 17, 3) := by decide +kernel
theorem d_Reader_readParts_39 : decode prog_9_method_29_code 39 = .ok (.iload_n 2, 1) := by decide +kernel
theorem d_Reader_readParts_40 : decode prog_9_method_29_code 40 = .ok (.bipush 28, 2) := by decide +kernel
theorem d_Reader_readParts_42 : decode prog_9_method_29_code 42 = .ok (.if_icmp .eq 11, 3) := by decide +kernel
theorem d_Reader_readParts_45 : decode prog_9_method_29_code 45 = .ok (.aload_n 0, 1) := by decide +kernel
theorem d_Reader_readParts_46 : decode prog_9_method_29_code 46 = .ok (.iconst 1, 1) := by decide +kernel
theorem d_Reader_readParts_47 : decode prog_9_method_29_code 47 = .ok (.bipush 46, 2) := by decide +kernel
theorem d_Reader_readParts_49 : decode prog_9_method_29_code 49 = .ok (.invokevirtual 124, 3) := by decide +kernel
theorem d_Reader_readParts_52 : decode prog_9_method_29_code 52 = .ok (.ireturn, 1) := by decide +kernel
theorem d_Reader_readParts_53 : decode prog_9_method_29_code 53 = .ok (.iload_n 3, 1) := by decide +kernel
theorem d_Reader_readParts_54 : decode prog_9_method_29_code 54 = .ok (.iconst 3, 1) := by decide +kernel
theorem d_Reader_readParts_55 : decode prog_9_method_29_code 55 = .ok (.if_icmp .le 5, 3) := by decide +kernel
theorem d_Reader_readParts_58 : decode prog_9_method_29_code 58 = .ok (.iconst 0, 1) := by decide +kernel
theorem d_Reader_readParts_59 : decode prog_9_method_29_code 59 = .ok (.ireturn, 1) := by decide +kernel
theorem d_Reader_readParts_60 : decode prog_9_method_29_code 60 = .ok (.aload_n 0, 1) := by decide +kernel
theorem d_Reader_readParts_61 : decode prog_9_method_29_code 61 = .ok (.getfield 25, 3) := by decide +kernel
theorem d_Reader_readParts_64 : decode prog_9_method_29_code 64 = .ok (.aload_n 0, 1) := by decide +kernel
theorem d_Reader_readParts_65 : decode prog_9_method_29_code 65 = .ok (.getfield 25, 3) := by decide +kernel
theorem d_Reader_readParts_68 : decode prog_9_method_29_code 68 = .ok (.getfield 246, 3) := by decide +kernel
theorem d_Reader_readParts_71 : decode prog_9_method_29_code 71 = .ok (.iload_n 3, 1) := by decide +kernel
theorem d_Reader_readParts_72 : decode prog_9_method_29_code 72 = .ok (.invokestatic 93, 3) := by decide +kernel
theorem d_Reader_readParts_75 : decode prog_9_method_29_code 75 = .ok (.putfield 246, 3) := by decide +kernel
theorem d_Reader_readParts_78 : decode prog_9_method_29_code 78 = .ok (.aload_n 0, 1) := by decide +kernel
theorem d_Reader_readParts_79 : decode prog_9_method_29_code 79 = .ok (.getfield 18, 3) := by decide +kernel
theorem d_Reader_readParts_82 : decode prog_9_method_29_code 82 = .ok (.bipush 29, 2) := by decide +kernel
theorem d_Reader_readParts_84 : decode prog_9_method_29_code 84 = .ok (.iload_n 3, 1) := by decide +kernel
theorem d_Reader_readParts_85 : decode prog_9_method_29_code 85 = .ok (.invokevirtual 139, 3) := by decide +kernel
theorem d_Reader_readParts_88 : decode prog_9_method_29_code 88 = .ok (.iconst 1, 1) := by decide +kernel
theorem d_Reader_readParts_89 : decode prog_9_method_29_code 89 = .ok (.iload_n 3, 1) := by decide +kernel
theorem d_Reader_readParts_90 : decode prog_9_method_29_code 90 = .ok (.iadd, 1) := by decide +kernel
theorem d_Reader_readParts_91 : decode prog_9_method_29_code 91 = .ok (.ireturn, 1) := by decide +kernel
set_option maxHeartbeats 4000000 in
set_option maxRecDepth 100000 in
theorem b_Reader_readParts_52 {h0 : Nat} {h1 : Nat} {a1_0 : Nat} {h2 : Nat} {h3 : Nat} {cA3 : ClassId} {h4 : Nat} {cA4 : ClassId} {h5 : Nat} {cA5 : ClassId} {I0 : Nat → Int32} {I1 : Nat → Int32} {I2 : Nat → Int32} {n3 : Nat} {f3 : Nat → Int32} {n4 : Nat} {f4 : Nat → Int32} {n5 : Nat} {f5 : Nat → Int32} {s0 : Int32}  {Z : Int32 → (Nat → Int32) × (Nat → Int32) × (Nat → Int32) × (Nat → Int32) → Prop} {H : Heap} {locs : List Loc} {ls : Array Slot} (hc : zC p s m args meth c prog_9_method_29_code (some .int) 4 "NumberDress$Reader") (hA : ∀ q : Nat, s.heap.size ≤ q → A q) (hE : zE gE A s) (hl : lv_has ls 4 []) (hK : va_K (dC, dI) zCl [(cA3, .int), (cA4, .char), (cA5, .int)] s) (hP : va_P (dC, dI) zCl [(h0, .inr (8, o_Reader I0 h4 h1 h2)), (h1, .inr (1, o_Code I1 a1_0 h3 h5)), (h2, .inr (9, o_Section I2)), (h3, .inl (cA3, n3, .inl f3)), (h4, .inl (cA4, n4, .inl f4)), (h5, .inl (cA5, n5, .inl f5))] H) (hD : va_D A [(h0, .inr (8, o_Reader I0 h4 h1 h2)), (h1, .inr (1, o_Code I1 a1_0 h3 h5)), (h2, .inr (9, o_Section I2)), (h3, .inl (cA3, n3, .inl f3)), (h4, .inl (cA4, n4, .inl f4)), (h5, .inl (cA5, n5, .inl f5))]) (hS : va_S A s.heap H locs) (hv : v_Reader_readParts_52 I0 I1 I2 n3 f3 n4 f4 n5 f5 s0  Z) : W p l e (headSpec (Cond.code (⟨"NumberDress$Reader", "readParts", "(I)I"⟩ : MethodName) prog_9_method_29_code 4 (some .int) :: zT) { frames := 2, cells := 0, slots := 0, locals := 44 }).room s m args below meth c H locs 0 0 (MQ below (va_Qi Z (zB (dC, dI) zCl [(cA3, .int), (cA4, .char), (cA5, .int)] A (fun u : (Nat → Int32) × (Nat → Int32) × (Nat → Int32) × (Nat → Int32) => [(h0, .inr (8, o_Reader I0 h4 h1 h2)), (h1, .inr (1, o_Code u.1 a1_0 h3 h5)), (h2, .inr (9, o_Section u.2.1)), (h3, .inl (cA3, n3, .inl u.2.2.1)), (h4, .inl (cA4, n4, .inl f4)), (h5, .inl (cA5, n5, .inl u.2.2.2))])) A) args s 0 0 A) (F0 m 52 ls [.int s0]) := by
  obtain ⟨hx, hb, hr, hml, hown, ht, hlocks⟩ := id hc
  unfold v_Reader_readParts_52 at hv
  exact W.iret (v := s0) hx hb hr (fun t ht hW => ⟨⟨_, (I1, I2, f3, f5), rfl, hv, ⟨by rw [ht]; exact hP, va_K.moved hW.alike hK, hD⟩⟩, hS.F ht⟩) hS.2.2 d_Reader_readParts_52
set_option maxHeartbeats 4000000 in
set_option maxRecDepth 100000 in
theorem b_Reader_readParts_45 {h0 : Nat} {h1 : Nat} {a1_0 : Nat} {h2 : Nat} {h3 : Nat} {cA3 : ClassId} {h4 : Nat} {cA4 : ClassId} {h5 : Nat} {cA5 : ClassId} {I0 : Nat → Int32} {I1 : Nat → Int32} {I2 : Nat → Int32} {n3 : Nat} {f3 : Nat → Int32} {n4 : Nat} {f4 : Nat → Int32} {n5 : Nat} {f5 : Nat → Int32}  {Z : Int32 → (Nat → Int32) × (Nat → Int32) × (Nat → Int32) × (Nat → Int32) → Prop} {H : Heap} {locs : List Loc} {ls : Array Slot} (hc : zC p s m args meth c prog_9_method_29_code (some .int) 4 "NumberDress$Reader") (hA : ∀ q : Nat, s.heap.size ≤ q → A q) (hE : zE gE A s) (hl : lv_has ls 4 [(0, .ref h0)]) (hK : va_K (dC, dI) zCl [(cA3, .int), (cA4, .char), (cA5, .int)] s) (hP : va_P (dC, dI) zCl [(h0, .inr (8, o_Reader I0 h4 h1 h2)), (h1, .inr (1, o_Code I1 a1_0 h3 h5)), (h2, .inr (9, o_Section I2)), (h3, .inl (cA3, n3, .inl f3)), (h4, .inl (cA4, n4, .inl f4)), (h5, .inl (cA5, n5, .inl f5))] H) (hD : va_D A [(h0, .inr (8, o_Reader I0 h4 h1 h2)), (h1, .inr (1, o_Code I1 a1_0 h3 h5)), (h2, .inr (9, o_Section I2)), (h3, .inl (cA3, n3, .inl f3)), (h4, .inl (cA4, n4, .inl f4)), (h5, .inl (cA5, n5, .inl f5))]) (hS : va_S A s.heap H locs) (hv : v_Reader_readParts_45 I0 I1 I2 n3 f3 n4 f4 n5 f5  Z) : W p l e (headSpec (Cond.code (⟨"NumberDress$Reader", "readParts", "(I)I"⟩ : MethodName) prog_9_method_29_code 4 (some .int) :: zT) { frames := 2, cells := 0, slots := 0, locals := 44 }).room s m args below meth c H locs 0 0 (MQ below (va_Qi Z (zB (dC, dI) zCl [(cA3, .int), (cA4, .char), (cA5, .int)] A (fun u : (Nat → Int32) × (Nat → Int32) × (Nat → Int32) × (Nat → Int32) => [(h0, .inr (8, o_Reader I0 h4 h1 h2)), (h1, .inr (1, o_Code u.1 a1_0 h3 h5)), (h2, .inr (9, o_Section u.2.1)), (h3, .inl (cA3, n3, .inl u.2.2.1)), (h4, .inl (cA4, n4, .inl f4)), (h5, .inl (cA5, n5, .inl u.2.2.2))])) A) args s 0 0 A) (F0 m 45 ls []) := by
  obtain ⟨hx, hb, hr, hml, hown, ht, hlocks⟩ := id hc
  unfold v_Reader_readParts_45 at hv
  refine lv_aload_n hx hb d_Reader_readParts_45 rfl (lv_at hl 0 rfl) ?_
  refine lv_iconst (v := (1 : Int32)) hx hb d_Reader_readParts_46 (by decide) ?_
  refine lv_bipush (v := (46 : Int32)) hx hb d_Reader_readParts_47 (by decide) ?_
  refine z_calli (wc := [(h0, .inr (8, o_Reader I0 h4 h1 h2)), (h1, .inr (1, o_Code I1 a1_0 h3 h5)), (h3, .inl (cA3, n3, .inl f3)), (h5, .inl (cA5, n5, .inl f5))]) (wr := [(h2, .inr (9, o_Section I2)), (h4, .inl (cA4, n4, .inl f4))]) [0, 1, 3, 5] [2, 4] (va_runV (As := [.int (1 : Int32), .int (46 : Int32)]) (rest := []) ⟨hx, hb, hml, hown, ht⟩ (m_Reader_addOne l dC dI hv) ⟨(callB_of 2 ht (zG_in zi_Reader_addOne) rfl rfl rfl (ht _ zw_113) (ht _ zw_722) zh_Reader_addOne ⟨Nat.le_of_ble_eq_true rfl, Nat.le_of_ble_eq_true rfl⟩), (ht _ zw_724), (ht _ zw_17)⟩ ⟨zPc_blind, va_recv hK hP (ci := 8) (q0 := 0) rfl rfl, zPc_pre hP hK hD hS hA hE [0, 1, 3, 5] [0, 2] rfl rfl (by decide) rfl⟩ rfl rfl hl.1 rfl (lv_room (Nat.le_of_ble_eq_true rfl)) d_Reader_readParts_49 ⟨Nat.le_of_ble_eq_true rfl, Nat.le_of_ble_eq_true rfl⟩) hP hD hS hA rfl rfl (by decide) (by decide) (fun r u H locs hv hP hD hS => ?_)
  have hP : va_P (dC, dI) zCl [(h0, .inr (8, o_Reader I0 h4 h1 h2)), (h1, .inr (1, o_Code u.1 a1_0 h3 h5)), (h2, .inr (9, o_Section I2)), (h3, .inl (cA3, n3, .inl u.2.1)), (h4, .inl (cA4, n4, .inl f4)), (h5, .inl (cA5, n5, .inl u.2.2))] H := hP.sub [2, 3, 0, 4, 1, 5] rfl
  have hD : va_D A [(h0, .inr (8, o_Reader I0 h4 h1 h2)), (h1, .inr (1, o_Code u.1 a1_0 h3 h5)), (h2, .inr (9, o_Section I2)), (h3, .inl (cA3, n3, .inl u.2.1)), (h4, .inl (cA4, n4, .inl f4)), (h5, .inl (cA5, n5, .inl u.2.2))] := hD.sub [2, 3, 0, 4, 1, 5] (by decide) rfl
  exact b_Reader_readParts_52 hc hA hE  (lv_sub hl [] rfl) hK hP hD hS hv
set_option maxHeartbeats 4000000 in
set_option maxRecDepth 100000 in
theorem b_Reader_readParts_88 {h0 : Nat} {h1 : Nat} {a1_0 : Nat} {h2 : Nat} {h3 : Nat} {cA3 : ClassId} {h4 : Nat} {cA4 : ClassId} {h5 : Nat} {cA5 : ClassId} {I0 : Nat → Int32} {I1 : Nat → Int32} {I2 : Nat → Int32} {n3 : Nat} {f3 : Nat → Int32} {n4 : Nat} {f4 : Nat → Int32} {n5 : Nat} {f5 : Nat → Int32} {x3 : Int32}  {Z : Int32 → (Nat → Int32) × (Nat → Int32) × (Nat → Int32) × (Nat → Int32) → Prop} {H : Heap} {locs : List Loc} {ls : Array Slot} (hc : zC p s m args meth c prog_9_method_29_code (some .int) 4 "NumberDress$Reader") (hA : ∀ q : Nat, s.heap.size ≤ q → A q) (hE : zE gE A s) (hl : lv_has ls 4 [(3, .int x3)]) (hK : va_K (dC, dI) zCl [(cA3, .int), (cA4, .char), (cA5, .int)] s) (hP : va_P (dC, dI) zCl [(h0, .inr (8, o_Reader I0 h4 h1 h2)), (h1, .inr (1, o_Code I1 a1_0 h3 h5)), (h2, .inr (9, o_Section I2)), (h3, .inl (cA3, n3, .inl f3)), (h4, .inl (cA4, n4, .inl f4)), (h5, .inl (cA5, n5, .inl f5))] H) (hD : va_D A [(h0, .inr (8, o_Reader I0 h4 h1 h2)), (h1, .inr (1, o_Code I1 a1_0 h3 h5)), (h2, .inr (9, o_Section I2)), (h3, .inl (cA3, n3, .inl f3)), (h4, .inl (cA4, n4, .inl f4)), (h5, .inl (cA5, n5, .inl f5))]) (hS : va_S A s.heap H locs) (hv : v_Reader_readParts_88 I0 I1 I2 n3 f3 n4 f4 n5 f5 x3  Z) : W p l e (headSpec (Cond.code (⟨"NumberDress$Reader", "readParts", "(I)I"⟩ : MethodName) prog_9_method_29_code 4 (some .int) :: zT) { frames := 2, cells := 0, slots := 0, locals := 44 }).room s m args below meth c H locs 0 0 (MQ below (va_Qi Z (zB (dC, dI) zCl [(cA3, .int), (cA4, .char), (cA5, .int)] A (fun u : (Nat → Int32) × (Nat → Int32) × (Nat → Int32) × (Nat → Int32) => [(h0, .inr (8, o_Reader I0 h4 h1 h2)), (h1, .inr (1, o_Code u.1 a1_0 h3 h5)), (h2, .inr (9, o_Section u.2.1)), (h3, .inl (cA3, n3, .inl u.2.2.1)), (h4, .inl (cA4, n4, .inl f4)), (h5, .inl (cA5, n5, .inl u.2.2.2))])) A) args s 0 0 A) (F0 m 88 ls []) := by
  obtain ⟨hx, hb, hr, hml, hown, ht, hlocks⟩ := id hc
  unfold v_Reader_readParts_88 at hv
  refine lv_iconst (v := (1 : Int32)) hx hb d_Reader_readParts_88 (by decide) ?_
  refine lv_iload_n hx hb d_Reader_readParts_89 rfl (lv_at hl 0 rfl) ?_
  refine lv_iadd hx hb d_Reader_readParts_90 ?_
  exact W.iret (v := ((1 : Int32) + x3)) hx hb hr (fun t ht hW => ⟨⟨_, (I1, I2, f3, f5), rfl, hv, ⟨by rw [ht]; exact hP, va_K.moved hW.alike hK, hD⟩⟩, hS.F ht⟩) hS.2.2 d_Reader_readParts_91
set_option maxHeartbeats 4000000 in
set_option maxRecDepth 100000 in
theorem b_Reader_readParts_53 {h0 : Nat} {h1 : Nat} {a1_0 : Nat} {h2 : Nat} {h3 : Nat} {cA3 : ClassId} {h4 : Nat} {cA4 : ClassId} {h5 : Nat} {cA5 : ClassId} {I0 : Nat → Int32} {I1 : Nat → Int32} {I2 : Nat → Int32} {n3 : Nat} {f3 : Nat → Int32} {n4 : Nat} {f4 : Nat → Int32} {n5 : Nat} {f5 : Nat → Int32} {x3 : Int32}  {Z : Int32 → (Nat → Int32) × (Nat → Int32) × (Nat → Int32) × (Nat → Int32) → Prop} {H : Heap} {locs : List Loc} {ls : Array Slot} (hc : zC p s m args meth c prog_9_method_29_code (some .int) 4 "NumberDress$Reader") (hA : ∀ q : Nat, s.heap.size ≤ q → A q) (hE : zE gE A s) (hl : lv_has ls 4 [(0, .ref h0), (3, .int x3)]) (hK : va_K (dC, dI) zCl [(cA3, .int), (cA4, .char), (cA5, .int)] s) (hP : va_P (dC, dI) zCl [(h0, .inr (8, o_Reader I0 h4 h1 h2)), (h1, .inr (1, o_Code I1 a1_0 h3 h5)), (h2, .inr (9, o_Section I2)), (h3, .inl (cA3, n3, .inl f3)), (h4, .inl (cA4, n4, .inl f4)), (h5, .inl (cA5, n5, .inl f5))] H) (hD : va_D A [(h0, .inr (8, o_Reader I0 h4 h1 h2)), (h1, .inr (1, o_Code I1 a1_0 h3 h5)), (h2, .inr (9, o_Section I2)), (h3, .inl (cA3, n3, .inl f3)), (h4, .inl (cA4, n4, .inl f4)), (h5, .inl (cA5, n5, .inl f5))]) (hS : va_S A s.heap H locs) (hv : v_Reader_readParts_53 I0 I1 I2 n3 f3 n4 f4 n5 f5 x3  Z) : W p l e (headSpec (Cond.code (⟨"NumberDress$Reader", "readParts", "(I)I"⟩ : MethodName) prog_9_method_29_code 4 (some .int) :: zT) { frames := 2, cells := 0, slots := 0, locals := 44 }).room s m args below meth c H locs 0 0 (MQ below (va_Qi Z (zB (dC, dI) zCl [(cA3, .int), (cA4, .char), (cA5, .int)] A (fun u : (Nat → Int32) × (Nat → Int32) × (Nat → Int32) × (Nat → Int32) => [(h0, .inr (8, o_Reader I0 h4 h1 h2)), (h1, .inr (1, o_Code u.1 a1_0 h3 h5)), (h2, .inr (9, o_Section u.2.1)), (h3, .inl (cA3, n3, .inl u.2.2.1)), (h4, .inl (cA4, n4, .inl f4)), (h5, .inl (cA5, n5, .inl u.2.2.2))])) A) args s 0 0 A) (F0 m 53 ls []) := by
  obtain ⟨hx, hb, hr, hml, hown, ht, hlocks⟩ := id hc
  unfold v_Reader_readParts_53 at hv
  refine lv_iload_n hx hb d_Reader_readParts_53 rfl (lv_at hl 1 rfl) ?_
  refine lv_iconst (v := (3 : Int32)) hx hb d_Reader_readParts_54 (by decide) ?_
  refine lv_icmp_le (tgt := 60) hx hb d_Reader_readParts_55 (by decide) (fun c_1 => ?_) (fun c_1 => ?_)
  · have hv := hv.1 c_1
    refine lv_aload_n hx hb d_Reader_readParts_60 rfl (lv_at hl 0 rfl) ?_
    refine va_get (D := (dC, dI)) (ci := 8) (v := .ref h2) (C := "NumberDress$Reader") (T := T_Reader) (N := 5) hx hb ht zin_Reader hown hK hP 0 rfl rfl 3 (by decide) (ht _ zw_274) (fun _ h9 => h9) rfl d_Reader_readParts_61 ?_
    refine lv_aload_n hx hb d_Reader_readParts_64 rfl (lv_at hl 0 rfl) ?_
    refine va_get (D := (dC, dI)) (ci := 8) (v := .ref h2) (C := "NumberDress$Reader") (T := T_Reader) (N := 5) hx hb ht zin_Reader hown hK hP 0 rfl rfl 3 (by decide) (ht _ zw_274) (fun _ h9 => h9) rfl d_Reader_readParts_65 ?_
    refine va_get (D := (dC, dI)) (ci := 9) (v := .int (I2 13)) (C := "NumberDress$Section") (T := T_Section) (N := 15) hx hb ht zin_Section hown hK hP 2 rfl rfl 13 (by decide) (ht _ zw_206) (fun _ h9 => h9) rfl d_Reader_readParts_68 ?_
    refine lv_iload_n hx hb d_Reader_readParts_71 rfl (lv_at hl 1 rfl) ?_
    refine z_mmax hx hb (hml.trans hl.1.symm) hown (ht _ zw_656) (ht _ zw_615) (ht _ zw_128) (ht _ zw_616) (Nat.le_of_ble_eq_true rfl) (Nat.le_of_ble_eq_true rfl) (Nat.zero_le _) (Nat.zero_le _) d_Reader_readParts_72 ?_
    refine va_put (D := (dC, dI)) (ci := 9) (v := .int (zmax (I2 13) x3)) (ty := .int) (C := "NumberDress$Section") (T := T_Section) (N := 15) hx hb ht zin_Section ty_Section tyok_Section nm_Section hown hK hP hD hS 2 rfl rfl 13 (by decide) (ht _ zw_206) (fun _ h9 => h9) rfl (by decide +kernel) rfl rfl (Nat.le_of_ble_eq_true rfl) d_Reader_readParts_75 (fun H locs hP hD hS => ?_)
    have hP : va_P (dC, dI) zCl [(h0, .inr (8, o_Reader I0 h4 h1 h2)), (h1, .inr (1, o_Code I1 a1_0 h3 h5)), (h2, .inr (9, o_Section (zu I2 13 (zmax (I2 13) x3)))), (h3, .inl (cA3, n3, .inl f3)), (h4, .inl (cA4, n4, .inl f4)), (h5, .inl (cA5, n5, .inl f5))] H := hP
    have hD : va_D A [(h0, .inr (8, o_Reader I0 h4 h1 h2)), (h1, .inr (1, o_Code I1 a1_0 h3 h5)), (h2, .inr (9, o_Section (zu I2 13 (zmax (I2 13) x3)))), (h3, .inl (cA3, n3, .inl f3)), (h4, .inl (cA4, n4, .inl f4)), (h5, .inl (cA5, n5, .inl f5))] := hD
    refine lv_aload_n hx hb d_Reader_readParts_78 rfl (lv_at hl 0 rfl) ?_
    refine va_get (D := (dC, dI)) (ci := 8) (v := .ref h1) (C := "NumberDress$Reader") (T := T_Reader) (N := 5) hx hb ht zin_Reader hown hK hP 0 rfl rfl 2 (by decide) (ht _ zw_273) (fun _ h9 => h9) rfl d_Reader_readParts_79 ?_
    refine lv_bipush (v := (29 : Int32)) hx hb d_Reader_readParts_82 (by decide) ?_
    refine lv_iload_n hx hb d_Reader_readParts_84 rfl (lv_at hl 1 rfl) ?_
    refine z_callv (wc := [(h1, .inr (1, o_Code I1 a1_0 h3 h5)), (h3, .inl (cA3, n3, .inl f3)), (h5, .inl (cA5, n5, .inl f5))]) (wr := [(h0, .inr (8, o_Reader I0 h4 h1 h2)), (h2, .inr (9, o_Section (zu I2 13 (zmax (I2 13) x3)))), (h4, .inl (cA4, n4, .inl f4))]) [1, 3, 5] [0, 2, 4] (va_runV (As := [.int (29 : Int32), .int x3]) (rest := []) ⟨hx, hb, hml, hown, ht⟩ (m_Code_add l dC dI hv) ⟨(callB_of 2 ht (zG_in zi_Code_add) rfl rfl rfl (ht _ zw_111) (ht _ zw_710) zh_Code_add ⟨Nat.le_of_ble_eq_true rfl, Nat.le_of_ble_eq_true rfl⟩), (ht _ zw_711), (ht _ zw_712)⟩ ⟨zPc_blind, va_recv hK hP (ci := 1) (q0 := 1) rfl rfl, zPc_pre hP hK hD hS hA hE [1, 3, 5] [0, 2] rfl rfl (by decide) rfl⟩ rfl rfl hl.1 rfl (lv_room (Nat.le_of_ble_eq_true rfl)) d_Reader_readParts_85 ⟨Nat.le_of_ble_eq_true rfl, Nat.le_of_ble_eq_true rfl⟩) hP hD hS hA rfl rfl (by decide) (by decide) (fun u H locs hv hP hD hS => ?_)
    have hP : va_P (dC, dI) zCl [(h0, .inr (8, o_Reader I0 h4 h1 h2)), (h1, .inr (1, o_Code u.1 a1_0 h3 h5)), (h2, .inr (9, o_Section (zu I2 13 (zmax (I2 13) x3)))), (h3, .inl (cA3, n3, .inl u.2.1)), (h4, .inl (cA4, n4, .inl f4)), (h5, .inl (cA5, n5, .inl u.2.2))] H := hP.sub [0, 3, 1, 4, 2, 5] rfl
    have hD : va_D A [(h0, .inr (8, o_Reader I0 h4 h1 h2)), (h1, .inr (1, o_Code u.1 a1_0 h3 h5)), (h2, .inr (9, o_Section (zu I2 13 (zmax (I2 13) x3)))), (h3, .inl (cA3, n3, .inl u.2.1)), (h4, .inl (cA4, n4, .inl f4)), (h5, .inl (cA5, n5, .inl u.2.2))] := hD.sub [0, 3, 1, 4, 2, 5] (by decide) rfl
    exact b_Reader_readParts_88 hc hA hE  (lv_sub hl [1] rfl) hK hP hD hS hv
  · have hv := hv.2 c_1
    refine lv_iconst (v := (0 : Int32)) hx hb d_Reader_readParts_58 (by decide) ?_
    exact W.iret (v := (0 : Int32)) hx hb hr (fun t ht hW => ⟨⟨_, (I1, I2, f3, f5), rfl, hv, ⟨by rw [ht]; exact hP, va_K.moved hW.alike hK, hD⟩⟩, hS.F ht⟩) hS.2.2 d_Reader_readParts_59
set_option maxHeartbeats 4000000 in
set_option maxRecDepth 100000 in
theorem b_Reader_readParts_28 {h0 : Nat} {h1 : Nat} {a1_0 : Nat} {h2 : Nat} {h3 : Nat} {cA3 : ClassId} {h4 : Nat} {cA4 : ClassId} {h5 : Nat} {cA5 : ClassId} {I0 : Nat → Int32} {I1 : Nat → Int32} {I2 : Nat → Int32} {n3 : Nat} {f3 : Nat → Int32} {n4 : Nat} {f4 : Nat → Int32} {n5 : Nat} {f5 : Nat → Int32} {x2 : Int32} {s0 : Int32}  {Z : Int32 → (Nat → Int32) × (Nat → Int32) × (Nat → Int32) × (Nat → Int32) → Prop} {H : Heap} {locs : List Loc} {ls : Array Slot} (hc : zC p s m args meth c prog_9_method_29_code (some .int) 4 "NumberDress$Reader") (hA : ∀ q : Nat, s.heap.size ≤ q → A q) (hE : zE gE A s) (hl : lv_has ls 4 [(0, .ref h0), (2, .int x2)]) (hK : va_K (dC, dI) zCl [(cA3, .int), (cA4, .char), (cA5, .int)] s) (hP : va_P (dC, dI) zCl [(h0, .inr (8, o_Reader I0 h4 h1 h2)), (h1, .inr (1, o_Code I1 a1_0 h3 h5)), (h2, .inr (9, o_Section I2)), (h3, .inl (cA3, n3, .inl f3)), (h4, .inl (cA4, n4, .inl f4)), (h5, .inl (cA5, n5, .inl f5))] H) (hD : va_D A [(h0, .inr (8, o_Reader I0 h4 h1 h2)), (h1, .inr (1, o_Code I1 a1_0 h3 h5)), (h2, .inr (9, o_Section I2)), (h3, .inl (cA3, n3, .inl f3)), (h4, .inl (cA4, n4, .inl f4)), (h5, .inl (cA5, n5, .inl f5))]) (hS : va_S A s.heap H locs) (hv : v_Reader_readParts_28 I0 I1 I2 n3 f3 n4 f4 n5 f5 x2 s0  Z) : W p l e (headSpec (Cond.code (⟨"NumberDress$Reader", "readParts", "(I)I"⟩ : MethodName) prog_9_method_29_code 4 (some .int) :: zT) { frames := 2, cells := 0, slots := 0, locals := 44 }).room s m args below meth c H locs 0 0 (MQ below (va_Qi Z (zB (dC, dI) zCl [(cA3, .int), (cA4, .char), (cA5, .int)] A (fun u : (Nat → Int32) × (Nat → Int32) × (Nat → Int32) × (Nat → Int32) => [(h0, .inr (8, o_Reader I0 h4 h1 h2)), (h1, .inr (1, o_Code u.1 a1_0 h3 h5)), (h2, .inr (9, o_Section u.2.1)), (h3, .inl (cA3, n3, .inl u.2.2.1)), (h4, .inl (cA4, n4, .inl f4)), (h5, .inl (cA5, n5, .inl u.2.2.2))])) A) args s 0 0 A) (F0 m 28 ls [.int s0]) := by
  obtain ⟨hx, hb, hr, hml, hown, ht, hlocks⟩ := id hc
  unfold v_Reader_readParts_28 at hv
  refine lv_istore_n (lv' := [(3, .int s0), (0, .ref h0), (2, .int x2)]) hx hb d_Reader_readParts_28 rfl hl (by decide) rfl (fun ls hl => ?_)
  refine lv_iload_n hx hb d_Reader_readParts_29 rfl (lv_at hl 0 rfl) ?_
  refine lv_if_eq (tgt := 45) hx hb d_Reader_readParts_30 (by decide) (fun c_1 => ?_) (fun c_1 => ?_)
  · have hv := hv.1 c_1
    exact b_Reader_readParts_45 hc hA hE  (lv_sub hl [1] rfl) hK hP hD hS hv
  · have hv := hv.2 c_1
    refine lv_iload_n hx hb d_Reader_readParts_33 rfl (lv_at hl 2 rfl) ?_
    refine lv_bipush (v := (25 : Int32)) hx hb d_Reader_readParts_34 (by decide) ?_
    refine lv_icmp_eq (tgt := 53) hx hb d_Reader_readParts_36 (by decide) (fun c_2 => ?_) (fun c_2 => ?_)
    · have hv := hv.1 c_2
      exact b_Reader_readParts_53 hc hA hE  (lv_sub hl [1, 0] rfl) hK hP hD hS hv
    · have hv := hv.2 c_2
      refine lv_iload_n hx hb d_Reader_readParts_39 rfl (lv_at hl 2 rfl) ?_
      refine lv_bipush (v := (28 : Int32)) hx hb d_Reader_readParts_40 (by decide) ?_
      refine lv_icmp_eq (tgt := 53) hx hb d_Reader_readParts_42 (by decide) (fun c_3 => ?_) (fun c_3 => ?_)
      · have hv := hv.1 c_3
        exact b_Reader_readParts_53 hc hA hE  (lv_sub hl [1, 0] rfl) hK hP hD hS hv
      · have hv := hv.2 c_3
        exact b_Reader_readParts_45 hc hA hE  (lv_sub hl [1] rfl) hK hP hD hS hv
set_option maxHeartbeats 4000000 in
set_option maxRecDepth 100000 in
theorem b_Reader_readParts_24 {h0 : Nat} {h1 : Nat} {a1_0 : Nat} {h2 : Nat} {h3 : Nat} {cA3 : ClassId} {h4 : Nat} {cA4 : ClassId} {h5 : Nat} {cA5 : ClassId} {I0 : Nat → Int32} {I1 : Nat → Int32} {I2 : Nat → Int32} {n3 : Nat} {f3 : Nat → Int32} {n4 : Nat} {f4 : Nat → Int32} {n5 : Nat} {f5 : Nat → Int32} {x2 : Int32} {s0 : Int32}  {Z : Int32 → (Nat → Int32) × (Nat → Int32) × (Nat → Int32) × (Nat → Int32) → Prop} {H : Heap} {locs : List Loc} {ls : Array Slot} (hc : zC p s m args meth c prog_9_method_29_code (some .int) 4 "NumberDress$Reader") (hA : ∀ q : Nat, s.heap.size ≤ q → A q) (hE : zE gE A s) (hl : lv_has ls 4 [(0, .ref h0), (2, .int x2)]) (hK : va_K (dC, dI) zCl [(cA3, .int), (cA4, .char), (cA5, .int)] s) (hP : va_P (dC, dI) zCl [(h0, .inr (8, o_Reader I0 h4 h1 h2)), (h1, .inr (1, o_Code I1 a1_0 h3 h5)), (h2, .inr (9, o_Section I2)), (h3, .inl (cA3, n3, .inl f3)), (h4, .inl (cA4, n4, .inl f4)), (h5, .inl (cA5, n5, .inl f5))] H) (hD : va_D A [(h0, .inr (8, o_Reader I0 h4 h1 h2)), (h1, .inr (1, o_Code I1 a1_0 h3 h5)), (h2, .inr (9, o_Section I2)), (h3, .inl (cA3, n3, .inl f3)), (h4, .inl (cA4, n4, .inl f4)), (h5, .inl (cA5, n5, .inl f5))]) (hS : va_S A s.heap H locs) (hv : v_Reader_readParts_24 I0 I1 I2 n3 f3 n4 f4 n5 f5 x2 s0  Z) : W p l e (headSpec (Cond.code (⟨"NumberDress$Reader", "readParts", "(I)I"⟩ : MethodName) prog_9_method_29_code 4 (some .int) :: zT) { frames := 2, cells := 0, slots := 0, locals := 44 }).room s m args below meth c H locs 0 0 (MQ below (va_Qi Z (zB (dC, dI) zCl [(cA3, .int), (cA4, .char), (cA5, .int)] A (fun u : (Nat → Int32) × (Nat → Int32) × (Nat → Int32) × (Nat → Int32) => [(h0, .inr (8, o_Reader I0 h4 h1 h2)), (h1, .inr (1, o_Code u.1 a1_0 h3 h5)), (h2, .inr (9, o_Section u.2.1)), (h3, .inl (cA3, n3, .inl u.2.2.1)), (h4, .inl (cA4, n4, .inl f4)), (h5, .inl (cA5, n5, .inl u.2.2.2))])) A) args s 0 0 A) (F0 m 24 ls [.int s0]) := by
  obtain ⟨hx, hb, hr, hml, hown, ht, hlocks⟩ := id hc
  unfold v_Reader_readParts_24 at hv
  refine lv_goto (tgt := 28) hx hb d_Reader_readParts_24 (by decide) ?_
  exact b_Reader_readParts_28 hc hA hE  (lv_sub hl [0, 1] rfl) hK hP hD hS hv
set_option maxHeartbeats 4000000 in
set_option maxRecDepth 100000 in
theorem b_Reader_readParts_12 {h0 : Nat} {h1 : Nat} {a1_0 : Nat} {h2 : Nat} {h3 : Nat} {cA3 : ClassId} {h4 : Nat} {cA4 : ClassId} {h5 : Nat} {cA5 : ClassId} {I0 : Nat → Int32} {I1 : Nat → Int32} {I2 : Nat → Int32} {n3 : Nat} {f3 : Nat → Int32} {n4 : Nat} {f4 : Nat → Int32} {n5 : Nat} {f5 : Nat → Int32} {x1 : Int32} {x2 : Int32} {s0 : Int32}  {Z : Int32 → (Nat → Int32) × (Nat → Int32) × (Nat → Int32) × (Nat → Int32) → Prop} {H : Heap} {locs : List Loc} {ls : Array Slot} (hc : zC p s m args meth c prog_9_method_29_code (some .int) 4 "NumberDress$Reader") (hA : ∀ q : Nat, s.heap.size ≤ q → A q) (hE : zE gE A s) (hl : lv_has ls 4 [(0, .ref h0), (1, .int x1), (2, .int x2)]) (hK : va_K (dC, dI) zCl [(cA3, .int), (cA4, .char), (cA5, .int)] s) (hP : va_P (dC, dI) zCl [(h0, .inr (8, o_Reader I0 h4 h1 h2)), (h1, .inr (1, o_Code I1 a1_0 h3 h5)), (h2, .inr (9, o_Section I2)), (h3, .inl (cA3, n3, .inl f3)), (h4, .inl (cA4, n4, .inl f4)), (h5, .inl (cA5, n5, .inl f5))] H) (hD : va_D A [(h0, .inr (8, o_Reader I0 h4 h1 h2)), (h1, .inr (1, o_Code I1 a1_0 h3 h5)), (h2, .inr (9, o_Section I2)), (h3, .inl (cA3, n3, .inl f3)), (h4, .inl (cA4, n4, .inl f4)), (h5, .inl (cA5, n5, .inl f5))]) (hS : va_S A s.heap H locs) (hv : v_Reader_readParts_12 I0 I1 I2 n3 f3 n4 f4 n5 f5 x1 x2 s0  Z) : W p l e (headSpec (Cond.code (⟨"NumberDress$Reader", "readParts", "(I)I"⟩ : MethodName) prog_9_method_29_code 4 (some .int) :: zT) { frames := 2, cells := 0, slots := 0, locals := 44 }).room s m args below meth c H locs 0 0 (MQ below (va_Qi Z (zB (dC, dI) zCl [(cA3, .int), (cA4, .char), (cA5, .int)] A (fun u : (Nat → Int32) × (Nat → Int32) × (Nat → Int32) × (Nat → Int32) => [(h0, .inr (8, o_Reader I0 h4 h1 h2)), (h1, .inr (1, o_Code u.1 a1_0 h3 h5)), (h2, .inr (9, o_Section u.2.1)), (h3, .inl (cA3, n3, .inl u.2.2.1)), (h4, .inl (cA4, n4, .inl f4)), (h5, .inl (cA5, n5, .inl u.2.2.2))])) A) args s 0 0 A) (F0 m 12 ls [.int s0]) := by
  obtain ⟨hx, hb, hr, hml, hown, ht, hlocks⟩ := id hc
  unfold v_Reader_readParts_12 at hv
  refine lv_bipush (v := (48 : Int32)) hx hb d_Reader_readParts_12 (by decide) ?_
  refine lv_icmp_ne (tgt := 27) hx hb d_Reader_readParts_14 (by decide) (fun c_1 => ?_) (fun c_1 => ?_)
  · have hv := hv.1 c_1
    refine lv_iconst (v := (0 : Int32)) hx hb d_Reader_readParts_27 (by decide) ?_
    exact b_Reader_readParts_28 hc hA hE  (lv_sub hl [0, 2] rfl) hK hP hD hS hv
  · have hv := hv.2 c_1
    refine lv_aload_n hx hb d_Reader_readParts_17 rfl (lv_at hl 0 rfl) ?_
    refine lv_iload_n hx hb d_Reader_readParts_18 rfl (lv_at hl 1 rfl) ?_
    refine lv_iconst (v := (1 : Int32)) hx hb d_Reader_readParts_19 (by decide) ?_
    refine lv_iadd hx hb d_Reader_readParts_20 ?_
    refine z_calli (wc := [(h0, .inr (8, o_Reader I0 h4 h1 h2)), (h4, .inl (cA4, n4, .inl f4))]) (wr := [(h1, .inr (1, o_Code I1 a1_0 h3 h5)), (h2, .inr (9, o_Section I2)), (h3, .inl (cA3, n3, .inl f3)), (h5, .inl (cA5, n5, .inl f5))]) [0, 4] [1, 2, 3, 5] (va_runV (As := [.int (x1 + (1 : Int32))]) (rest := []) ⟨hx, hb, hml, hown, ht⟩ (m_Reader_rowLength l dC dI hv) ⟨(callB_of 1 ht (zG_in zi_Reader_rowLength) rfl rfl rfl (ht _ zw_113) (ht _ zw_688) zh_Reader_rowLength ⟨Nat.le_of_ble_eq_true rfl, Nat.le_of_ble_eq_true rfl⟩), (ht _ zw_690), (ht _ zw_11)⟩ ⟨zPc_blind, va_recv hK hP (ci := 8) (q0 := 0) rfl rfl, zPc_pre hP hK hD hS hA hE [0, 4] [1] rfl rfl (by decide) rfl⟩ rfl rfl hl.1 rfl (lv_room (Nat.le_of_ble_eq_true rfl)) d_Reader_readParts_21 ⟨Nat.le_of_ble_eq_true rfl, Nat.le_of_ble_eq_true rfl⟩) hP hD hS hA rfl rfl (by decide) (by decide) (fun r u H locs hv hP hD hS => ?_)
    have hP : va_P (dC, dI) zCl [(h0, .inr (8, o_Reader I0 h4 h1 h2)), (h1, .inr (1, o_Code I1 a1_0 h3 h5)), (h2, .inr (9, o_Section I2)), (h3, .inl (cA3, n3, .inl f3)), (h4, .inl (cA4, n4, .inl f4)), (h5, .inl (cA5, n5, .inl f5))] H := hP.sub [4, 0, 1, 2, 5, 3] rfl
    have hD : va_D A [(h0, .inr (8, o_Reader I0 h4 h1 h2)), (h1, .inr (1, o_Code I1 a1_0 h3 h5)), (h2, .inr (9, o_Section I2)), (h3, .inl (cA3, n3, .inl f3)), (h4, .inl (cA4, n4, .inl f4)), (h5, .inl (cA5, n5, .inl f5))] := hD.sub [4, 0, 1, 2, 5, 3] (by decide) rfl
    exact b_Reader_readParts_24 hc hA hE  (lv_sub hl [0, 2] rfl) hK hP hD hS hv
set_option maxHeartbeats 4000000 in
set_option maxRecDepth 100000 in
theorem b_Reader_readParts_4 {h0 : Nat} {h1 : Nat} {a1_0 : Nat} {h2 : Nat} {h3 : Nat} {cA3 : ClassId} {h4 : Nat} {cA4 : ClassId} {h5 : Nat} {cA5 : ClassId} {I0 : Nat → Int32} {I1 : Nat → Int32} {I2 : Nat → Int32} {n3 : Nat} {f3 : Nat → Int32} {n4 : Nat} {f4 : Nat → Int32} {n5 : Nat} {f5 : Nat → Int32} {x1 : Int32} {s0 : Int32}  {Z : Int32 → (Nat → Int32) × (Nat → Int32) × (Nat → Int32) × (Nat → Int32) → Prop} {H : Heap} {locs : List Loc} {ls : Array Slot} (hc : zC p s m args meth c prog_9_method_29_code (some .int) 4 "NumberDress$Reader") (hA : ∀ q : Nat, s.heap.size ≤ q → A q) (hE : zE gE A s) (hl : lv_has ls 4 [(0, .ref h0), (1, .int x1)]) (hK : va_K (dC, dI) zCl [(cA3, .int), (cA4, .char), (cA5, .int)] s) (hP : va_P (dC, dI) zCl [(h0, .inr (8, o_Reader I0 h4 h1 h2)), (h1, .inr (1, o_Code I1 a1_0 h3 h5)), (h2, .inr (9, o_Section I2)), (h3, .inl (cA3, n3, .inl f3)), (h4, .inl (cA4, n4, .inl f4)), (h5, .inl (cA5, n5, .inl f5))] H) (hD : va_D A [(h0, .inr (8, o_Reader I0 h4 h1 h2)), (h1, .inr (1, o_Code I1 a1_0 h3 h5)), (h2, .inr (9, o_Section I2)), (h3, .inl (cA3, n3, .inl f3)), (h4, .inl (cA4, n4, .inl f4)), (h5, .inl (cA5, n5, .inl f5))]) (hS : va_S A s.heap H locs) (hv : v_Reader_readParts_4 I0 I1 I2 n3 f3 n4 f4 n5 f5 x1 s0  Z) : W p l e (headSpec (Cond.code (⟨"NumberDress$Reader", "readParts", "(I)I"⟩ : MethodName) prog_9_method_29_code 4 (some .int) :: zT) { frames := 2, cells := 0, slots := 0, locals := 44 }).room s m args below meth c H locs 0 0 (MQ below (va_Qi Z (zB (dC, dI) zCl [(cA3, .int), (cA4, .char), (cA5, .int)] A (fun u : (Nat → Int32) × (Nat → Int32) × (Nat → Int32) × (Nat → Int32) => [(h0, .inr (8, o_Reader I0 h4 h1 h2)), (h1, .inr (1, o_Code u.1 a1_0 h3 h5)), (h2, .inr (9, o_Section u.2.1)), (h3, .inl (cA3, n3, .inl u.2.2.1)), (h4, .inl (cA4, n4, .inl f4)), (h5, .inl (cA5, n5, .inl u.2.2.2))])) A) args s 0 0 A) (F0 m 4 ls [.int s0]) := by
  obtain ⟨hx, hb, hr, hml, hown, ht, hlocks⟩ := id hc
  unfold v_Reader_readParts_4 at hv
  refine lv_istore_n (lv' := [(2, .int s0), (0, .ref h0), (1, .int x1)]) hx hb d_Reader_readParts_4 rfl hl (by decide) rfl (fun ls hl => ?_)
  refine lv_aload_n hx hb d_Reader_readParts_5 rfl (lv_at hl 1 rfl) ?_
  refine lv_iload_n hx hb d_Reader_readParts_6 rfl (lv_at hl 2 rfl) ?_
  refine lv_iconst (v := (1 : Int32)) hx hb d_Reader_readParts_7 (by decide) ?_
  refine lv_iadd hx hb d_Reader_readParts_8 ?_
  refine z_calli (wc := [(h0, .inr (8, o_Reader I0 h4 h1 h2)), (h4, .inl (cA4, n4, .inl f4))]) (wr := [(h1, .inr (1, o_Code I1 a1_0 h3 h5)), (h2, .inr (9, o_Section I2)), (h3, .inl (cA3, n3, .inl f3)), (h5, .inl (cA5, n5, .inl f5))]) [0, 4] [1, 2, 3, 5] (va_runV (As := [.int (x1 + (1 : Int32))]) (rest := []) ⟨hx, hb, hml, hown, ht⟩ (m_Reader_sign l dC dI hv) ⟨(callB_of 1 ht (zG_in zi_Reader_sign) rfl rfl rfl (ht _ zw_113) (ht _ zw_512) zh_Reader_sign ⟨Nat.le_of_ble_eq_true rfl, Nat.le_of_ble_eq_true rfl⟩), (ht _ zw_514), (ht _ zw_1)⟩ ⟨zPc_blind, va_recv hK hP (ci := 8) (q0 := 0) rfl rfl, zPc_pre hP hK hD hS hA hE [0, 4] [1] rfl rfl (by decide) rfl⟩ rfl rfl hl.1 rfl (lv_room (Nat.le_of_ble_eq_true rfl)) d_Reader_readParts_9 ⟨Nat.le_of_ble_eq_true rfl, Nat.le_of_ble_eq_true rfl⟩) hP hD hS hA rfl rfl (by decide) (by decide) (fun r u H locs hv hP hD hS => ?_)
  have hP : va_P (dC, dI) zCl [(h0, .inr (8, o_Reader I0 h4 h1 h2)), (h1, .inr (1, o_Code I1 a1_0 h3 h5)), (h2, .inr (9, o_Section I2)), (h3, .inl (cA3, n3, .inl f3)), (h4, .inl (cA4, n4, .inl f4)), (h5, .inl (cA5, n5, .inl f5))] H := hP.sub [4, 0, 1, 2, 5, 3] rfl
  have hD : va_D A [(h0, .inr (8, o_Reader I0 h4 h1 h2)), (h1, .inr (1, o_Code I1 a1_0 h3 h5)), (h2, .inr (9, o_Section I2)), (h3, .inl (cA3, n3, .inl f3)), (h4, .inl (cA4, n4, .inl f4)), (h5, .inl (cA5, n5, .inl f5))] := hD.sub [4, 0, 1, 2, 5, 3] (by decide) rfl
  exact b_Reader_readParts_12 hc hA hE  (lv_sub hl [1, 2, 0] rfl) hK hP hD hS hv
set_option maxHeartbeats 4000000 in
set_option maxRecDepth 100000 in
theorem b_Reader_readParts_0 {h0 : Nat} {h1 : Nat} {a1_0 : Nat} {h2 : Nat} {h3 : Nat} {cA3 : ClassId} {h4 : Nat} {cA4 : ClassId} {h5 : Nat} {cA5 : ClassId} {I0 : Nat → Int32} {I1 : Nat → Int32} {I2 : Nat → Int32} {n3 : Nat} {f3 : Nat → Int32} {n4 : Nat} {f4 : Nat → Int32} {n5 : Nat} {f5 : Nat → Int32} {x1 : Int32}  {Z : Int32 → (Nat → Int32) × (Nat → Int32) × (Nat → Int32) × (Nat → Int32) → Prop} {H : Heap} {locs : List Loc} {ls : Array Slot} (hc : zC p s m args meth c prog_9_method_29_code (some .int) 4 "NumberDress$Reader") (hA : ∀ q : Nat, s.heap.size ≤ q → A q) (hE : zE gE A s) (hl : lv_has ls 4 [(0, .ref h0), (1, .int x1)]) (hK : va_K (dC, dI) zCl [(cA3, .int), (cA4, .char), (cA5, .int)] s) (hP : va_P (dC, dI) zCl [(h0, .inr (8, o_Reader I0 h4 h1 h2)), (h1, .inr (1, o_Code I1 a1_0 h3 h5)), (h2, .inr (9, o_Section I2)), (h3, .inl (cA3, n3, .inl f3)), (h4, .inl (cA4, n4, .inl f4)), (h5, .inl (cA5, n5, .inl f5))] H) (hD : va_D A [(h0, .inr (8, o_Reader I0 h4 h1 h2)), (h1, .inr (1, o_Code I1 a1_0 h3 h5)), (h2, .inr (9, o_Section I2)), (h3, .inl (cA3, n3, .inl f3)), (h4, .inl (cA4, n4, .inl f4)), (h5, .inl (cA5, n5, .inl f5))]) (hS : va_S A s.heap H locs) (hv : v_Reader_readParts_0 I0 I1 I2 n3 f3 n4 f4 n5 f5 x1  Z) : W p l e (headSpec (Cond.code (⟨"NumberDress$Reader", "readParts", "(I)I"⟩ : MethodName) prog_9_method_29_code 4 (some .int) :: zT) { frames := 2, cells := 0, slots := 0, locals := 44 }).room s m args below meth c H locs 0 0 (MQ below (va_Qi Z (zB (dC, dI) zCl [(cA3, .int), (cA4, .char), (cA5, .int)] A (fun u : (Nat → Int32) × (Nat → Int32) × (Nat → Int32) × (Nat → Int32) => [(h0, .inr (8, o_Reader I0 h4 h1 h2)), (h1, .inr (1, o_Code u.1 a1_0 h3 h5)), (h2, .inr (9, o_Section u.2.1)), (h3, .inl (cA3, n3, .inl u.2.2.1)), (h4, .inl (cA4, n4, .inl f4)), (h5, .inl (cA5, n5, .inl u.2.2.2))])) A) args s 0 0 A) (F0 m 0 ls []) := by
  obtain ⟨hx, hb, hr, hml, hown, ht, hlocks⟩ := id hc
  unfold v_Reader_readParts_0 at hv
  refine lv_aload_n hx hb d_Reader_readParts_0 rfl (lv_at hl 0 rfl) ?_
  refine z_calli (wc := [(h0, .inr (8, o_Reader I0 h4 h1 h2)), (h1, .inr (1, o_Code I1 a1_0 h3 h5)), (h2, .inr (9, o_Section I2)), (h3, .inl (cA3, n3, .inl f3))]) (wr := [(h4, .inl (cA4, n4, .inl f4)), (h5, .inl (cA5, n5, .inl f5))]) [0, 1, 2, 3] [4, 5] (va_runV (As := []) (rest := []) ⟨hx, hb, hml, hown, ht⟩ (m_Reader_kindBefore l dC dI hv) ⟨(callB_of 0 ht (zG_in zi_Reader_kindBefore) rfl rfl rfl (ht _ zw_113) (ht _ zw_734) zh_Reader_kindBefore ⟨Nat.le_of_ble_eq_true rfl, Nat.le_of_ble_eq_true rfl⟩), (ht _ zw_736), (ht _ zw_20)⟩ ⟨zPc_blind, va_recv hK hP (ci := 8) (q0 := 0) rfl rfl, zPc_pre hP hK hD hS hA hE [0, 1, 2, 3] [0] rfl rfl (by decide) rfl⟩ rfl rfl hl.1 rfl (lv_room (Nat.le_of_ble_eq_true rfl)) d_Reader_readParts_1 ⟨Nat.le_of_ble_eq_true rfl, Nat.le_of_ble_eq_true rfl⟩) hP hD hS hA rfl rfl (by decide) (by decide) (fun r u H locs hv hP hD hS => ?_)
  have hP : va_P (dC, dI) zCl [(h0, .inr (8, o_Reader I0 h4 h1 h2)), (h1, .inr (1, o_Code I1 a1_0 h3 h5)), (h2, .inr (9, o_Section I2)), (h3, .inl (cA3, n3, .inl f3)), (h4, .inl (cA4, n4, .inl f4)), (h5, .inl (cA5, n5, .inl f5))] H := hP.sub [2, 3, 4, 5, 0, 1] rfl
  have hD : va_D A [(h0, .inr (8, o_Reader I0 h4 h1 h2)), (h1, .inr (1, o_Code I1 a1_0 h3 h5)), (h2, .inr (9, o_Section I2)), (h3, .inl (cA3, n3, .inl f3)), (h4, .inl (cA4, n4, .inl f4)), (h5, .inl (cA5, n5, .inl f5))] := hD.sub [2, 3, 4, 5, 0, 1] (by decide) rfl
  exact b_Reader_readParts_4 hc hA hE  (lv_sub hl [0, 1] rfl) hK hP hD hS hv
theorem zi_Reader_readParts : Cond.code (⟨"NumberDress$Reader", "readParts", "(I)I"⟩ : MethodName) prog_9_method_29_code 4 (some .int) ∈ zT := zw_796
theorem zh_Reader_readParts : (((⟨"NumberDress$Reader", "readParts", "(I)I"⟩ : MethodName)).cls ≠ "java/lang/invoke/MethodHandle" ∧ ((⟨"NumberDress$Reader", "readParts", "(I)I"⟩ : MethodName)).cls ≠ "java/lang/invoke/VarHandle" ∧ (parseMethodDescriptor ((⟨"NumberDress$Reader", "readParts", "(I)I"⟩ : MethodName)).desc).map (fun d => d.parameters.length) = some 1) := by decide +kernel
set_option maxHeartbeats 4000000 in
set_option maxRecDepth 100000 in
theorem m_Reader_readParts (l : Launch) (dC : Nat → ClassId) (dI : Nat → Nat → Nat) {gE : zG} {h0 : Nat} {h1 : Nat} {a1_0 : Nat} {h2 : Nat} {h3 : Nat} {cA3 : ClassId} {h4 : Nat} {cA4 : ClassId} {h5 : Nat} {cA5 : ClassId} {I0 : Nat → Int32} {I1 : Nat → Int32} {I2 : Nat → Int32} {n3 : Nat} {f3 : Nat → Int32} {n4 : Nat} {f4 : Nat → Int32} {n5 : Nat} {f5 : Nat → Int32} {x1 : Int32} {sz : Nat} {Z : Int32 → (Nat → Int32) × (Nat → Int32) × (Nat → Int32) × (Nat → Int32) → Prop} (hv : v_Reader_readParts_0 I0 I1 I2 n3 f3 n4 f4 n5 f5 x1 Z) : Met l (⟨"NumberDress$Reader", "readParts", "(I)I"⟩ : MethodName) (Cond.code (⟨"NumberDress$Reader", "readParts", "(I)I"⟩ : MethodName) prog_9_method_29_code 4 (some .int) :: zT) { frames := 2, cells := 0, slots := 0, locals := 44 } (zPc gE (dC, dI) zCl [(cA3, .int), (cA4, .char), (cA5, .int)] [.ref h0, .int x1] sz [(h0, .inr (8, o_Reader I0 h4 h1 h2)), (h1, .inr (1, o_Code I1 a1_0 h3 h5)), (h2, .inr (9, o_Section I2)), (h3, .inl (cA3, n3, .inl f3)), (h4, .inl (cA4, n4, .inl f4)), (h5, .inl (cA5, n5, .inl f5))]) (va_Qi Z (zB (dC, dI) zCl [(cA3, .int), (cA4, .char), (cA5, .int)] (va_A [(h0, .inr (8, o_Reader I0 h4 h1 h2)), (h1, .inr (1, o_Code I1 a1_0 h3 h5)), (h2, .inr (9, o_Section I2)), (h3, .inl (cA3, n3, .inl f3)), (h4, .inl (cA4, n4, .inl f4)), (h5, .inl (cA5, n5, .inl f5))] sz) (fun u : (Nat → Int32) × (Nat → Int32) × (Nat → Int32) × (Nat → Int32) => [(h0, .inr (8, o_Reader I0 h4 h1 h2)), (h1, .inr (1, o_Code u.1 a1_0 h3 h5)), (h2, .inr (9, o_Section u.2.1)), (h3, .inl (cA3, n3, .inl u.2.2.1)), (h4, .inl (cA4, n4, .inl f4)), (h5, .inl (cA5, n5, .inl u.2.2.2))])) (va_A [(h0, .inr (8, o_Reader I0 h4 h1 h2)), (h1, .inr (1, o_Code I1 a1_0 h3 h5)), (h2, .inr (9, o_Section I2)), (h3, .inl (cA3, n3, .inl f3)), (h4, .inl (cA4, n4, .inl f4)), (h5, .inl (cA5, n5, .inl f5))] sz)) 0 0 (va_A [(h0, .inr (8, o_Reader I0 h4 h1 h2)), (h1, .inr (1, o_Code I1 a1_0 h3 h5)), (h2, .inr (9, o_Section I2)), (h3, .inl (cA3, n3, .inl f3)), (h4, .inl (cA4, n4, .inl f4)), (h5, .inl (cA5, n5, .inl f5))] sz) := by
  refine Met.ofW (cc := prog_9_method_29_code) (maxL := 4) (ret := (some .int)) (by decide +kernel) rfl ?_
  intro p e s m args below meth c s₁ B hml hp
  obtain ⟨rfl, hsz, hP, hK, hD0, hE⟩ := hp
  have hts := atoms_spec (ws := (Cond.code (⟨"NumberDress$Reader", "readParts", "(I)I"⟩ : MethodName) prog_9_method_29_code 4 (some .int) :: zT)) B.pre
  have hown : s.vm.findClass "NumberDress$Reader" = some m.cls := findClass_of_methodNamed B.named
  have hc : zC p s m _ meth c prog_9_method_29_code (some .int) 4 "NumberDress$Reader" := ⟨B.exec, B.bytes, B.returns, hml, hown, fun w h => hts w (List.mem_cons_of_mem _ h), B.notSynchronized⟩
  subst hsz
  have hD := hD0.self (sz := s.heap.size)
  generalize hAe : va_A [(h0, .inr (8, o_Reader I0 h4 h1 h2)), (h1, .inr (1, o_Code I1 a1_0 h3 h5)), (h2, .inr (9, o_Section I2)), (h3, .inl (cA3, n3, .inl f3)), (h4, .inl (cA4, n4, .inl f4)), (h5, .inl (cA5, n5, .inl f5))] s.heap.size = A at hD hE ⊢
  have hA : ∀ q : Nat, s.heap.size ≤ q → A q := fun q h => by rw [← hAe]; exact Or.inr h
  have hl := lv_entry ([.ref h0, .int x1]) (n := 4) (Nat.le_of_ble_eq_true rfl)
  rw [lg_entry_eq]
  exact b_Reader_readParts_0 hc hA hE hl hK hP hD va_S.rf hv
theorem d_Reader_addRow_0 : decode prog_9_method_26_code 0 = .ok (.aload_n 0, 1) := by decide +kernel
theorem d_Reader_addRow_1 : decode prog_9_method_26_code 1 = .ok (.getfield 18, 3) := by decide +kernel
theorem d_Reader_addRow_4 : decode prog_9_method_26_code 4 = .ok (.iload_n 1, 1) := by decide +kernel
theorem d_Reader_addRow_5 : decode prog_9_method_26_code 5 = .ok (.iload_n 2, 1) := by decide +kernel
theorem d_Reader_addRow_6 : decode prog_9_method_26_code 6 = .ok (.invokevirtual 139, 3) := by decide +kernel
theorem d_Reader_addRow_9 : decode prog_9_method_26_code 9 = .ok (.iload_n 2, 1) := by decide +kernel
theorem d_Reader_addRow_10 : decode prog_9_method_26_code 10 = .ok (.ireturn, 1) := by decide +kernel
set_option maxHeartbeats 4000000 in
set_option maxRecDepth 100000 in
theorem b_Reader_addRow_9 {h0 : Nat} {a0_0 : Nat} {a0_3 : Nat} {h1 : Nat} {a1_0 : Nat} {h2 : Nat} {cA2 : ClassId} {h3 : Nat} {cA3 : ClassId} {I0 : Nat → Int32} {I1 : Nat → Int32} {n2 : Nat} {f2 : Nat → Int32} {n3 : Nat} {f3 : Nat → Int32} {x2 : Int32}  {Z : Int32 → (Nat → Int32) × (Nat → Int32) × (Nat → Int32) → Prop} {H : Heap} {locs : List Loc} {ls : Array Slot} (hc : zC p s m args meth c prog_9_method_26_code (some .int) 3 "NumberDress$Reader") (hA : ∀ q : Nat, s.heap.size ≤ q → A q) (hE : zE gE A s) (hl : lv_has ls 3 [(2, .int x2)]) (hK : va_K (dC, dI) zCl [(cA2, .int), (cA3, .int)] s) (hP : va_P (dC, dI) zCl [(h0, .inr (8, o_Reader I0 a0_0 h1 a0_3)), (h1, .inr (1, o_Code I1 a1_0 h2 h3)), (h2, .inl (cA2, n2, .inl f2)), (h3, .inl (cA3, n3, .inl f3))] H) (hD : va_D A [(h0, .inr (8, o_Reader I0 a0_0 h1 a0_3)), (h1, .inr (1, o_Code I1 a1_0 h2 h3)), (h2, .inl (cA2, n2, .inl f2)), (h3, .inl (cA3, n3, .inl f3))]) (hS : va_S A s.heap H locs) (hv : v_Reader_addRow_9 I0 I1 n2 f2 n3 f3 x2  Z) : W p l e (headSpec (Cond.code (⟨"NumberDress$Reader", "addRow", "(II)I"⟩ : MethodName) prog_9_method_26_code 3 (some .int) :: zT) { frames := 1, cells := 0, slots := 0, locals := 22 }).room s m args below meth c H locs 0 0 (MQ below (va_Qi Z (zB (dC, dI) zCl [(cA2, .int), (cA3, .int)] A (fun u : (Nat → Int32) × (Nat → Int32) × (Nat → Int32) => [(h0, .inr (8, o_Reader I0 a0_0 h1 a0_3)), (h1, .inr (1, o_Code u.1 a1_0 h2 h3)), (h2, .inl (cA2, n2, .inl u.2.1)), (h3, .inl (cA3, n3, .inl u.2.2))])) A) args s 0 0 A) (F0 m 9 ls []) := by
  obtain ⟨hx, hb, hr, hml, hown, ht, hlocks⟩ := id hc
  unfold v_Reader_addRow_9 at hv
  refine lv_iload_n hx hb d_Reader_addRow_9 rfl (lv_at hl 0 rfl) ?_
  exact W.iret (v := x2) hx hb hr (fun t ht hW => ⟨⟨_, (I1, f2, f3), rfl, hv, ⟨by rw [ht]; exact hP, va_K.moved hW.alike hK, hD⟩⟩, hS.F ht⟩) hS.2.2 d_Reader_addRow_10
set_option maxHeartbeats 4000000 in
set_option maxRecDepth 100000 in
theorem b_Reader_addRow_0 {h0 : Nat} {a0_0 : Nat} {a0_3 : Nat} {h1 : Nat} {a1_0 : Nat} {h2 : Nat} {cA2 : ClassId} {h3 : Nat} {cA3 : ClassId} {I0 : Nat → Int32} {I1 : Nat → Int32} {n2 : Nat} {f2 : Nat → Int32} {n3 : Nat} {f3 : Nat → Int32} {x1 : Int32} {x2 : Int32}  {Z : Int32 → (Nat → Int32) × (Nat → Int32) × (Nat → Int32) → Prop} {H : Heap} {locs : List Loc} {ls : Array Slot} (hc : zC p s m args meth c prog_9_method_26_code (some .int) 3 "NumberDress$Reader") (hA : ∀ q : Nat, s.heap.size ≤ q → A q) (hE : zE gE A s) (hl : lv_has ls 3 [(0, .ref h0), (1, .int x1), (2, .int x2)]) (hK : va_K (dC, dI) zCl [(cA2, .int), (cA3, .int)] s) (hP : va_P (dC, dI) zCl [(h0, .inr (8, o_Reader I0 a0_0 h1 a0_3)), (h1, .inr (1, o_Code I1 a1_0 h2 h3)), (h2, .inl (cA2, n2, .inl f2)), (h3, .inl (cA3, n3, .inl f3))] H) (hD : va_D A [(h0, .inr (8, o_Reader I0 a0_0 h1 a0_3)), (h1, .inr (1, o_Code I1 a1_0 h2 h3)), (h2, .inl (cA2, n2, .inl f2)), (h3, .inl (cA3, n3, .inl f3))]) (hS : va_S A s.heap H locs) (hv : v_Reader_addRow_0 I0 I1 n2 f2 n3 f3 x1 x2  Z) : W p l e (headSpec (Cond.code (⟨"NumberDress$Reader", "addRow", "(II)I"⟩ : MethodName) prog_9_method_26_code 3 (some .int) :: zT) { frames := 1, cells := 0, slots := 0, locals := 22 }).room s m args below meth c H locs 0 0 (MQ below (va_Qi Z (zB (dC, dI) zCl [(cA2, .int), (cA3, .int)] A (fun u : (Nat → Int32) × (Nat → Int32) × (Nat → Int32) => [(h0, .inr (8, o_Reader I0 a0_0 h1 a0_3)), (h1, .inr (1, o_Code u.1 a1_0 h2 h3)), (h2, .inl (cA2, n2, .inl u.2.1)), (h3, .inl (cA3, n3, .inl u.2.2))])) A) args s 0 0 A) (F0 m 0 ls []) := by
  obtain ⟨hx, hb, hr, hml, hown, ht, hlocks⟩ := id hc
  unfold v_Reader_addRow_0 at hv
  refine lv_aload_n hx hb d_Reader_addRow_0 rfl (lv_at hl 0 rfl) ?_
  refine va_get (D := (dC, dI)) (ci := 8) (v := .ref h1) (C := "NumberDress$Reader") (T := T_Reader) (N := 5) hx hb ht zin_Reader hown hK hP 0 rfl rfl 2 (by decide) (ht _ zw_273) (fun _ h9 => h9) rfl d_Reader_addRow_1 ?_
  refine lv_iload_n hx hb d_Reader_addRow_4 rfl (lv_at hl 1 rfl) ?_
  refine lv_iload_n hx hb d_Reader_addRow_5 rfl (lv_at hl 2 rfl) ?_
  refine z_callv (wc := [(h1, .inr (1, o_Code I1 a1_0 h2 h3)), (h2, .inl (cA2, n2, .inl f2)), (h3, .inl (cA3, n3, .inl f3))]) (wr := [(h0, .inr (8, o_Reader I0 a0_0 h1 a0_3))]) [1, 2, 3] [0] (va_runV (As := [.int x1, .int x2]) (rest := []) ⟨hx, hb, hml, hown, ht⟩ (m_Code_add l dC dI hv) ⟨(callB_of 2 ht (zG_in zi_Code_add) rfl rfl rfl (ht _ zw_111) (ht _ zw_710) zh_Code_add ⟨Nat.le_of_ble_eq_true rfl, Nat.le_of_ble_eq_true rfl⟩), (ht _ zw_711), (ht _ zw_712)⟩ ⟨zPc_blind, va_recv hK hP (ci := 1) (q0 := 1) rfl rfl, zPc_pre hP hK hD hS hA hE [1, 2, 3] [0, 1] rfl rfl (by decide) rfl⟩ rfl rfl hl.1 rfl (lv_room (Nat.le_of_ble_eq_true rfl)) d_Reader_addRow_6 ⟨Nat.le_of_ble_eq_true rfl, Nat.le_of_ble_eq_true rfl⟩) hP hD hS hA rfl rfl (by decide) (by decide) (fun u H locs hv hP hD hS => ?_)
  have hP : va_P (dC, dI) zCl [(h0, .inr (8, o_Reader I0 a0_0 h1 a0_3)), (h1, .inr (1, o_Code u.1 a1_0 h2 h3)), (h2, .inl (cA2, n2, .inl u.2.1)), (h3, .inl (cA3, n3, .inl u.2.2))] H := hP.sub [0, 1, 2, 3] rfl
  have hD : va_D A [(h0, .inr (8, o_Reader I0 a0_0 h1 a0_3)), (h1, .inr (1, o_Code u.1 a1_0 h2 h3)), (h2, .inl (cA2, n2, .inl u.2.1)), (h3, .inl (cA3, n3, .inl u.2.2))] := hD.sub [0, 1, 2, 3] (by decide) rfl
  exact b_Reader_addRow_9 hc hA hE  (lv_sub hl [2] rfl) hK hP hD hS hv
theorem zi_Reader_addRow : Cond.code (⟨"NumberDress$Reader", "addRow", "(II)I"⟩ : MethodName) prog_9_method_26_code 3 (some .int) ∈ zT := zw_784
theorem zh_Reader_addRow : (((⟨"NumberDress$Reader", "addRow", "(II)I"⟩ : MethodName)).cls ≠ "java/lang/invoke/MethodHandle" ∧ ((⟨"NumberDress$Reader", "addRow", "(II)I"⟩ : MethodName)).cls ≠ "java/lang/invoke/VarHandle" ∧ (parseMethodDescriptor ((⟨"NumberDress$Reader", "addRow", "(II)I"⟩ : MethodName)).desc).map (fun d => d.parameters.length) = some 2) := by decide +kernel
set_option maxHeartbeats 4000000 in
set_option maxRecDepth 100000 in
theorem m_Reader_addRow (l : Launch) (dC : Nat → ClassId) (dI : Nat → Nat → Nat) {gE : zG} {h0 : Nat} {a0_0 : Nat} {a0_3 : Nat} {h1 : Nat} {a1_0 : Nat} {h2 : Nat} {cA2 : ClassId} {h3 : Nat} {cA3 : ClassId} {I0 : Nat → Int32} {I1 : Nat → Int32} {n2 : Nat} {f2 : Nat → Int32} {n3 : Nat} {f3 : Nat → Int32} {x1 : Int32} {x2 : Int32} {sz : Nat} {Z : Int32 → (Nat → Int32) × (Nat → Int32) × (Nat → Int32) → Prop} (hv : v_Reader_addRow_0 I0 I1 n2 f2 n3 f3 x1 x2 Z) : Met l (⟨"NumberDress$Reader", "addRow", "(II)I"⟩ : MethodName) (Cond.code (⟨"NumberDress$Reader", "addRow", "(II)I"⟩ : MethodName) prog_9_method_26_code 3 (some .int) :: zT) { frames := 1, cells := 0, slots := 0, locals := 22 } (zPc gE (dC, dI) zCl [(cA2, .int), (cA3, .int)] [.ref h0, .int x1, .int x2] sz [(h0, .inr (8, o_Reader I0 a0_0 h1 a0_3)), (h1, .inr (1, o_Code I1 a1_0 h2 h3)), (h2, .inl (cA2, n2, .inl f2)), (h3, .inl (cA3, n3, .inl f3))]) (va_Qi Z (zB (dC, dI) zCl [(cA2, .int), (cA3, .int)] (va_A [(h0, .inr (8, o_Reader I0 a0_0 h1 a0_3)), (h1, .inr (1, o_Code I1 a1_0 h2 h3)), (h2, .inl (cA2, n2, .inl f2)), (h3, .inl (cA3, n3, .inl f3))] sz) (fun u : (Nat → Int32) × (Nat → Int32) × (Nat → Int32) => [(h0, .inr (8, o_Reader I0 a0_0 h1 a0_3)), (h1, .inr (1, o_Code u.1 a1_0 h2 h3)), (h2, .inl (cA2, n2, .inl u.2.1)), (h3, .inl (cA3, n3, .inl u.2.2))])) (va_A [(h0, .inr (8, o_Reader I0 a0_0 h1 a0_3)), (h1, .inr (1, o_Code I1 a1_0 h2 h3)), (h2, .inl (cA2, n2, .inl f2)), (h3, .inl (cA3, n3, .inl f3))] sz)) 0 0 (va_A [(h0, .inr (8, o_Reader I0 a0_0 h1 a0_3)), (h1, .inr (1, o_Code I1 a1_0 h2 h3)), (h2, .inl (cA2, n2, .inl f2)), (h3, .inl (cA3, n3, .inl f3))] sz) := by
  refine Met.ofW (cc := prog_9_method_26_code) (maxL := 3) (ret := (some .int)) (by decide +kernel) rfl ?_
  intro p e s m args below meth c s₁ B hml hp
  obtain ⟨rfl, hsz, hP, hK, hD0, hE⟩ := hp
  have hts := atoms_spec (ws := (Cond.code (⟨"NumberDress$Reader", "addRow", "(II)I"⟩ : MethodName) prog_9_method_26_code 3 (some .int) :: zT)) B.pre
  have hown : s.vm.findClass "NumberDress$Reader" = some m.cls := findClass_of_methodNamed B.named
  have hc : zC p s m _ meth c prog_9_method_26_code (some .int) 3 "NumberDress$Reader" := ⟨B.exec, B.bytes, B.returns, hml, hown, fun w h => hts w (List.mem_cons_of_mem _ h), B.notSynchronized⟩
  subst hsz
  have hD := hD0.self (sz := s.heap.size)
  generalize hAe : va_A [(h0, .inr (8, o_Reader I0 a0_0 h1 a0_3)), (h1, .inr (1, o_Code I1 a1_0 h2 h3)), (h2, .inl (cA2, n2, .inl f2)), (h3, .inl (cA3, n3, .inl f3))] s.heap.size = A at hD hE ⊢
  have hA : ∀ q : Nat, s.heap.size ≤ q → A q := fun q h => by rw [← hAe]; exact Or.inr h
  have hl := lv_entry ([.ref h0, .int x1, .int x2]) (n := 3) (Nat.le_of_ble_eq_true rfl)
  rw [lg_entry_eq]
  exact b_Reader_addRow_0 hc hA hE hl hK hP hD va_S.rf hv
theorem d_Reader_readRow_0 : decode prog_9_method_25_code 0 = .ok (.aload_n 0, 1) := by decide +kernel
theorem d_Reader_readRow_1 : decode prog_9_method_25_code 1 = .ok (.iload_n 1, 1) := by decide +kernel
theorem d_Reader_readRow_2 : decode prog_9_method_25_code 2 = .ok (.invokevirtual 237, 3) := by decide +kernel
theorem d_Reader_readRow_5 : decode prog_9_method_25_code 5 = .ok (.istore_n 3, 1) := by decide +kernel
theorem d_Reader_readRow_6 : decode prog_9_method_25_code 6 = .ok (.iload_n 2, 1) := by decide +kernel
theorem d_Reader_readRow_7 : decode prog_9_method_25_code 7 = .ok (.lookupswitch 114 #[(100, 80), (104, 97), (109, 63), (121, 41)], 41) := by decide +kernel
theorem d_Reader_readRow_48 : decode prog_9_method_25_code 48 = .ok (.iload_n 3, 1) := by decide +kernel
theorem d_Reader_readRow_49 : decode prog_9_method_25_code 49 = .ok (.iconst 2, 1) := by decide +kernel
theorem d_Reader_readRow_50 : decode prog_9_method_25_code 50 = .ok (.if_icmp .eq 8, 3) := by decide +kernel
theorem d_Reader_readRow_53 : decode prog_9_method_25_code 53 = .ok (.iload_n 3, 1) := by decide +kernel
theorem d_Reader_readRow_54 : decode prog_9_method_25_code 54 = .ok (.iconst 4, 1) := by decide +kernel
theorem d_Reader_readRow_55 : decode prog_9_method_25_code 55 = .ok (.if_icmp .ne 13, 3) := by decide +kernel
theorem d_Reader_readRow_58 : decode prog_9_method_25_code 58 = .ok (.aload_n 0, 1) := by decide +kernel
theorem d_Reader_readRow_59 : decode prog_9_method_25_code 59 = .ok (.bipush 20, 2) := by decide +kernel
theorem d_Reader_readRow_61 : decode prog_9_method_25_code 61 = .ok (.iload_n 3, 1) := by decide +kernel
theorem d_Reader_readRow_62 : decode prog_9_method_25_code 62 = .ok (.invokevirtual 240, 3) := by decide +kernel
theorem d_Reader_readRow_65 : decode prog_9_method_25_code 65 = .ok (.goto 4, 3) := by decide +kernel
theorem d_Reader_readRow_68 : decode prog_9_method_25_code 68 = .ok (.iconst 0, 1) := by decide +kernel
theorem d_Reader_readRow_69 : decode prog_9_method_25_code 69 = .ok (.ireturn, 1) := by decide +kernel
theorem d_Reader_readRow_70 : decode prog_9_method_25_code 70 = .ok (.iload_n 3, 1) := by decide +kernel
theorem d_Reader_readRow_71 : decode prog_9_method_25_code 71 = .ok (.iconst 5, 1) := by decide +kernel
theorem d_Reader_readRow_72 : decode prog_9_method_25_code 72 = .ok (.if_icmp .gt 13, 3) := by decide +kernel
theorem d_Reader_readRow_75 : decode prog_9_method_25_code 75 = .ok (.aload_n 0, 1) := by decide +kernel
theorem d_Reader_readRow_76 : decode prog_9_method_25_code 76 = .ok (.bipush 21, 2) := by decide +kernel
theorem d_Reader_readRow_78 : decode prog_9_method_25_code 78 = .ok (.iload_n 3, 1) := by decide +kernel
theorem d_Reader_readRow_79 : decode prog_9_method_25_code 79 = .ok (.invokevirtual 240, 3) := by decide +kernel
theorem d_Reader_readRow_82 : decode prog_9_method_25_code 82 = .ok (.goto 4, 3) := by decide +kernel
theorem d_Reader_readRow_85 : decode prog_9_method_25_code 85 = .ok (.iconst 0, 1) := by decide +kernel
theorem d_Reader_readRow_86 : decode prog_9_method_25_code 86 = .ok (.ireturn, 1) := by decide +kernel
theorem d_Reader_readRow_87 : decode prog_9_method_25_code 87 = .ok (.iload_n 3, 1) := by decide +kernel
theorem d_Reader_readRow_88 : decode prog_9_method_25_code 88 = .ok (.iconst 4, 1) := by decide +kernel
theorem d_Reader_readRow_89 : decode prog_9_method_25_code 89 = .ok (.if_icmp .gt 13, 3) := by decide +kernel
theorem d_Reader_readRow_92 : decode prog_9_method_25_code 92 = .ok (.aload_n 0, 1) := by decide +kernel
theorem d_Reader_readRow_93 : decode prog_9_method_25_code 93 = .ok (.bipush 22, 2) := by decide +kernel
theorem d_Reader_readRow_95 : decode prog_9_method_25_code 95 = .ok (.iload_n 3, 1) := by decide +kernel
theorem d_Reader_readRow_96 : decode prog_9_method_25_code 96 = .ok (.invokevirtual 240, 3) := by decide +kernel
theorem d_Reader_readRow_99 : decode prog_9_method_25_code 99 = .ok (.goto 4, 3) := by decide +kernel
theorem d_Reader_readRow_102 : decode prog_9_method_25_code 102 = .ok (.iconst 0, 1) := by decide +kernel
theorem d_Reader_readRow_103 : decode prog_9_method_25_code 103 = .ok (.ireturn, 1) := by decide +kernel
theorem d_Reader_readRow_104 : decode prog_9_method_25_code 104 = .ok (.iload_n 3, 1) := by decide +kernel
theorem d_Reader_readRow_105 : decode prog_9_method_25_code 105 = .ok (.iconst 2, 1) := by decide +kernel
theorem d_Reader_readRow_106 : decode prog_9_method_25_code 106 = .ok (.if_icmp .gt 13, 3) := by decide +kernel
theorem d_Reader_readRow_109 : decode prog_9_method_25_code 109 = .ok (.aload_n 0, 1) := by decide +kernel
theorem d_Reader_readRow_110 : decode prog_9_method_25_code 110 = .ok (.bipush 23, 2) := by decide +kernel
theorem d_Reader_readRow_112 : decode prog_9_method_25_code 112 = .ok (.iload_n 3, 1) := by decide +kernel
theorem d_Reader_readRow_113 : decode prog_9_method_25_code 113 = .ok (.invokevirtual 240, 3) := by decide +kernel
theorem d_Reader_readRow_116 : decode prog_9_method_25_code 116 = .ok (.goto 4, 3) := by decide +kernel
theorem d_Reader_readRow_119 : decode prog_9_method_25_code 119 = .ok (.iconst 0, 1) := by decide +kernel
theorem d_Reader_readRow_120 : decode prog_9_method_25_code 120 = .ok (.ireturn, 1) := by decide +kernel
theorem d_Reader_readRow_121 : decode prog_9_method_25_code 121 = .ok (.iload_n 3, 1) := by decide +kernel
theorem d_Reader_readRow_122 : decode prog_9_method_25_code 122 = .ok (.iconst 2, 1) := by decide +kernel
theorem d_Reader_readRow_123 : decode prog_9_method_25_code 123 = .ok (.if_icmp .gt 13, 3) := by decide +kernel
theorem d_Reader_readRow_126 : decode prog_9_method_25_code 126 = .ok (.aload_n 0, 1) := by decide +kernel
theorem d_Reader_readRow_127 : decode prog_9_method_25_code 127 = .ok (.bipush 25, 2) := by decide +kernel
theorem d_Reader_readRow_129 : decode prog_9_method_25_code 129 = .ok (.iload_n 3, 1) := by decide +kernel
theorem d_Reader_readRow_130 : decode prog_9_method_25_code 130 = .ok (.invokevirtual 240, 3) := by decide +kernel
theorem d_Reader_readRow_133 : decode prog_9_method_25_code 133 = .ok (.goto 4, 3) := by decide +kernel
theorem d_Reader_readRow_136 : decode prog_9_method_25_code 136 = .ok (.iconst 0, 1) := by decide +kernel
theorem d_Reader_readRow_137 : decode prog_9_method_25_code 137 = .ok (.ireturn, 1) := by decide +kernel
set_option maxHeartbeats 4000000 in
set_option maxRecDepth 100000 in
theorem b_Reader_readRow_116 {h0 : Nat} {a0_3 : Nat} {h1 : Nat} {cA1 : ClassId} {h2 : Nat} {a2_0 : Nat} {h3 : Nat} {cA3 : ClassId} {h4 : Nat} {cA4 : ClassId} {I0 : Nat → Int32} {n1 : Nat} {f1 : Nat → Int32} {I2 : Nat → Int32} {n3 : Nat} {f3 : Nat → Int32} {n4 : Nat} {f4 : Nat → Int32} {s0 : Int32}  {Z : Int32 → (Nat → Int32) × (Nat → Int32) × (Nat → Int32) → Prop} {H : Heap} {locs : List Loc} {ls : Array Slot} (hc : zC p s m args meth c prog_9_method_25_code (some .int) 4 "NumberDress$Reader") (hA : ∀ q : Nat, s.heap.size ≤ q → A q) (hE : zE gE A s) (hl : lv_has ls 4 []) (hK : va_K (dC, dI) zCl [(cA1, .char), (cA3, .int), (cA4, .int)] s) (hP : va_P (dC, dI) zCl [(h0, .inr (8, o_Reader I0 h1 h2 a0_3)), (h1, .inl (cA1, n1, .inl f1)), (h2, .inr (1, o_Code I2 a2_0 h3 h4)), (h3, .inl (cA3, n3, .inl f3)), (h4, .inl (cA4, n4, .inl f4))] H) (hD : va_D A [(h0, .inr (8, o_Reader I0 h1 h2 a0_3)), (h1, .inl (cA1, n1, .inl f1)), (h2, .inr (1, o_Code I2 a2_0 h3 h4)), (h3, .inl (cA3, n3, .inl f3)), (h4, .inl (cA4, n4, .inl f4))]) (hS : va_S A s.heap H locs) (hv : v_Reader_readRow_116 I0 n1 f1 I2 n3 f3 n4 f4 s0  Z) : W p l e (headSpec (Cond.code (⟨"NumberDress$Reader", "readRow", "(IC)I"⟩ : MethodName) prog_9_method_25_code 4 (some .int) :: zT) { frames := 2, cells := 0, slots := 0, locals := 44 }).room s m args below meth c H locs 0 0 (MQ below (va_Qi Z (zB (dC, dI) zCl [(cA1, .char), (cA3, .int), (cA4, .int)] A (fun u : (Nat → Int32) × (Nat → Int32) × (Nat → Int32) => [(h0, .inr (8, o_Reader I0 h1 h2 a0_3)), (h1, .inl (cA1, n1, .inl f1)), (h2, .inr (1, o_Code u.1 a2_0 h3 h4)), (h3, .inl (cA3, n3, .inl u.2.1)), (h4, .inl (cA4, n4, .inl u.2.2))])) A) args s 0 0 A) (F0 m 116 ls [.int s0]) := by
  obtain ⟨hx, hb, hr, hml, hown, ht, hlocks⟩ := id hc
  unfold v_Reader_readRow_116 at hv
  refine lv_goto (tgt := 120) hx hb d_Reader_readRow_116 (by decide) ?_
  exact W.iret (v := s0) hx hb hr (fun t ht hW => ⟨⟨_, (I2, f3, f4), rfl, hv, ⟨by rw [ht]; exact hP, va_K.moved hW.alike hK, hD⟩⟩, hS.F ht⟩) hS.2.2 d_Reader_readRow_120
set_option maxHeartbeats 4000000 in
set_option maxRecDepth 100000 in
theorem b_Reader_readRow_133 {h0 : Nat} {a0_3 : Nat} {h1 : Nat} {cA1 : ClassId} {h2 : Nat} {a2_0 : Nat} {h3 : Nat} {cA3 : ClassId} {h4 : Nat} {cA4 : ClassId} {I0 : Nat → Int32} {n1 : Nat} {f1 : Nat → Int32} {I2 : Nat → Int32} {n3 : Nat} {f3 : Nat → Int32} {n4 : Nat} {f4 : Nat → Int32} {s0 : Int32}  {Z : Int32 → (Nat → Int32) × (Nat → Int32) × (Nat → Int32) → Prop} {H : Heap} {locs : List Loc} {ls : Array Slot} (hc : zC p s m args meth c prog_9_method_25_code (some .int) 4 "NumberDress$Reader") (hA : ∀ q : Nat, s.heap.size ≤ q → A q) (hE : zE gE A s) (hl : lv_has ls 4 []) (hK : va_K (dC, dI) zCl [(cA1, .char), (cA3, .int), (cA4, .int)] s) (hP : va_P (dC, dI) zCl [(h0, .inr (8, o_Reader I0 h1 h2 a0_3)), (h1, .inl (cA1, n1, .inl f1)), (h2, .inr (1, o_Code I2 a2_0 h3 h4)), (h3, .inl (cA3, n3, .inl f3)), (h4, .inl (cA4, n4, .inl f4))] H) (hD : va_D A [(h0, .inr (8, o_Reader I0 h1 h2 a0_3)), (h1, .inl (cA1, n1, .inl f1)), (h2, .inr (1, o_Code I2 a2_0 h3 h4)), (h3, .inl (cA3, n3, .inl f3)), (h4, .inl (cA4, n4, .inl f4))]) (hS : va_S A s.heap H locs) (hv : v_Reader_readRow_133 I0 n1 f1 I2 n3 f3 n4 f4 s0  Z) : W p l e (headSpec (Cond.code (⟨"NumberDress$Reader", "readRow", "(IC)I"⟩ : MethodName) prog_9_method_25_code 4 (some .int) :: zT) { frames := 2, cells := 0, slots := 0, locals := 44 }).room s m args below meth c H locs 0 0 (MQ below (va_Qi Z (zB (dC, dI) zCl [(cA1, .char), (cA3, .int), (cA4, .int)] A (fun u : (Nat → Int32) × (Nat → Int32) × (Nat → Int32) => [(h0, .inr (8, o_Reader I0 h1 h2 a0_3)), (h1, .inl (cA1, n1, .inl f1)), (h2, .inr (1, o_Code u.1 a2_0 h3 h4)), (h3, .inl (cA3, n3, .inl u.2.1)), (h4, .inl (cA4, n4, .inl u.2.2))])) A) args s 0 0 A) (F0 m 133 ls [.int s0]) := by
  obtain ⟨hx, hb, hr, hml, hown, ht, hlocks⟩ := id hc
  unfold v_Reader_readRow_133 at hv
  refine lv_goto (tgt := 137) hx hb d_Reader_readRow_133 (by decide) ?_
  exact W.iret (v := s0) hx hb hr (fun t ht hW => ⟨⟨_, (I2, f3, f4), rfl, hv, ⟨by rw [ht]; exact hP, va_K.moved hW.alike hK, hD⟩⟩, hS.F ht⟩) hS.2.2 d_Reader_readRow_137
set_option maxHeartbeats 4000000 in
set_option maxRecDepth 100000 in
theorem b_Reader_readRow_65 {h0 : Nat} {a0_3 : Nat} {h1 : Nat} {cA1 : ClassId} {h2 : Nat} {a2_0 : Nat} {h3 : Nat} {cA3 : ClassId} {h4 : Nat} {cA4 : ClassId} {I0 : Nat → Int32} {n1 : Nat} {f1 : Nat → Int32} {I2 : Nat → Int32} {n3 : Nat} {f3 : Nat → Int32} {n4 : Nat} {f4 : Nat → Int32} {s0 : Int32}  {Z : Int32 → (Nat → Int32) × (Nat → Int32) × (Nat → Int32) → Prop} {H : Heap} {locs : List Loc} {ls : Array Slot} (hc : zC p s m args meth c prog_9_method_25_code (some .int) 4 "NumberDress$Reader") (hA : ∀ q : Nat, s.heap.size ≤ q → A q) (hE : zE gE A s) (hl : lv_has ls 4 []) (hK : va_K (dC, dI) zCl [(cA1, .char), (cA3, .int), (cA4, .int)] s) (hP : va_P (dC, dI) zCl [(h0, .inr (8, o_Reader I0 h1 h2 a0_3)), (h1, .inl (cA1, n1, .inl f1)), (h2, .inr (1, o_Code I2 a2_0 h3 h4)), (h3, .inl (cA3, n3, .inl f3)), (h4, .inl (cA4, n4, .inl f4))] H) (hD : va_D A [(h0, .inr (8, o_Reader I0 h1 h2 a0_3)), (h1, .inl (cA1, n1, .inl f1)), (h2, .inr (1, o_Code I2 a2_0 h3 h4)), (h3, .inl (cA3, n3, .inl f3)), (h4, .inl (cA4, n4, .inl f4))]) (hS : va_S A s.heap H locs) (hv : v_Reader_readRow_65 I0 n1 f1 I2 n3 f3 n4 f4 s0  Z) : W p l e (headSpec (Cond.code (⟨"NumberDress$Reader", "readRow", "(IC)I"⟩ : MethodName) prog_9_method_25_code 4 (some .int) :: zT) { frames := 2, cells := 0, slots := 0, locals := 44 }).room s m args below meth c H locs 0 0 (MQ below (va_Qi Z (zB (dC, dI) zCl [(cA1, .char), (cA3, .int), (cA4, .int)] A (fun u : (Nat → Int32) × (Nat → Int32) × (Nat → Int32) => [(h0, .inr (8, o_Reader I0 h1 h2 a0_3)), (h1, .inl (cA1, n1, .inl f1)), (h2, .inr (1, o_Code u.1 a2_0 h3 h4)), (h3, .inl (cA3, n3, .inl u.2.1)), (h4, .inl (cA4, n4, .inl u.2.2))])) A) args s 0 0 A) (F0 m 65 ls [.int s0]) := by
  obtain ⟨hx, hb, hr, hml, hown, ht, hlocks⟩ := id hc
  unfold v_Reader_readRow_65 at hv
  refine lv_goto (tgt := 69) hx hb d_Reader_readRow_65 (by decide) ?_
  exact W.iret (v := s0) hx hb hr (fun t ht hW => ⟨⟨_, (I2, f3, f4), rfl, hv, ⟨by rw [ht]; exact hP, va_K.moved hW.alike hK, hD⟩⟩, hS.F ht⟩) hS.2.2 d_Reader_readRow_69
set_option maxHeartbeats 4000000 in
set_option maxRecDepth 100000 in
theorem b_Reader_readRow_58 {h0 : Nat} {a0_3 : Nat} {h1 : Nat} {cA1 : ClassId} {h2 : Nat} {a2_0 : Nat} {h3 : Nat} {cA3 : ClassId} {h4 : Nat} {cA4 : ClassId} {I0 : Nat → Int32} {n1 : Nat} {f1 : Nat → Int32} {I2 : Nat → Int32} {n3 : Nat} {f3 : Nat → Int32} {n4 : Nat} {f4 : Nat → Int32} {x3 : Int32}  {Z : Int32 → (Nat → Int32) × (Nat → Int32) × (Nat → Int32) → Prop} {H : Heap} {locs : List Loc} {ls : Array Slot} (hc : zC p s m args meth c prog_9_method_25_code (some .int) 4 "NumberDress$Reader") (hA : ∀ q : Nat, s.heap.size ≤ q → A q) (hE : zE gE A s) (hl : lv_has ls 4 [(0, .ref h0), (3, .int x3)]) (hK : va_K (dC, dI) zCl [(cA1, .char), (cA3, .int), (cA4, .int)] s) (hP : va_P (dC, dI) zCl [(h0, .inr (8, o_Reader I0 h1 h2 a0_3)), (h1, .inl (cA1, n1, .inl f1)), (h2, .inr (1, o_Code I2 a2_0 h3 h4)), (h3, .inl (cA3, n3, .inl f3)), (h4, .inl (cA4, n4, .inl f4))] H) (hD : va_D A [(h0, .inr (8, o_Reader I0 h1 h2 a0_3)), (h1, .inl (cA1, n1, .inl f1)), (h2, .inr (1, o_Code I2 a2_0 h3 h4)), (h3, .inl (cA3, n3, .inl f3)), (h4, .inl (cA4, n4, .inl f4))]) (hS : va_S A s.heap H locs) (hv : v_Reader_readRow_58 I0 n1 f1 I2 n3 f3 n4 f4 x3  Z) : W p l e (headSpec (Cond.code (⟨"NumberDress$Reader", "readRow", "(IC)I"⟩ : MethodName) prog_9_method_25_code 4 (some .int) :: zT) { frames := 2, cells := 0, slots := 0, locals := 44 }).room s m args below meth c H locs 0 0 (MQ below (va_Qi Z (zB (dC, dI) zCl [(cA1, .char), (cA3, .int), (cA4, .int)] A (fun u : (Nat → Int32) × (Nat → Int32) × (Nat → Int32) => [(h0, .inr (8, o_Reader I0 h1 h2 a0_3)), (h1, .inl (cA1, n1, .inl f1)), (h2, .inr (1, o_Code u.1 a2_0 h3 h4)), (h3, .inl (cA3, n3, .inl u.2.1)), (h4, .inl (cA4, n4, .inl u.2.2))])) A) args s 0 0 A) (F0 m 58 ls []) := by
  obtain ⟨hx, hb, hr, hml, hown, ht, hlocks⟩ := id hc
  unfold v_Reader_readRow_58 at hv
  refine lv_aload_n hx hb d_Reader_readRow_58 rfl (lv_at hl 0 rfl) ?_
  refine lv_bipush (v := (20 : Int32)) hx hb d_Reader_readRow_59 (by decide) ?_
  refine lv_iload_n hx hb d_Reader_readRow_61 rfl (lv_at hl 1 rfl) ?_
  refine z_calli (wc := [(h0, .inr (8, o_Reader I0 h1 h2 a0_3)), (h2, .inr (1, o_Code I2 a2_0 h3 h4)), (h3, .inl (cA3, n3, .inl f3)), (h4, .inl (cA4, n4, .inl f4))]) (wr := [(h1, .inl (cA1, n1, .inl f1))]) [0, 2, 3, 4] [1] (va_runV (As := [.int (20 : Int32), .int x3]) (rest := []) ⟨hx, hb, hml, hown, ht⟩ (m_Reader_addRow l dC dI hv) ⟨(callB_of 2 ht (zG_in zi_Reader_addRow) rfl rfl rfl (ht _ zw_113) (ht _ zw_781) zh_Reader_addRow ⟨Nat.le_of_ble_eq_true rfl, Nat.le_of_ble_eq_true rfl⟩), (ht _ zw_783), (ht _ zw_28)⟩ ⟨zPc_blind, va_recv hK hP (ci := 8) (q0 := 0) rfl rfl, zPc_pre hP hK hD hS hA hE [0, 2, 3, 4] [1, 2] rfl rfl (by decide) rfl⟩ rfl rfl hl.1 rfl (lv_room (Nat.le_of_ble_eq_true rfl)) d_Reader_readRow_62 ⟨Nat.le_of_ble_eq_true rfl, Nat.le_of_ble_eq_true rfl⟩) hP hD hS hA rfl rfl (by decide) (by decide) (fun r u H locs hv hP hD hS => ?_)
  have hP : va_P (dC, dI) zCl [(h0, .inr (8, o_Reader I0 h1 h2 a0_3)), (h1, .inl (cA1, n1, .inl f1)), (h2, .inr (1, o_Code u.1 a2_0 h3 h4)), (h3, .inl (cA3, n3, .inl u.2.1)), (h4, .inl (cA4, n4, .inl u.2.2))] H := hP.sub [1, 0, 2, 3, 4] rfl
  have hD : va_D A [(h0, .inr (8, o_Reader I0 h1 h2 a0_3)), (h1, .inl (cA1, n1, .inl f1)), (h2, .inr (1, o_Code u.1 a2_0 h3 h4)), (h3, .inl (cA3, n3, .inl u.2.1)), (h4, .inl (cA4, n4, .inl u.2.2))] := hD.sub [1, 0, 2, 3, 4] (by decide) rfl
  exact b_Reader_readRow_65 hc hA hE  (lv_sub hl [] rfl) hK hP hD hS hv
set_option maxHeartbeats 4000000 in
set_option maxRecDepth 100000 in
theorem b_Reader_readRow_82 {h0 : Nat} {a0_3 : Nat} {h1 : Nat} {cA1 : ClassId} {h2 : Nat} {a2_0 : Nat} {h3 : Nat} {cA3 : ClassId} {h4 : Nat} {cA4 : ClassId} {I0 : Nat → Int32} {n1 : Nat} {f1 : Nat → Int32} {I2 : Nat → Int32} {n3 : Nat} {f3 : Nat → Int32} {n4 : Nat} {f4 : Nat → Int32} {s0 : Int32}  {Z : Int32 → (Nat → Int32) × (Nat → Int32) × (Nat → Int32) → Prop} {H : Heap} {locs : List Loc} {ls : Array Slot} (hc : zC p s m args meth c prog_9_method_25_code (some .int) 4 "NumberDress$Reader") (hA : ∀ q : Nat, s.heap.size ≤ q → A q) (hE : zE gE A s) (hl : lv_has ls 4 []) (hK : va_K (dC, dI) zCl [(cA1, .char), (cA3, .int), (cA4, .int)] s) (hP : va_P (dC, dI) zCl [(h0, .inr (8, o_Reader I0 h1 h2 a0_3)), (h1, .inl (cA1, n1, .inl f1)), (h2, .inr (1, o_Code I2 a2_0 h3 h4)), (h3, .inl (cA3, n3, .inl f3)), (h4, .inl (cA4, n4, .inl f4))] H) (hD : va_D A [(h0, .inr (8, o_Reader I0 h1 h2 a0_3)), (h1, .inl (cA1, n1, .inl f1)), (h2, .inr (1, o_Code I2 a2_0 h3 h4)), (h3, .inl (cA3, n3, .inl f3)), (h4, .inl (cA4, n4, .inl f4))]) (hS : va_S A s.heap H locs) (hv : v_Reader_readRow_82 I0 n1 f1 I2 n3 f3 n4 f4 s0  Z) : W p l e (headSpec (Cond.code (⟨"NumberDress$Reader", "readRow", "(IC)I"⟩ : MethodName) prog_9_method_25_code 4 (some .int) :: zT) { frames := 2, cells := 0, slots := 0, locals := 44 }).room s m args below meth c H locs 0 0 (MQ below (va_Qi Z (zB (dC, dI) zCl [(cA1, .char), (cA3, .int), (cA4, .int)] A (fun u : (Nat → Int32) × (Nat → Int32) × (Nat → Int32) => [(h0, .inr (8, o_Reader I0 h1 h2 a0_3)), (h1, .inl (cA1, n1, .inl f1)), (h2, .inr (1, o_Code u.1 a2_0 h3 h4)), (h3, .inl (cA3, n3, .inl u.2.1)), (h4, .inl (cA4, n4, .inl u.2.2))])) A) args s 0 0 A) (F0 m 82 ls [.int s0]) := by
  obtain ⟨hx, hb, hr, hml, hown, ht, hlocks⟩ := id hc
  unfold v_Reader_readRow_82 at hv
  refine lv_goto (tgt := 86) hx hb d_Reader_readRow_82 (by decide) ?_
  exact W.iret (v := s0) hx hb hr (fun t ht hW => ⟨⟨_, (I2, f3, f4), rfl, hv, ⟨by rw [ht]; exact hP, va_K.moved hW.alike hK, hD⟩⟩, hS.F ht⟩) hS.2.2 d_Reader_readRow_86
set_option maxHeartbeats 4000000 in
set_option maxRecDepth 100000 in
theorem b_Reader_readRow_99 {h0 : Nat} {a0_3 : Nat} {h1 : Nat} {cA1 : ClassId} {h2 : Nat} {a2_0 : Nat} {h3 : Nat} {cA3 : ClassId} {h4 : Nat} {cA4 : ClassId} {I0 : Nat → Int32} {n1 : Nat} {f1 : Nat → Int32} {I2 : Nat → Int32} {n3 : Nat} {f3 : Nat → Int32} {n4 : Nat} {f4 : Nat → Int32} {s0 : Int32}  {Z : Int32 → (Nat → Int32) × (Nat → Int32) × (Nat → Int32) → Prop} {H : Heap} {locs : List Loc} {ls : Array Slot} (hc : zC p s m args meth c prog_9_method_25_code (some .int) 4 "NumberDress$Reader") (hA : ∀ q : Nat, s.heap.size ≤ q → A q) (hE : zE gE A s) (hl : lv_has ls 4 []) (hK : va_K (dC, dI) zCl [(cA1, .char), (cA3, .int), (cA4, .int)] s) (hP : va_P (dC, dI) zCl [(h0, .inr (8, o_Reader I0 h1 h2 a0_3)), (h1, .inl (cA1, n1, .inl f1)), (h2, .inr (1, o_Code I2 a2_0 h3 h4)), (h3, .inl (cA3, n3, .inl f3)), (h4, .inl (cA4, n4, .inl f4))] H) (hD : va_D A [(h0, .inr (8, o_Reader I0 h1 h2 a0_3)), (h1, .inl (cA1, n1, .inl f1)), (h2, .inr (1, o_Code I2 a2_0 h3 h4)), (h3, .inl (cA3, n3, .inl f3)), (h4, .inl (cA4, n4, .inl f4))]) (hS : va_S A s.heap H locs) (hv : v_Reader_readRow_99 I0 n1 f1 I2 n3 f3 n4 f4 s0  Z) : W p l e (headSpec (Cond.code (⟨"NumberDress$Reader", "readRow", "(IC)I"⟩ : MethodName) prog_9_method_25_code 4 (some .int) :: zT) { frames := 2, cells := 0, slots := 0, locals := 44 }).room s m args below meth c H locs 0 0 (MQ below (va_Qi Z (zB (dC, dI) zCl [(cA1, .char), (cA3, .int), (cA4, .int)] A (fun u : (Nat → Int32) × (Nat → Int32) × (Nat → Int32) => [(h0, .inr (8, o_Reader I0 h1 h2 a0_3)), (h1, .inl (cA1, n1, .inl f1)), (h2, .inr (1, o_Code u.1 a2_0 h3 h4)), (h3, .inl (cA3, n3, .inl u.2.1)), (h4, .inl (cA4, n4, .inl u.2.2))])) A) args s 0 0 A) (F0 m 99 ls [.int s0]) := by
  obtain ⟨hx, hb, hr, hml, hown, ht, hlocks⟩ := id hc
  unfold v_Reader_readRow_99 at hv
  refine lv_goto (tgt := 103) hx hb d_Reader_readRow_99 (by decide) ?_
  exact W.iret (v := s0) hx hb hr (fun t ht hW => ⟨⟨_, (I2, f3, f4), rfl, hv, ⟨by rw [ht]; exact hP, va_K.moved hW.alike hK, hD⟩⟩, hS.F ht⟩) hS.2.2 d_Reader_readRow_103
set_option maxHeartbeats 4000000 in
set_option maxRecDepth 100000 in
theorem b_Reader_readRow_5 {h0 : Nat} {a0_3 : Nat} {h1 : Nat} {cA1 : ClassId} {h2 : Nat} {a2_0 : Nat} {h3 : Nat} {cA3 : ClassId} {h4 : Nat} {cA4 : ClassId} {I0 : Nat → Int32} {n1 : Nat} {f1 : Nat → Int32} {I2 : Nat → Int32} {n3 : Nat} {f3 : Nat → Int32} {n4 : Nat} {f4 : Nat → Int32} {x2 : Int32} {s0 : Int32}  {Z : Int32 → (Nat → Int32) × (Nat → Int32) × (Nat → Int32) → Prop} {H : Heap} {locs : List Loc} {ls : Array Slot} (hc : zC p s m args meth c prog_9_method_25_code (some .int) 4 "NumberDress$Reader") (hA : ∀ q : Nat, s.heap.size ≤ q → A q) (hE : zE gE A s) (hl : lv_has ls 4 [(0, .ref h0), (2, .int x2)]) (hK : va_K (dC, dI) zCl [(cA1, .char), (cA3, .int), (cA4, .int)] s) (hP : va_P (dC, dI) zCl [(h0, .inr (8, o_Reader I0 h1 h2 a0_3)), (h1, .inl (cA1, n1, .inl f1)), (h2, .inr (1, o_Code I2 a2_0 h3 h4)), (h3, .inl (cA3, n3, .inl f3)), (h4, .inl (cA4, n4, .inl f4))] H) (hD : va_D A [(h0, .inr (8, o_Reader I0 h1 h2 a0_3)), (h1, .inl (cA1, n1, .inl f1)), (h2, .inr (1, o_Code I2 a2_0 h3 h4)), (h3, .inl (cA3, n3, .inl f3)), (h4, .inl (cA4, n4, .inl f4))]) (hS : va_S A s.heap H locs) (hv : v_Reader_readRow_5 I0 n1 f1 I2 n3 f3 n4 f4 x2 s0  Z) : W p l e (headSpec (Cond.code (⟨"NumberDress$Reader", "readRow", "(IC)I"⟩ : MethodName) prog_9_method_25_code 4 (some .int) :: zT) { frames := 2, cells := 0, slots := 0, locals := 44 }).room s m args below meth c H locs 0 0 (MQ below (va_Qi Z (zB (dC, dI) zCl [(cA1, .char), (cA3, .int), (cA4, .int)] A (fun u : (Nat → Int32) × (Nat → Int32) × (Nat → Int32) => [(h0, .inr (8, o_Reader I0 h1 h2 a0_3)), (h1, .inl (cA1, n1, .inl f1)), (h2, .inr (1, o_Code u.1 a2_0 h3 h4)), (h3, .inl (cA3, n3, .inl u.2.1)), (h4, .inl (cA4, n4, .inl u.2.2))])) A) args s 0 0 A) (F0 m 5 ls [.int s0]) := by
  obtain ⟨hx, hb, hr, hml, hown, ht, hlocks⟩ := id hc
  unfold v_Reader_readRow_5 at hv
  refine lv_istore_n (lv' := [(3, .int s0), (0, .ref h0), (2, .int x2)]) hx hb d_Reader_readRow_5 rfl hl (by decide) rfl (fun ls hl => ?_)
  refine lv_iload_n hx hb d_Reader_readRow_6 rfl (lv_at hl 2 rfl) ?_
  by_cases c_1 : x2 = (100 : Int32)
  · have hv := hv.1 c_1
    refine lv_lookup (off := 80) (tgt := 87) hx hb d_Reader_readRow_7 (by decide) (by rw [c_1] <;> rfl) (by decide) ?_
    refine lv_iload_n hx hb d_Reader_readRow_87 rfl (lv_at hl 0 rfl) ?_
    refine lv_iconst (v := (4 : Int32)) hx hb d_Reader_readRow_88 (by decide) ?_
    refine lv_icmp_gt (tgt := 102) hx hb d_Reader_readRow_89 (by decide) (fun c_2 => ?_) (fun c_2 => ?_)
    · have hv := hv.1 c_2
      refine lv_iconst (v := (0 : Int32)) hx hb d_Reader_readRow_102 (by decide) ?_
      exact W.iret (v := (0 : Int32)) hx hb hr (fun t ht hW => ⟨⟨_, (I2, f3, f4), rfl, hv, ⟨by rw [ht]; exact hP, va_K.moved hW.alike hK, hD⟩⟩, hS.F ht⟩) hS.2.2 d_Reader_readRow_103
    · have hv := hv.2 c_2
      refine lv_aload_n hx hb d_Reader_readRow_92 rfl (lv_at hl 1 rfl) ?_
      refine lv_bipush (v := (22 : Int32)) hx hb d_Reader_readRow_93 (by decide) ?_
      refine lv_iload_n hx hb d_Reader_readRow_95 rfl (lv_at hl 0 rfl) ?_
      refine z_calli (wc := [(h0, .inr (8, o_Reader I0 h1 h2 a0_3)), (h2, .inr (1, o_Code I2 a2_0 h3 h4)), (h3, .inl (cA3, n3, .inl f3)), (h4, .inl (cA4, n4, .inl f4))]) (wr := [(h1, .inl (cA1, n1, .inl f1))]) [0, 2, 3, 4] [1] (va_runV (As := [.int (22 : Int32), .int s0]) (rest := []) ⟨hx, hb, hml, hown, ht⟩ (m_Reader_addRow l dC dI hv) ⟨(callB_of 2 ht (zG_in zi_Reader_addRow) rfl rfl rfl (ht _ zw_113) (ht _ zw_781) zh_Reader_addRow ⟨Nat.le_of_ble_eq_true rfl, Nat.le_of_ble_eq_true rfl⟩), (ht _ zw_783), (ht _ zw_28)⟩ ⟨zPc_blind, va_recv hK hP (ci := 8) (q0 := 0) rfl rfl, zPc_pre hP hK hD hS hA hE [0, 2, 3, 4] [1, 2] rfl rfl (by decide) rfl⟩ rfl rfl hl.1 rfl (lv_room (Nat.le_of_ble_eq_true rfl)) d_Reader_readRow_96 ⟨Nat.le_of_ble_eq_true rfl, Nat.le_of_ble_eq_true rfl⟩) hP hD hS hA rfl rfl (by decide) (by decide) (fun r u H locs hv hP hD hS => ?_)
      have hP : va_P (dC, dI) zCl [(h0, .inr (8, o_Reader I0 h1 h2 a0_3)), (h1, .inl (cA1, n1, .inl f1)), (h2, .inr (1, o_Code u.1 a2_0 h3 h4)), (h3, .inl (cA3, n3, .inl u.2.1)), (h4, .inl (cA4, n4, .inl u.2.2))] H := hP.sub [1, 0, 2, 3, 4] rfl
      have hD : va_D A [(h0, .inr (8, o_Reader I0 h1 h2 a0_3)), (h1, .inl (cA1, n1, .inl f1)), (h2, .inr (1, o_Code u.1 a2_0 h3 h4)), (h3, .inl (cA3, n3, .inl u.2.1)), (h4, .inl (cA4, n4, .inl u.2.2))] := hD.sub [1, 0, 2, 3, 4] (by decide) rfl
      exact b_Reader_readRow_99 hc hA hE  (lv_sub hl [] rfl) hK hP hD hS hv
  have hv := hv.2 c_1
  by_cases c_3 : x2 = (104 : Int32)
  · have hv := hv.1 c_3
    refine lv_lookup (off := 97) (tgt := 104) hx hb d_Reader_readRow_7 (by decide) (by rw [c_3] <;> rfl) (by decide) ?_
    refine lv_iload_n hx hb d_Reader_readRow_104 rfl (lv_at hl 0 rfl) ?_
    refine lv_iconst (v := (2 : Int32)) hx hb d_Reader_readRow_105 (by decide) ?_
    refine lv_icmp_gt (tgt := 119) hx hb d_Reader_readRow_106 (by decide) (fun c_4 => ?_) (fun c_4 => ?_)
    · have hv := hv.1 c_4
      refine lv_iconst (v := (0 : Int32)) hx hb d_Reader_readRow_119 (by decide) ?_
      exact W.iret (v := (0 : Int32)) hx hb hr (fun t ht hW => ⟨⟨_, (I2, f3, f4), rfl, hv, ⟨by rw [ht]; exact hP, va_K.moved hW.alike hK, hD⟩⟩, hS.F ht⟩) hS.2.2 d_Reader_readRow_120
    · have hv := hv.2 c_4
      refine lv_aload_n hx hb d_Reader_readRow_109 rfl (lv_at hl 1 rfl) ?_
      refine lv_bipush (v := (23 : Int32)) hx hb d_Reader_readRow_110 (by decide) ?_
      refine lv_iload_n hx hb d_Reader_readRow_112 rfl (lv_at hl 0 rfl) ?_
      refine z_calli (wc := [(h0, .inr (8, o_Reader I0 h1 h2 a0_3)), (h2, .inr (1, o_Code I2 a2_0 h3 h4)), (h3, .inl (cA3, n3, .inl f3)), (h4, .inl (cA4, n4, .inl f4))]) (wr := [(h1, .inl (cA1, n1, .inl f1))]) [0, 2, 3, 4] [1] (va_runV (As := [.int (23 : Int32), .int s0]) (rest := []) ⟨hx, hb, hml, hown, ht⟩ (m_Reader_addRow l dC dI hv) ⟨(callB_of 2 ht (zG_in zi_Reader_addRow) rfl rfl rfl (ht _ zw_113) (ht _ zw_781) zh_Reader_addRow ⟨Nat.le_of_ble_eq_true rfl, Nat.le_of_ble_eq_true rfl⟩), (ht _ zw_783), (ht _ zw_28)⟩ ⟨zPc_blind, va_recv hK hP (ci := 8) (q0 := 0) rfl rfl, zPc_pre hP hK hD hS hA hE [0, 2, 3, 4] [1, 2] rfl rfl (by decide) rfl⟩ rfl rfl hl.1 rfl (lv_room (Nat.le_of_ble_eq_true rfl)) d_Reader_readRow_113 ⟨Nat.le_of_ble_eq_true rfl, Nat.le_of_ble_eq_true rfl⟩) hP hD hS hA rfl rfl (by decide) (by decide) (fun r u H locs hv hP hD hS => ?_)
      have hP : va_P (dC, dI) zCl [(h0, .inr (8, o_Reader I0 h1 h2 a0_3)), (h1, .inl (cA1, n1, .inl f1)), (h2, .inr (1, o_Code u.1 a2_0 h3 h4)), (h3, .inl (cA3, n3, .inl u.2.1)), (h4, .inl (cA4, n4, .inl u.2.2))] H := hP.sub [1, 0, 2, 3, 4] rfl
      have hD : va_D A [(h0, .inr (8, o_Reader I0 h1 h2 a0_3)), (h1, .inl (cA1, n1, .inl f1)), (h2, .inr (1, o_Code u.1 a2_0 h3 h4)), (h3, .inl (cA3, n3, .inl u.2.1)), (h4, .inl (cA4, n4, .inl u.2.2))] := hD.sub [1, 0, 2, 3, 4] (by decide) rfl
      exact b_Reader_readRow_116 hc hA hE  (lv_sub hl [] rfl) hK hP hD hS hv
  have hv := hv.2 c_3
  by_cases c_5 : x2 = (109 : Int32)
  · have hv := hv.1 c_5
    refine lv_lookup (off := 63) (tgt := 70) hx hb d_Reader_readRow_7 (by decide) (by rw [c_5] <;> rfl) (by decide) ?_
    refine lv_iload_n hx hb d_Reader_readRow_70 rfl (lv_at hl 0 rfl) ?_
    refine lv_iconst (v := (5 : Int32)) hx hb d_Reader_readRow_71 (by decide) ?_
    refine lv_icmp_gt (tgt := 85) hx hb d_Reader_readRow_72 (by decide) (fun c_6 => ?_) (fun c_6 => ?_)
    · have hv := hv.1 c_6
      refine lv_iconst (v := (0 : Int32)) hx hb d_Reader_readRow_85 (by decide) ?_
      exact W.iret (v := (0 : Int32)) hx hb hr (fun t ht hW => ⟨⟨_, (I2, f3, f4), rfl, hv, ⟨by rw [ht]; exact hP, va_K.moved hW.alike hK, hD⟩⟩, hS.F ht⟩) hS.2.2 d_Reader_readRow_86
    · have hv := hv.2 c_6
      refine lv_aload_n hx hb d_Reader_readRow_75 rfl (lv_at hl 1 rfl) ?_
      refine lv_bipush (v := (21 : Int32)) hx hb d_Reader_readRow_76 (by decide) ?_
      refine lv_iload_n hx hb d_Reader_readRow_78 rfl (lv_at hl 0 rfl) ?_
      refine z_calli (wc := [(h0, .inr (8, o_Reader I0 h1 h2 a0_3)), (h2, .inr (1, o_Code I2 a2_0 h3 h4)), (h3, .inl (cA3, n3, .inl f3)), (h4, .inl (cA4, n4, .inl f4))]) (wr := [(h1, .inl (cA1, n1, .inl f1))]) [0, 2, 3, 4] [1] (va_runV (As := [.int (21 : Int32), .int s0]) (rest := []) ⟨hx, hb, hml, hown, ht⟩ (m_Reader_addRow l dC dI hv) ⟨(callB_of 2 ht (zG_in zi_Reader_addRow) rfl rfl rfl (ht _ zw_113) (ht _ zw_781) zh_Reader_addRow ⟨Nat.le_of_ble_eq_true rfl, Nat.le_of_ble_eq_true rfl⟩), (ht _ zw_783), (ht _ zw_28)⟩ ⟨zPc_blind, va_recv hK hP (ci := 8) (q0 := 0) rfl rfl, zPc_pre hP hK hD hS hA hE [0, 2, 3, 4] [1, 2] rfl rfl (by decide) rfl⟩ rfl rfl hl.1 rfl (lv_room (Nat.le_of_ble_eq_true rfl)) d_Reader_readRow_79 ⟨Nat.le_of_ble_eq_true rfl, Nat.le_of_ble_eq_true rfl⟩) hP hD hS hA rfl rfl (by decide) (by decide) (fun r u H locs hv hP hD hS => ?_)
      have hP : va_P (dC, dI) zCl [(h0, .inr (8, o_Reader I0 h1 h2 a0_3)), (h1, .inl (cA1, n1, .inl f1)), (h2, .inr (1, o_Code u.1 a2_0 h3 h4)), (h3, .inl (cA3, n3, .inl u.2.1)), (h4, .inl (cA4, n4, .inl u.2.2))] H := hP.sub [1, 0, 2, 3, 4] rfl
      have hD : va_D A [(h0, .inr (8, o_Reader I0 h1 h2 a0_3)), (h1, .inl (cA1, n1, .inl f1)), (h2, .inr (1, o_Code u.1 a2_0 h3 h4)), (h3, .inl (cA3, n3, .inl u.2.1)), (h4, .inl (cA4, n4, .inl u.2.2))] := hD.sub [1, 0, 2, 3, 4] (by decide) rfl
      exact b_Reader_readRow_82 hc hA hE  (lv_sub hl [] rfl) hK hP hD hS hv
  have hv := hv.2 c_5
  by_cases c_7 : x2 = (121 : Int32)
  · have hv := hv.1 c_7
    refine lv_lookup (off := 41) (tgt := 48) hx hb d_Reader_readRow_7 (by decide) (by rw [c_7] <;> rfl) (by decide) ?_
    refine lv_iload_n hx hb d_Reader_readRow_48 rfl (lv_at hl 0 rfl) ?_
    refine lv_iconst (v := (2 : Int32)) hx hb d_Reader_readRow_49 (by decide) ?_
    refine lv_icmp_eq (tgt := 58) hx hb d_Reader_readRow_50 (by decide) (fun c_8 => ?_) (fun c_8 => ?_)
    · have hv := hv.1 c_8
      exact b_Reader_readRow_58 hc hA hE  (lv_sub hl [1, 0] rfl) hK hP hD hS hv
    · have hv := hv.2 c_8
      refine lv_iload_n hx hb d_Reader_readRow_53 rfl (lv_at hl 0 rfl) ?_
      refine lv_iconst (v := (4 : Int32)) hx hb d_Reader_readRow_54 (by decide) ?_
      refine lv_icmp_ne (tgt := 68) hx hb d_Reader_readRow_55 (by decide) (fun c_9 => ?_) (fun c_9 => ?_)
      · have hv := hv.1 c_9
        refine lv_iconst (v := (0 : Int32)) hx hb d_Reader_readRow_68 (by decide) ?_
        exact W.iret (v := (0 : Int32)) hx hb hr (fun t ht hW => ⟨⟨_, (I2, f3, f4), rfl, hv, ⟨by rw [ht]; exact hP, va_K.moved hW.alike hK, hD⟩⟩, hS.F ht⟩) hS.2.2 d_Reader_readRow_69
      · have hv := hv.2 c_9
        exact b_Reader_readRow_58 hc hA hE  (lv_sub hl [1, 0] rfl) hK hP hD hS hv
  have hv := hv.2 c_7
  refine lv_lookup (off := 114) (tgt := 121) hx hb d_Reader_readRow_7 (by decide) ((lv_osw c_1 (by decide)).trans ((lv_osw c_3 (by decide)).trans ((lv_osw c_5 (by decide)).trans ((lv_osw c_7 (by decide)).trans rfl)))) (by decide) ?_
  refine lv_iload_n hx hb d_Reader_readRow_121 rfl (lv_at hl 0 rfl) ?_
  refine lv_iconst (v := (2 : Int32)) hx hb d_Reader_readRow_122 (by decide) ?_
  refine lv_icmp_gt (tgt := 136) hx hb d_Reader_readRow_123 (by decide) (fun c_10 => ?_) (fun c_10 => ?_)
  · have hv := hv.1 c_10
    refine lv_iconst (v := (0 : Int32)) hx hb d_Reader_readRow_136 (by decide) ?_
    exact W.iret (v := (0 : Int32)) hx hb hr (fun t ht hW => ⟨⟨_, (I2, f3, f4), rfl, hv, ⟨by rw [ht]; exact hP, va_K.moved hW.alike hK, hD⟩⟩, hS.F ht⟩) hS.2.2 d_Reader_readRow_137
  · have hv := hv.2 c_10
    refine lv_aload_n hx hb d_Reader_readRow_126 rfl (lv_at hl 1 rfl) ?_
    refine lv_bipush (v := (25 : Int32)) hx hb d_Reader_readRow_127 (by decide) ?_
    refine lv_iload_n hx hb d_Reader_readRow_129 rfl (lv_at hl 0 rfl) ?_
    refine z_calli (wc := [(h0, .inr (8, o_Reader I0 h1 h2 a0_3)), (h2, .inr (1, o_Code I2 a2_0 h3 h4)), (h3, .inl (cA3, n3, .inl f3)), (h4, .inl (cA4, n4, .inl f4))]) (wr := [(h1, .inl (cA1, n1, .inl f1))]) [0, 2, 3, 4] [1] (va_runV (As := [.int (25 : Int32), .int s0]) (rest := []) ⟨hx, hb, hml, hown, ht⟩ (m_Reader_addRow l dC dI hv) ⟨(callB_of 2 ht (zG_in zi_Reader_addRow) rfl rfl rfl (ht _ zw_113) (ht _ zw_781) zh_Reader_addRow ⟨Nat.le_of_ble_eq_true rfl, Nat.le_of_ble_eq_true rfl⟩), (ht _ zw_783), (ht _ zw_28)⟩ ⟨zPc_blind, va_recv hK hP (ci := 8) (q0 := 0) rfl rfl, zPc_pre hP hK hD hS hA hE [0, 2, 3, 4] [1, 2] rfl rfl (by decide) rfl⟩ rfl rfl hl.1 rfl (lv_room (Nat.le_of_ble_eq_true rfl)) d_Reader_readRow_130 ⟨Nat.le_of_ble_eq_true rfl, Nat.le_of_ble_eq_true rfl⟩) hP hD hS hA rfl rfl (by decide) (by decide) (fun r u H locs hv hP hD hS => ?_)
    have hP : va_P (dC, dI) zCl [(h0, .inr (8, o_Reader I0 h1 h2 a0_3)), (h1, .inl (cA1, n1, .inl f1)), (h2, .inr (1, o_Code u.1 a2_0 h3 h4)), (h3, .inl (cA3, n3, .inl u.2.1)), (h4, .inl (cA4, n4, .inl u.2.2))] H := hP.sub [1, 0, 2, 3, 4] rfl
    have hD : va_D A [(h0, .inr (8, o_Reader I0 h1 h2 a0_3)), (h1, .inl (cA1, n1, .inl f1)), (h2, .inr (1, o_Code u.1 a2_0 h3 h4)), (h3, .inl (cA3, n3, .inl u.2.1)), (h4, .inl (cA4, n4, .inl u.2.2))] := hD.sub [1, 0, 2, 3, 4] (by decide) rfl
    exact b_Reader_readRow_133 hc hA hE  (lv_sub hl [] rfl) hK hP hD hS hv
set_option maxHeartbeats 4000000 in
set_option maxRecDepth 100000 in
theorem b_Reader_readRow_0 {h0 : Nat} {a0_3 : Nat} {h1 : Nat} {cA1 : ClassId} {h2 : Nat} {a2_0 : Nat} {h3 : Nat} {cA3 : ClassId} {h4 : Nat} {cA4 : ClassId} {I0 : Nat → Int32} {n1 : Nat} {f1 : Nat → Int32} {I2 : Nat → Int32} {n3 : Nat} {f3 : Nat → Int32} {n4 : Nat} {f4 : Nat → Int32} {x1 : Int32} {x2 : Int32}  {Z : Int32 → (Nat → Int32) × (Nat → Int32) × (Nat → Int32) → Prop} {H : Heap} {locs : List Loc} {ls : Array Slot} (hc : zC p s m args meth c prog_9_method_25_code (some .int) 4 "NumberDress$Reader") (hA : ∀ q : Nat, s.heap.size ≤ q → A q) (hE : zE gE A s) (hl : lv_has ls 4 [(0, .ref h0), (1, .int x1), (2, .int x2)]) (hK : va_K (dC, dI) zCl [(cA1, .char), (cA3, .int), (cA4, .int)] s) (hP : va_P (dC, dI) zCl [(h0, .inr (8, o_Reader I0 h1 h2 a0_3)), (h1, .inl (cA1, n1, .inl f1)), (h2, .inr (1, o_Code I2 a2_0 h3 h4)), (h3, .inl (cA3, n3, .inl f3)), (h4, .inl (cA4, n4, .inl f4))] H) (hD : va_D A [(h0, .inr (8, o_Reader I0 h1 h2 a0_3)), (h1, .inl (cA1, n1, .inl f1)), (h2, .inr (1, o_Code I2 a2_0 h3 h4)), (h3, .inl (cA3, n3, .inl f3)), (h4, .inl (cA4, n4, .inl f4))]) (hS : va_S A s.heap H locs) (hv : v_Reader_readRow_0 I0 n1 f1 I2 n3 f3 n4 f4 x1 x2  Z) : W p l e (headSpec (Cond.code (⟨"NumberDress$Reader", "readRow", "(IC)I"⟩ : MethodName) prog_9_method_25_code 4 (some .int) :: zT) { frames := 2, cells := 0, slots := 0, locals := 44 }).room s m args below meth c H locs 0 0 (MQ below (va_Qi Z (zB (dC, dI) zCl [(cA1, .char), (cA3, .int), (cA4, .int)] A (fun u : (Nat → Int32) × (Nat → Int32) × (Nat → Int32) => [(h0, .inr (8, o_Reader I0 h1 h2 a0_3)), (h1, .inl (cA1, n1, .inl f1)), (h2, .inr (1, o_Code u.1 a2_0 h3 h4)), (h3, .inl (cA3, n3, .inl u.2.1)), (h4, .inl (cA4, n4, .inl u.2.2))])) A) args s 0 0 A) (F0 m 0 ls []) := by
  obtain ⟨hx, hb, hr, hml, hown, ht, hlocks⟩ := id hc
  unfold v_Reader_readRow_0 at hv
  refine lv_aload_n hx hb d_Reader_readRow_0 rfl (lv_at hl 0 rfl) ?_
  refine lv_iload_n hx hb d_Reader_readRow_1 rfl (lv_at hl 1 rfl) ?_
  refine z_calli (wc := [(h0, .inr (8, o_Reader I0 h1 h2 a0_3)), (h1, .inl (cA1, n1, .inl f1))]) (wr := [(h2, .inr (1, o_Code I2 a2_0 h3 h4)), (h3, .inl (cA3, n3, .inl f3)), (h4, .inl (cA4, n4, .inl f4))]) [0, 1] [2, 3, 4] (va_runV (As := [.int x1]) (rest := []) ⟨hx, hb, hml, hown, ht⟩ (m_Reader_rowLength l dC dI hv) ⟨(callB_of 1 ht (zG_in zi_Reader_rowLength) rfl rfl rfl (ht _ zw_113) (ht _ zw_688) zh_Reader_rowLength ⟨Nat.le_of_ble_eq_true rfl, Nat.le_of_ble_eq_true rfl⟩), (ht _ zw_690), (ht _ zw_11)⟩ ⟨zPc_blind, va_recv hK hP (ci := 8) (q0 := 0) rfl rfl, zPc_pre hP hK hD hS hA hE [0, 1] [0] rfl rfl (by decide) rfl⟩ rfl rfl hl.1 rfl (lv_room (Nat.le_of_ble_eq_true rfl)) d_Reader_readRow_2 ⟨Nat.le_of_ble_eq_true rfl, Nat.le_of_ble_eq_true rfl⟩) hP hD hS hA rfl rfl (by decide) (by decide) (fun r u H locs hv hP hD hS => ?_)
  have hP : va_P (dC, dI) zCl [(h0, .inr (8, o_Reader I0 h1 h2 a0_3)), (h1, .inl (cA1, n1, .inl f1)), (h2, .inr (1, o_Code I2 a2_0 h3 h4)), (h3, .inl (cA3, n3, .inl f3)), (h4, .inl (cA4, n4, .inl f4))] H := hP.sub [3, 4, 0, 1, 2] rfl
  have hD : va_D A [(h0, .inr (8, o_Reader I0 h1 h2 a0_3)), (h1, .inl (cA1, n1, .inl f1)), (h2, .inr (1, o_Code I2 a2_0 h3 h4)), (h3, .inl (cA3, n3, .inl f3)), (h4, .inl (cA4, n4, .inl f4))] := hD.sub [3, 4, 0, 1, 2] (by decide) rfl
  exact b_Reader_readRow_5 hc hA hE  (lv_sub hl [0, 2] rfl) hK hP hD hS hv
theorem zi_Reader_readRow : Cond.code (⟨"NumberDress$Reader", "readRow", "(IC)I"⟩ : MethodName) prog_9_method_25_code 4 (some .int) ∈ zT := zw_780
theorem zh_Reader_readRow : (((⟨"NumberDress$Reader", "readRow", "(IC)I"⟩ : MethodName)).cls ≠ "java/lang/invoke/MethodHandle" ∧ ((⟨"NumberDress$Reader", "readRow", "(IC)I"⟩ : MethodName)).cls ≠ "java/lang/invoke/VarHandle" ∧ (parseMethodDescriptor ((⟨"NumberDress$Reader", "readRow", "(IC)I"⟩ : MethodName)).desc).map (fun d => d.parameters.length) = some 2) := by decide +kernel
set_option maxHeartbeats 4000000 in
set_option maxRecDepth 100000 in
theorem m_Reader_readRow (l : Launch) (dC : Nat → ClassId) (dI : Nat → Nat → Nat) {gE : zG} {h0 : Nat} {a0_3 : Nat} {h1 : Nat} {cA1 : ClassId} {h2 : Nat} {a2_0 : Nat} {h3 : Nat} {cA3 : ClassId} {h4 : Nat} {cA4 : ClassId} {I0 : Nat → Int32} {n1 : Nat} {f1 : Nat → Int32} {I2 : Nat → Int32} {n3 : Nat} {f3 : Nat → Int32} {n4 : Nat} {f4 : Nat → Int32} {x1 : Int32} {x2 : Int32} {sz : Nat} {Z : Int32 → (Nat → Int32) × (Nat → Int32) × (Nat → Int32) → Prop} (hv : v_Reader_readRow_0 I0 n1 f1 I2 n3 f3 n4 f4 x1 x2 Z) : Met l (⟨"NumberDress$Reader", "readRow", "(IC)I"⟩ : MethodName) (Cond.code (⟨"NumberDress$Reader", "readRow", "(IC)I"⟩ : MethodName) prog_9_method_25_code 4 (some .int) :: zT) { frames := 2, cells := 0, slots := 0, locals := 44 } (zPc gE (dC, dI) zCl [(cA1, .char), (cA3, .int), (cA4, .int)] [.ref h0, .int x1, .int x2] sz [(h0, .inr (8, o_Reader I0 h1 h2 a0_3)), (h1, .inl (cA1, n1, .inl f1)), (h2, .inr (1, o_Code I2 a2_0 h3 h4)), (h3, .inl (cA3, n3, .inl f3)), (h4, .inl (cA4, n4, .inl f4))]) (va_Qi Z (zB (dC, dI) zCl [(cA1, .char), (cA3, .int), (cA4, .int)] (va_A [(h0, .inr (8, o_Reader I0 h1 h2 a0_3)), (h1, .inl (cA1, n1, .inl f1)), (h2, .inr (1, o_Code I2 a2_0 h3 h4)), (h3, .inl (cA3, n3, .inl f3)), (h4, .inl (cA4, n4, .inl f4))] sz) (fun u : (Nat → Int32) × (Nat → Int32) × (Nat → Int32) => [(h0, .inr (8, o_Reader I0 h1 h2 a0_3)), (h1, .inl (cA1, n1, .inl f1)), (h2, .inr (1, o_Code u.1 a2_0 h3 h4)), (h3, .inl (cA3, n3, .inl u.2.1)), (h4, .inl (cA4, n4, .inl u.2.2))])) (va_A [(h0, .inr (8, o_Reader I0 h1 h2 a0_3)), (h1, .inl (cA1, n1, .inl f1)), (h2, .inr (1, o_Code I2 a2_0 h3 h4)), (h3, .inl (cA3, n3, .inl f3)), (h4, .inl (cA4, n4, .inl f4))] sz)) 0 0 (va_A [(h0, .inr (8, o_Reader I0 h1 h2 a0_3)), (h1, .inl (cA1, n1, .inl f1)), (h2, .inr (1, o_Code I2 a2_0 h3 h4)), (h3, .inl (cA3, n3, .inl f3)), (h4, .inl (cA4, n4, .inl f4))] sz) := by
  refine Met.ofW (cc := prog_9_method_25_code) (maxL := 4) (ret := (some .int)) (by decide +kernel) rfl ?_
  intro p e s m args below meth c s₁ B hml hp
  obtain ⟨rfl, hsz, hP, hK, hD0, hE⟩ := hp
  have hts := atoms_spec (ws := (Cond.code (⟨"NumberDress$Reader", "readRow", "(IC)I"⟩ : MethodName) prog_9_method_25_code 4 (some .int) :: zT)) B.pre
  have hown : s.vm.findClass "NumberDress$Reader" = some m.cls := findClass_of_methodNamed B.named
  have hc : zC p s m _ meth c prog_9_method_25_code (some .int) 4 "NumberDress$Reader" := ⟨B.exec, B.bytes, B.returns, hml, hown, fun w h => hts w (List.mem_cons_of_mem _ h), B.notSynchronized⟩
  subst hsz
  have hD := hD0.self (sz := s.heap.size)
  generalize hAe : va_A [(h0, .inr (8, o_Reader I0 h1 h2 a0_3)), (h1, .inl (cA1, n1, .inl f1)), (h2, .inr (1, o_Code I2 a2_0 h3 h4)), (h3, .inl (cA3, n3, .inl f3)), (h4, .inl (cA4, n4, .inl f4))] s.heap.size = A at hD hE ⊢
  have hA : ∀ q : Nat, s.heap.size ≤ q → A q := fun q h => by rw [← hAe]; exact Or.inr h
  have hl := lv_entry ([.ref h0, .int x1, .int x2]) (n := 4) (Nat.le_of_ble_eq_true rfl)
  rw [lg_entry_eq]
  exact b_Reader_readRow_0 hc hA hE hl hK hP hD va_S.rf hv
end
