section
variable {p : Program} {l : Launch} {e : Env} {s : State} {m : MethodId} {args : Array Value} {below : List Frame} {meth : Method} {c : Code} {dC : Nat → ClassId} {dI : Nat → Nat → Nat} {A : Nat → Prop} {gE : zG}
theorem d_Reader_isOwnLiteral_0 : decode prog_9_method_43_code 0 = .ok (.iload_n 0, 1) := by decide +kernel
theorem d_Reader_isOwnLiteral_1 : decode prog_9_method_43_code 1 = .ok (.ifCond .eq 17, 3) := by decide +kernel
theorem d_Reader_isOwnLiteral_4 : decode prog_9_method_43_code 4 = .ok (.ldc_w 266, 3) := by decide +kernel
theorem d_Reader_isOwnLiteral_7 : decode prog_9_method_43_code 7 = .ok (.iload_n 0, 1) := by decide +kernel
theorem d_Reader_isOwnLiteral_8 : decode prog_9_method_43_code 8 = .ok (.invokevirtual 268, 3) := by decide +kernel
theorem d_Reader_isOwnLiteral_11 : decode prog_9_method_43_code 11 = .ok (.ifCond .lt 7, 3) := by decide +kernel
theorem d_Reader_isOwnLiteral_14 : decode prog_9_method_43_code 14 = .ok (.iconst 1, 1) := by decide +kernel
theorem d_Reader_isOwnLiteral_15 : decode prog_9_method_43_code 15 = .ok (.goto 4, 3) := by decide +kernel
theorem d_Reader_isOwnLiteral_18 : decode prog_9_method_43_code 18 = .ok (.iconst 0, 1) := by decide +kernel
theorem d_Reader_isOwnLiteral_19 : decode prog_9_method_43_code 19 = .ok (.ireturn, 1) := by decide +kernel
set_option maxHeartbeats 4000000 in
set_option maxRecDepth 100000 in
theorem b_Reader_isOwnLiteral_11  {s0 : Int32}  {Z : Int32 → Unit → Prop} {H : Heap} {locs : List Loc} {ls : Array Slot} (hc : zC p s m args meth c prog_9_method_43_code (some .boolean) 1 "NumberDress$Reader") (hA : ∀ q : Nat, s.heap.size ≤ q → A q) (hE : zE gE A s) (hl : lv_has ls 1 []) (hK : va_K (dC, dI) zCl [] s) (hP : va_P (dC, dI) zCl [] H) (hD : va_D A []) (hS : va_S A s.heap H locs) (hv : v_Reader_isOwnLiteral_11 s0  Z) : W p l e (headSpec (Cond.code (⟨"NumberDress$Reader", "isOwnLiteral", "(C)Z"⟩ : MethodName) prog_9_method_43_code 1 (some .boolean) :: zT) { frames := 4, cells := 0, slots := 0, locals := 91 }).room s m args below meth c H locs 0 0 (MQ below (va_Qi Z (zB (dC, dI) zCl [] A (fun u : Unit => [])) A) args s 0 0 A) (F0 m 11 ls [.int s0]) := by
  obtain ⟨hx, hb, hr, hml, hown, ht, hlocks⟩ := id hc
  unfold v_Reader_isOwnLiteral_11 at hv
  refine lv_if_lt (tgt := 18) hx hb d_Reader_isOwnLiteral_11 (by decide) (fun c_1 => ?_) (fun c_1 => ?_)
  · have hv := hv.1 c_1
    refine lv_iconst (v := (0 : Int32)) hx hb d_Reader_isOwnLiteral_18 (by decide) ?_
    exact W.zret (v := (0 : Int32)) hx hb hr (by decide) (fun t ht hW => ⟨⟨_, (), rfl, hv, ⟨by rw [ht]; exact hP, va_K.moved hW.alike hK, hD⟩⟩, hS.F ht⟩) hS.2.2 d_Reader_isOwnLiteral_19
  · have hv := hv.2 c_1
    refine lv_iconst (v := (1 : Int32)) hx hb d_Reader_isOwnLiteral_14 (by decide) ?_
    refine lv_goto (tgt := 19) hx hb d_Reader_isOwnLiteral_15 (by decide) ?_
    exact W.zret (v := (1 : Int32)) hx hb hr (by decide) (fun t ht hW => ⟨⟨_, (), rfl, hv, ⟨by rw [ht]; exact hP, va_K.moved hW.alike hK, hD⟩⟩, hS.F ht⟩) hS.2.2 d_Reader_isOwnLiteral_19
set_option maxHeartbeats 4000000 in
set_option maxRecDepth 100000 in
theorem b_Reader_isOwnLiteral_0  {x0 : Int32}  {Z : Int32 → Unit → Prop} {H : Heap} {locs : List Loc} {ls : Array Slot} (hc : zC p s m args meth c prog_9_method_43_code (some .boolean) 1 "NumberDress$Reader") (hA : ∀ q : Nat, s.heap.size ≤ q → A q) (hE : zE gE A s) (hl : lv_has ls 1 [(0, .int x0)]) (hK : va_K (dC, dI) zCl [] s) (hP : va_P (dC, dI) zCl [] H) (hD : va_D A []) (hS : va_S A s.heap H locs) (hv : v_Reader_isOwnLiteral_0 x0  Z) : W p l e (headSpec (Cond.code (⟨"NumberDress$Reader", "isOwnLiteral", "(C)Z"⟩ : MethodName) prog_9_method_43_code 1 (some .boolean) :: zT) { frames := 4, cells := 0, slots := 0, locals := 91 }).room s m args below meth c H locs 0 0 (MQ below (va_Qi Z (zB (dC, dI) zCl [] A (fun u : Unit => [])) A) args s 0 0 A) (F0 m 0 ls []) := by
  obtain ⟨hx, hb, hr, hml, hown, ht, hlocks⟩ := id hc
  unfold v_Reader_isOwnLiteral_0 at hv
  refine lv_iload_n hx hb d_Reader_isOwnLiteral_0 rfl (lv_at hl 0 rfl) ?_
  refine lv_if_eq (tgt := 18) hx hb d_Reader_isOwnLiteral_1 (by decide) (fun c_1 => ?_) (fun c_1 => ?_)
  · have hv := hv.1 c_1
    refine lv_iconst (v := (0 : Int32)) hx hb d_Reader_isOwnLiteral_18 (by decide) ?_
    exact W.zret (v := (0 : Int32)) hx hb hr (by decide) (fun t ht hW => ⟨⟨_, (), rfl, hv, ⟨by rw [ht]; exact hP, va_K.moved hW.alike hK, hD⟩⟩, hS.F ht⟩) hS.2.2 d_Reader_isOwnLiteral_19
  · have hv := hv.2 c_1
    refine z_ldcwS hx hb hown (hE.str (i := 8) (by decide)) d_Reader_isOwnLiteral_4 ?_
    refine lv_iload_n hx hb d_Reader_isOwnLiteral_7 rfl (lv_at hl 0 rfl) ?_
    obtain ⟨qs, hv⟩ := hv
    refine z_calli (wc := []) (wr := []) [] [] (va_runV (As := [.int x0]) (rest := []) ⟨hx, hb, hml, hown, ht⟩ (m_S_indexOf0 l dC dI hv) ⟨(callB_of 1 ht (zG_in zi_S_indexOf0) rfl rfl rfl (ht _ zw_129) (ht _ zw_599) zh_S_indexOf0 ⟨Nat.le_of_ble_eq_true rfl, Nat.le_of_ble_eq_true rfl⟩), (ht _ zw_600), (ht _ zw_601)⟩ ⟨zPc_blind, hE.srecv qs hS, zPc_pre hP hK hD hS hA hE [] [] rfl rfl (by decide) rfl⟩ rfl rfl hl.1 rfl (lv_room (Nat.le_of_ble_eq_true rfl)) d_Reader_isOwnLiteral_8 ⟨Nat.le_of_ble_eq_true rfl, Nat.le_of_ble_eq_true rfl⟩) hP hD hS hA rfl rfl (by decide) (by decide) (fun r u H locs hv hP hD hS => ?_)
    have hP : va_P (dC, dI) zCl [] H := hP.sub [] rfl
    have hD : va_D A [] := hD.sub [] (by decide) rfl
    exact b_Reader_isOwnLiteral_11 hc hA hE  (lv_sub hl [] rfl) hK hP hD hS hv
theorem zi_Reader_isOwnLiteral : Cond.code (⟨"NumberDress$Reader", "isOwnLiteral", "(C)Z"⟩ : MethodName) prog_9_method_43_code 1 (some .boolean) ∈ zT := zw_597
theorem zh_Reader_isOwnLiteral : (((⟨"NumberDress$Reader", "isOwnLiteral", "(C)Z"⟩ : MethodName)).cls ≠ "java/lang/invoke/MethodHandle" ∧ ((⟨"NumberDress$Reader", "isOwnLiteral", "(C)Z"⟩ : MethodName)).cls ≠ "java/lang/invoke/VarHandle" ∧ (parseMethodDescriptor ((⟨"NumberDress$Reader", "isOwnLiteral", "(C)Z"⟩ : MethodName)).desc).map (fun d => d.parameters.length) = some 1) := by decide +kernel
set_option maxHeartbeats 4000000 in
set_option maxRecDepth 100000 in
theorem m_Reader_isOwnLiteral (l : Launch) (dC : Nat → ClassId) (dI : Nat → Nat → Nat) {gE : zG}  {x0 : Int32} {sz : Nat} {Z : Int32 → Unit → Prop} (hv : v_Reader_isOwnLiteral_0 x0 Z) : Met l (⟨"NumberDress$Reader", "isOwnLiteral", "(C)Z"⟩ : MethodName) (Cond.code (⟨"NumberDress$Reader", "isOwnLiteral", "(C)Z"⟩ : MethodName) prog_9_method_43_code 1 (some .boolean) :: zT) { frames := 4, cells := 0, slots := 0, locals := 91 } (zPc gE (dC, dI) zCl [] [.int x0] sz []) (va_Qi Z (zB (dC, dI) zCl [] (va_A [] sz) (fun u : Unit => [])) (va_A [] sz)) 0 0 (va_A [] sz) := by
  refine Met.ofW (cc := prog_9_method_43_code) (maxL := 1) (ret := (some .boolean)) (by decide +kernel) rfl ?_
  intro p e s m args below meth c s₁ B hml hp
  obtain ⟨rfl, hsz, hP, hK, hD0, hE⟩ := hp
  have hts := atoms_spec (ws := (Cond.code (⟨"NumberDress$Reader", "isOwnLiteral", "(C)Z"⟩ : MethodName) prog_9_method_43_code 1 (some .boolean) :: zT)) B.pre
  have hown : s.vm.findClass "NumberDress$Reader" = some m.cls := findClass_of_methodNamed B.named
  have hc : zC p s m _ meth c prog_9_method_43_code (some .boolean) 1 "NumberDress$Reader" := ⟨B.exec, B.bytes, B.returns, hml, hown, fun w h => hts w (List.mem_cons_of_mem _ h), B.notSynchronized⟩
  subst hsz
  have hD := hD0.self (sz := s.heap.size)
  generalize hAe : va_A [] s.heap.size = A at hD hE ⊢
  have hA : ∀ q : Nat, s.heap.size ≤ q → A q := fun q h => by rw [← hAe]; exact Or.inr h
  have hl := lv_entry ([.int x0]) (n := 1) (Nat.le_of_ble_eq_true rfl)
  rw [lg_entry_eq]
  exact b_Reader_isOwnLiteral_0 hc hA hE hl hK hP hD va_S.rf hv
theorem d_Reader_sign_0 : decode prog_9_method_34_code 0 = .ok (.iload_n 1, 1) := by decide +kernel
theorem d_Reader_sign_1 : decode prog_9_method_34_code 1 = .ok (.ifCond .lt 29, 3) := by decide +kernel
theorem d_Reader_sign_4 : decode prog_9_method_34_code 4 = .ok (.iload_n 1, 1) := by decide +kernel
theorem d_Reader_sign_5 : decode prog_9_method_34_code 5 = .ok (.aload_n 0, 1) := by decide +kernel
theorem d_Reader_sign_6 : decode prog_9_method_34_code 6 = .ok (.getfield 35, 3) := by decide +kernel
theorem d_Reader_sign_9 : decode prog_9_method_34_code 9 = .ok (.if_icmp .ge 21, 3) := by decide +kernel
theorem d_Reader_sign_12 : decode prog_9_method_34_code 12 = .ok (.iload_n 1, 1) := by decide +kernel
theorem d_Reader_sign_13 : decode prog_9_method_34_code 13 = .ok (.aload_n 0, 1) := by decide +kernel
theorem d_Reader_sign_14 : decode prog_9_method_34_code 14 = .ok (.getfield 9, 3) := by decide +kernel
theorem d_Reader_sign_17 : decode prog_9_method_34_code 17 = .ok (.arraylength, 1) := by decide +kernel
theorem d_Reader_sign_18 : decode prog_9_method_34_code 18 = .ok (.if_icmp .ge 12, 3) := by decide +kernel
theorem d_Reader_sign_21 : decode prog_9_method_34_code 21 = .ok (.aload_n 0, 1) := by decide +kernel
theorem d_Reader_sign_22 : decode prog_9_method_34_code 22 = .ok (.getfield 9, 3) := by decide +kernel
theorem d_Reader_sign_25 : decode prog_9_method_34_code 25 = .ok (.iload_n 1, 1) := by decide +kernel
theorem d_Reader_sign_26 : decode prog_9_method_34_code 26 = .ok (.caload, 1) := by decide +kernel
theorem d_Reader_sign_27 : decode prog_9_method_34_code 27 = .ok (.goto 4, 3) := by decide +kernel
theorem d_Reader_sign_30 : decode prog_9_method_34_code 30 = .ok (.iconst 0, 1) := by decide +kernel
theorem d_Reader_sign_31 : decode prog_9_method_34_code 31 = .ok (.ireturn, 1) := by decide +kernel
set_option maxHeartbeats 4000000 in
set_option maxRecDepth 100000 in
theorem b_Reader_sign_0 {h0 : Nat} {a0_2 : Nat} {a0_3 : Nat} {h1 : Nat} {cA1 : ClassId} {I0 : Nat → Int32} {n1 : Nat} {f1 : Nat → Int32} {x1 : Int32}  {Z : Int32 → Unit → Prop} {H : Heap} {locs : List Loc} {ls : Array Slot} (hc : zC p s m args meth c prog_9_method_34_code (some .char) 2 "NumberDress$Reader") (hA : ∀ q : Nat, s.heap.size ≤ q → A q) (hE : zE gE A s) (hl : lv_has ls 2 [(0, .ref h0), (1, .int x1)]) (hK : va_K (dC, dI) zCl [(cA1, .char)] s) (hP : va_P (dC, dI) zCl [(h0, .inr (8, o_Reader I0 h1 a0_2 a0_3)), (h1, .inl (cA1, n1, .inl f1))] H) (hD : va_D A [(h0, .inr (8, o_Reader I0 h1 a0_2 a0_3)), (h1, .inl (cA1, n1, .inl f1))]) (hS : va_S A s.heap H locs) (hv : v_Reader_sign_0 I0 n1 f1 x1  Z) : W p l e (headSpec (Cond.code (⟨"NumberDress$Reader", "sign", "(I)C"⟩ : MethodName) prog_9_method_34_code 2 (some .char) :: zT) { frames := 0, cells := 0, slots := 0, locals := 0 }).room s m args below meth c H locs 0 0 (MQ below (va_Qi Z (zB (dC, dI) zCl [(cA1, .char)] A (fun u : Unit => [(h0, .inr (8, o_Reader I0 h1 a0_2 a0_3)), (h1, .inl (cA1, n1, .inl f1))])) A) args s 0 0 A) (F0 m 0 ls []) := by
  obtain ⟨hx, hb, hr, hml, hown, ht, hlocks⟩ := id hc
  unfold v_Reader_sign_0 at hv
  refine lv_iload_n hx hb d_Reader_sign_0 rfl (lv_at hl 1 rfl) ?_
  refine lv_if_lt (tgt := 30) hx hb d_Reader_sign_1 (by decide) (fun c_1 => ?_) (fun c_1 => ?_)
  · have hv := hv.1 c_1
    refine lv_iconst (v := (0 : Int32)) hx hb d_Reader_sign_30 (by decide) ?_
    exact W.zret (v := (0 : Int32)) hx hb hr (by decide) (fun t ht hW => ⟨⟨_, (), rfl, hv, ⟨by rw [ht]; exact hP, va_K.moved hW.alike hK, hD⟩⟩, hS.F ht⟩) hS.2.2 d_Reader_sign_31
  · have hv := hv.2 c_1
    refine lv_iload_n hx hb d_Reader_sign_4 rfl (lv_at hl 1 rfl) ?_
    refine lv_aload_n hx hb d_Reader_sign_5 rfl (lv_at hl 0 rfl) ?_
    refine va_get (D := (dC, dI)) (ci := 8) (v := .int (I0 1)) (C := "NumberDress$Reader") (T := T_Reader) (N := 5) hx hb ht zin_Reader hown hK hP 0 rfl rfl 1 (by decide) (ht _ zw_272) (fun _ h9 => h9) rfl d_Reader_sign_6 ?_
    refine lv_icmp_ge (tgt := 30) hx hb d_Reader_sign_9 (by decide) (fun c_2 => ?_) (fun c_2 => ?_)
    · have hv := hv.1 c_2
      refine lv_iconst (v := (0 : Int32)) hx hb d_Reader_sign_30 (by decide) ?_
      exact W.zret (v := (0 : Int32)) hx hb hr (by decide) (fun t ht hW => ⟨⟨_, (), rfl, hv, ⟨by rw [ht]; exact hP, va_K.moved hW.alike hK, hD⟩⟩, hS.F ht⟩) hS.2.2 d_Reader_sign_31
    · have hv := hv.2 c_2
      refine lv_iload_n hx hb d_Reader_sign_12 rfl (lv_at hl 1 rfl) ?_
      refine lv_aload_n hx hb d_Reader_sign_13 rfl (lv_at hl 0 rfl) ?_
      refine va_get (D := (dC, dI)) (ci := 8) (v := .ref h1) (C := "NumberDress$Reader") (T := T_Reader) (N := 5) hx hb ht zin_Reader hown hK hP 0 rfl rfl 0 (by decide) (ht _ zw_271) (fun _ h9 => h9) rfl d_Reader_sign_14 ?_
      refine va_alen (v := (nI n1)) hx hb hK hP 1 0 rfl rfl rfl d_Reader_sign_17 ?_
      refine lv_icmp_ge (tgt := 30) hx hb d_Reader_sign_18 (by decide) (fun c_3 => ?_) (fun c_3 => ?_)
      · have hv := hv.1 c_3
        refine lv_iconst (v := (0 : Int32)) hx hb d_Reader_sign_30 (by decide) ?_
        exact W.zret (v := (0 : Int32)) hx hb hr (by decide) (fun t ht hW => ⟨⟨_, (), rfl, hv, ⟨by rw [ht]; exact hP, va_K.moved hW.alike hK, hD⟩⟩, hS.F ht⟩) hS.2.2 d_Reader_sign_31
      · have hv := hv.2 c_3
        refine lv_aload_n hx hb d_Reader_sign_21 rfl (lv_at hl 0 rfl) ?_
        refine va_get (D := (dC, dI)) (ci := 8) (v := .ref h1) (C := "NumberDress$Reader") (T := T_Reader) (N := 5) hx hb ht zin_Reader hown hK hP 0 rfl rfl 0 (by decide) (ht _ zw_271) (fun _ h9 => h9) rfl d_Reader_sign_22 ?_
        refine lv_iload_n hx hb d_Reader_sign_25 rfl (lv_at hl 1 rfl) ?_
        obtain ⟨q_4, hv⟩ := hv
        refine va_cald hx hb hK hP 1 0 rfl rfl q_4 d_Reader_sign_26 ?_
        refine lv_goto (tgt := 31) hx hb d_Reader_sign_27 (by decide) ?_
        exact W.zret (v := (f1 x1.toNatClampNeg)) hx hb hr (zc_n hv.1) (fun t ht hW => ⟨⟨_, (), rfl, hv.2, ⟨by rw [ht]; exact hP, va_K.moved hW.alike hK, hD⟩⟩, hS.F ht⟩) hS.2.2 d_Reader_sign_31
theorem zi_Reader_sign : Cond.code (⟨"NumberDress$Reader", "sign", "(I)C"⟩ : MethodName) prog_9_method_34_code 2 (some .char) ∈ zT := zw_515
theorem zh_Reader_sign : (((⟨"NumberDress$Reader", "sign", "(I)C"⟩ : MethodName)).cls ≠ "java/lang/invoke/MethodHandle" ∧ ((⟨"NumberDress$Reader", "sign", "(I)C"⟩ : MethodName)).cls ≠ "java/lang/invoke/VarHandle" ∧ (parseMethodDescriptor ((⟨"NumberDress$Reader", "sign", "(I)C"⟩ : MethodName)).desc).map (fun d => d.parameters.length) = some 1) := by decide +kernel
set_option maxHeartbeats 4000000 in
set_option maxRecDepth 100000 in
theorem m_Reader_sign (l : Launch) (dC : Nat → ClassId) (dI : Nat → Nat → Nat) {gE : zG} {h0 : Nat} {a0_2 : Nat} {a0_3 : Nat} {h1 : Nat} {cA1 : ClassId} {I0 : Nat → Int32} {n1 : Nat} {f1 : Nat → Int32} {x1 : Int32} {sz : Nat} {Z : Int32 → Unit → Prop} (hv : v_Reader_sign_0 I0 n1 f1 x1 Z) : Met l (⟨"NumberDress$Reader", "sign", "(I)C"⟩ : MethodName) (Cond.code (⟨"NumberDress$Reader", "sign", "(I)C"⟩ : MethodName) prog_9_method_34_code 2 (some .char) :: zT) { frames := 0, cells := 0, slots := 0, locals := 0 } (zPc gE (dC, dI) zCl [(cA1, .char)] [.ref h0, .int x1] sz [(h0, .inr (8, o_Reader I0 h1 a0_2 a0_3)), (h1, .inl (cA1, n1, .inl f1))]) (va_Qi Z (zB (dC, dI) zCl [(cA1, .char)] (va_A [(h0, .inr (8, o_Reader I0 h1 a0_2 a0_3)), (h1, .inl (cA1, n1, .inl f1))] sz) (fun u : Unit => [(h0, .inr (8, o_Reader I0 h1 a0_2 a0_3)), (h1, .inl (cA1, n1, .inl f1))])) (va_A [(h0, .inr (8, o_Reader I0 h1 a0_2 a0_3)), (h1, .inl (cA1, n1, .inl f1))] sz)) 0 0 (va_A [(h0, .inr (8, o_Reader I0 h1 a0_2 a0_3)), (h1, .inl (cA1, n1, .inl f1))] sz) := by
  refine Met.ofW (cc := prog_9_method_34_code) (maxL := 2) (ret := (some .char)) (by decide +kernel) rfl ?_
  intro p e s m args below meth c s₁ B hml hp
  obtain ⟨rfl, hsz, hP, hK, hD0, hE⟩ := hp
  have hts := atoms_spec (ws := (Cond.code (⟨"NumberDress$Reader", "sign", "(I)C"⟩ : MethodName) prog_9_method_34_code 2 (some .char) :: zT)) B.pre
  have hown : s.vm.findClass "NumberDress$Reader" = some m.cls := findClass_of_methodNamed B.named
  have hc : zC p s m _ meth c prog_9_method_34_code (some .char) 2 "NumberDress$Reader" := ⟨B.exec, B.bytes, B.returns, hml, hown, fun w h => hts w (List.mem_cons_of_mem _ h), B.notSynchronized⟩
  subst hsz
  have hD := hD0.self (sz := s.heap.size)
  generalize hAe : va_A [(h0, .inr (8, o_Reader I0 h1 a0_2 a0_3)), (h1, .inl (cA1, n1, .inl f1))] s.heap.size = A at hD hE ⊢
  have hA : ∀ q : Nat, s.heap.size ≤ q → A q := fun q h => by rw [← hAe]; exact Or.inr h
  have hl := lv_entry ([.ref h0, .int x1]) (n := 2) (Nat.le_of_ble_eq_true rfl)
  rw [lg_entry_eq]
  exact b_Reader_sign_0 hc hA hE hl hK hP hD va_S.rf hv
theorem d_Reader_quotesLength_0 : decode prog_9_method_11_code 0 = .ok (.iload_n 1, 1) := by decide +kernel
theorem d_Reader_quotesLength_1 : decode prog_9_method_11_code 1 = .ok (.iconst 1, 1) := by decide +kernel
theorem d_Reader_quotesLength_2 : decode prog_9_method_11_code 2 = .ok (.iadd, 1) := by decide +kernel
theorem d_Reader_quotesLength_3 : decode prog_9_method_11_code 3 = .ok (.istore_n 2, 1) := by decide +kernel
theorem d_Reader_quotesLength_4 : decode prog_9_method_11_code 4 = .ok (.iload_n 2, 1) := by decide +kernel
theorem d_Reader_quotesLength_5 : decode prog_9_method_11_code 5 = .ok (.aload_n 0, 1) := by decide +kernel
theorem d_Reader_quotesLength_6 : decode prog_9_method_11_code 6 = .ok (.getfield 35, 3) := by decide +kernel
theorem d_Reader_quotesLength_9 : decode prog_9_method_11_code 9 = .ok (.if_icmp .ge 25, 3) := by decide +kernel
theorem d_Reader_quotesLength_12 : decode prog_9_method_11_code 12 = .ok (.aload_n 0, 1) := by decide +kernel
theorem d_Reader_quotesLength_13 : decode prog_9_method_11_code 13 = .ok (.iload_n 2, 1) := by decide +kernel
theorem d_Reader_quotesLength_14 : decode prog_9_method_11_code 14 = .ok (.invokevirtual 86, 3) := by decide +kernel
theorem d_Reader_quotesLength_17 : decode prog_9_method_11_code 17 = .ok (.bipush 34, 2) := by decide +kernel
theorem d_Reader_quotesLength_19 : decode prog_9_method_11_code 19 = .ok (.if_icmp .ne 9, 3) := by decide +kernel
theorem d_Reader_quotesLength_22 : decode prog_9_method_11_code 22 = .ok (.iload_n 2, 1) := by decide +kernel
theorem d_Reader_quotesLength_23 : decode prog_9_method_11_code 23 = .ok (.iload_n 1, 1) := by decide +kernel
theorem d_Reader_quotesLength_24 : decode prog_9_method_11_code 24 = .ok (.isub, 1) := by decide +kernel
theorem d_Reader_quotesLength_25 : decode prog_9_method_11_code 25 = .ok (.iconst 1, 1) := by decide +kernel
theorem d_Reader_quotesLength_26 : decode prog_9_method_11_code 26 = .ok (.iadd, 1) := by decide +kernel
theorem d_Reader_quotesLength_27 : decode prog_9_method_11_code 27 = .ok (.ireturn, 1) := by decide +kernel
theorem d_Reader_quotesLength_28 : decode prog_9_method_11_code 28 = .ok (.iinc 2 1, 3) := by decide +kernel
theorem d_Reader_quotesLength_31 : decode prog_9_method_11_code 31 = .ok (.goto (-27), 3) := by decide +kernel
theorem d_Reader_quotesLength_34 : decode prog_9_method_11_code 34 = .ok (.iconst 0, 1) := by decide +kernel
theorem d_Reader_quotesLength_35 : decode prog_9_method_11_code 35 = .ok (.ireturn, 1) := by decide +kernel
set_option maxHeartbeats 4000000 in
set_option maxRecDepth 100000 in
theorem b_Reader_quotesLength_17 {h0 : Nat} {a0_2 : Nat} {a0_3 : Nat} {h1 : Nat} {cA1 : ClassId} {I0 : Nat → Int32} {n1 : Nat} {f1 : Nat → Int32} {x1 : Int32} {x2 : Int32} {s0 : Int32} {k4 : Int32 → Prop} {Z : Int32 → Unit → Prop} {H : Heap} {locs : List Loc} {ls : Array Slot} (hc : zC p s m args meth c prog_9_method_11_code (some .int) 3 "NumberDress$Reader") (hA : ∀ q : Nat, s.heap.size ≤ q → A q) (hE : zE gE A s) (hk4 : ∀ (x2 : Int32) (H : Heap) (locs : List Loc) (ls : Array Slot), lv_has ls 3 [(0, .ref h0), (1, .int x1), (2, .int x2)] → va_K (dC, dI) zCl [(cA1, .char)] s → va_P (dC, dI) zCl [(h0, .inr (8, o_Reader I0 h1 a0_2 a0_3)), (h1, .inl (cA1, n1, .inl f1))] H → va_D A [(h0, .inr (8, o_Reader I0 h1 a0_2 a0_3)), (h1, .inl (cA1, n1, .inl f1))] → va_S A s.heap H locs → k4 x2 → W p l e (headSpec (Cond.code (⟨"NumberDress$Reader", "quotesLength", "(I)I"⟩ : MethodName) prog_9_method_11_code 3 (some .int) :: zT) { frames := 1, cells := 0, slots := 0, locals := 21 }).room s m args below meth c H locs 0 0 (MQ below (va_Qi Z (zB (dC, dI) zCl [(cA1, .char)] A (fun u : Unit => [(h0, .inr (8, o_Reader I0 h1 a0_2 a0_3)), (h1, .inl (cA1, n1, .inl f1))])) A) args s 0 0 A) (F0 m 4 ls [])) (hl : lv_has ls 3 [(0, .ref h0), (1, .int x1), (2, .int x2)]) (hK : va_K (dC, dI) zCl [(cA1, .char)] s) (hP : va_P (dC, dI) zCl [(h0, .inr (8, o_Reader I0 h1 a0_2 a0_3)), (h1, .inl (cA1, n1, .inl f1))] H) (hD : va_D A [(h0, .inr (8, o_Reader I0 h1 a0_2 a0_3)), (h1, .inl (cA1, n1, .inl f1))]) (hS : va_S A s.heap H locs) (hv : v_Reader_quotesLength_17 I0 n1 f1 x1 x2 s0 k4 Z) : W p l e (headSpec (Cond.code (⟨"NumberDress$Reader", "quotesLength", "(I)I"⟩ : MethodName) prog_9_method_11_code 3 (some .int) :: zT) { frames := 1, cells := 0, slots := 0, locals := 21 }).room s m args below meth c H locs 0 0 (MQ below (va_Qi Z (zB (dC, dI) zCl [(cA1, .char)] A (fun u : Unit => [(h0, .inr (8, o_Reader I0 h1 a0_2 a0_3)), (h1, .inl (cA1, n1, .inl f1))])) A) args s 0 0 A) (F0 m 17 ls [.int s0]) := by
  obtain ⟨hx, hb, hr, hml, hown, ht, hlocks⟩ := id hc
  unfold v_Reader_quotesLength_17 at hv
  refine lv_bipush (v := (34 : Int32)) hx hb d_Reader_quotesLength_17 (by decide) ?_
  refine lv_icmp_ne (tgt := 28) hx hb d_Reader_quotesLength_19 (by decide) (fun c_1 => ?_) (fun c_1 => ?_)
  · have hv := hv.1 c_1
    refine lv_iinc (v := (x2 + (1 : Int32))) (lv' := [(2, .int (x2 + (1 : Int32))), (0, .ref h0), (1, .int x1)]) hx hb d_Reader_quotesLength_28 hl (k := 2) rfl rfl (by decide) rfl (fun ls hl => ?_)
    refine lv_goto (tgt := 4) hx hb d_Reader_quotesLength_31 (by decide) ?_
    exact hk4 (x2 + (1 : Int32)) _ _ _ (lv_sub hl [1, 2, 0] rfl) hK hP hD hS hv
  · have hv := hv.2 c_1
    refine lv_iload_n hx hb d_Reader_quotesLength_22 rfl (lv_at hl 2 rfl) ?_
    refine lv_iload_n hx hb d_Reader_quotesLength_23 rfl (lv_at hl 1 rfl) ?_
    refine lv_isub hx hb d_Reader_quotesLength_24 ?_
    refine lv_iconst (v := (1 : Int32)) hx hb d_Reader_quotesLength_25 (by decide) ?_
    refine lv_iadd hx hb d_Reader_quotesLength_26 ?_
    exact W.iret (v := ((x2 - x1) + (1 : Int32))) hx hb hr (fun t ht hW => ⟨⟨_, (), rfl, hv, ⟨by rw [ht]; exact hP, va_K.moved hW.alike hK, hD⟩⟩, hS.F ht⟩) hS.2.2 d_Reader_quotesLength_27
set_option maxHeartbeats 4000000 in
set_option maxRecDepth 100000 in
theorem b_Reader_quotesLength_4 {h0 : Nat} {a0_2 : Nat} {a0_3 : Nat} {h1 : Nat} {cA1 : ClassId} {I0 : Nat → Int32} {n1 : Nat} {f1 : Nat → Int32} {x1 : Int32}  {Z : Int32 → Unit → Prop} (hc : zC p s m args meth c prog_9_method_11_code (some .int) 3 "NumberDress$Reader") (hA : ∀ q : Nat, s.heap.size ≤ q → A q) (hE : zE gE A s) : ∀ (N : Nat) (x2 : Int32) (H : Heap) (locs : List Loc) (ls : Array Slot), lv_has ls 3 [(0, .ref h0), (1, .int x1), (2, .int x2)] → va_K (dC, dI) zCl [(cA1, .char)] s → va_P (dC, dI) zCl [(h0, .inr (8, o_Reader I0 h1 a0_2 a0_3)), (h1, .inl (cA1, n1, .inl f1))] H → va_D A [(h0, .inr (8, o_Reader I0 h1 a0_2 a0_3)), (h1, .inl (cA1, n1, .inl f1))] → va_S A s.heap H locs → v_Reader_quotesLength_4 I0 n1 f1 x1  Z N x2 → W p l e (headSpec (Cond.code (⟨"NumberDress$Reader", "quotesLength", "(I)I"⟩ : MethodName) prog_9_method_11_code 3 (some .int) :: zT) { frames := 1, cells := 0, slots := 0, locals := 21 }).room s m args below meth c H locs 0 0 (MQ below (va_Qi Z (zB (dC, dI) zCl [(cA1, .char)] A (fun u : Unit => [(h0, .inr (8, o_Reader I0 h1 a0_2 a0_3)), (h1, .inl (cA1, n1, .inl f1))])) A) args s 0 0 A) (F0 m 4 ls []) := by
  obtain ⟨hx, hb, hr, hml, hown, ht, hlocks⟩ := id hc
  intro N
  induction N with
  | zero => intro x2 H locs ls hl hK hP hD hS hv; exact hv.elim
  | succ N hk4 =>
    intro x2 H locs ls hl hK hP hD hS hv
    unfold v_Reader_quotesLength_4 at hv
    refine lv_iload_n hx hb d_Reader_quotesLength_4 rfl (lv_at hl 2 rfl) ?_
    refine lv_aload_n hx hb d_Reader_quotesLength_5 rfl (lv_at hl 0 rfl) ?_
    refine va_get (D := (dC, dI)) (ci := 8) (v := .int (I0 1)) (C := "NumberDress$Reader") (T := T_Reader) (N := 5) hx hb ht zin_Reader hown hK hP 0 rfl rfl 1 (by decide) (ht _ zw_272) (fun _ h9 => h9) rfl d_Reader_quotesLength_6 ?_
    refine lv_icmp_ge (tgt := 34) hx hb d_Reader_quotesLength_9 (by decide) (fun c_1 => ?_) (fun c_1 => ?_)
    · have hv := hv.1 c_1
      refine lv_iconst (v := (0 : Int32)) hx hb d_Reader_quotesLength_34 (by decide) ?_
      exact W.iret (v := (0 : Int32)) hx hb hr (fun t ht hW => ⟨⟨_, (), rfl, hv, ⟨by rw [ht]; exact hP, va_K.moved hW.alike hK, hD⟩⟩, hS.F ht⟩) hS.2.2 d_Reader_quotesLength_35
    · have hv := hv.2 c_1
      refine lv_aload_n hx hb d_Reader_quotesLength_12 rfl (lv_at hl 0 rfl) ?_
      refine lv_iload_n hx hb d_Reader_quotesLength_13 rfl (lv_at hl 2 rfl) ?_
      refine z_calli (wc := [(h0, .inr (8, o_Reader I0 h1 a0_2 a0_3)), (h1, .inl (cA1, n1, .inl f1))]) (wr := []) [0, 1] [] (va_runV (As := [.int x2]) (rest := []) ⟨hx, hb, hml, hown, ht⟩ (m_Reader_sign l dC dI hv) ⟨(callB_of 1 ht (zG_in zi_Reader_sign) rfl rfl rfl (ht _ zw_113) (ht _ zw_512) zh_Reader_sign ⟨Nat.le_of_ble_eq_true rfl, Nat.le_of_ble_eq_true rfl⟩), (ht _ zw_514), (ht _ zw_1)⟩ ⟨zPc_blind, va_recv hK hP (ci := 8) (q0 := 0) rfl rfl, zPc_pre hP hK hD hS hA hE [0, 1] [0] rfl rfl (by decide) rfl⟩ rfl rfl hl.1 rfl (lv_room (Nat.le_of_ble_eq_true rfl)) d_Reader_quotesLength_14 ⟨Nat.le_of_ble_eq_true rfl, Nat.le_of_ble_eq_true rfl⟩) hP hD hS hA rfl rfl (by decide) (by decide) (fun r u H locs hv hP hD hS => ?_)
      have hP : va_P (dC, dI) zCl [(h0, .inr (8, o_Reader I0 h1 a0_2 a0_3)), (h1, .inl (cA1, n1, .inl f1))] H := hP.sub [0, 1] rfl
      have hD : va_D A [(h0, .inr (8, o_Reader I0 h1 a0_2 a0_3)), (h1, .inl (cA1, n1, .inl f1))] := hD.sub [0, 1] (by decide) rfl
      exact b_Reader_quotesLength_17 hc hA hE hk4 (lv_sub hl [0, 1, 2] rfl) hK hP hD hS hv
set_option maxHeartbeats 4000000 in
set_option maxRecDepth 100000 in
theorem b_Reader_quotesLength_0 {h0 : Nat} {a0_2 : Nat} {a0_3 : Nat} {h1 : Nat} {cA1 : ClassId} {I0 : Nat → Int32} {n1 : Nat} {f1 : Nat → Int32} {x1 : Int32}  {Z : Int32 → Unit → Prop} {H : Heap} {locs : List Loc} {ls : Array Slot} (hc : zC p s m args meth c prog_9_method_11_code (some .int) 3 "NumberDress$Reader") (hA : ∀ q : Nat, s.heap.size ≤ q → A q) (hE : zE gE A s) (hl : lv_has ls 3 [(0, .ref h0), (1, .int x1)]) (hK : va_K (dC, dI) zCl [(cA1, .char)] s) (hP : va_P (dC, dI) zCl [(h0, .inr (8, o_Reader I0 h1 a0_2 a0_3)), (h1, .inl (cA1, n1, .inl f1))] H) (hD : va_D A [(h0, .inr (8, o_Reader I0 h1 a0_2 a0_3)), (h1, .inl (cA1, n1, .inl f1))]) (hS : va_S A s.heap H locs) (hv : v_Reader_quotesLength_0 I0 n1 f1 x1  Z) : W p l e (headSpec (Cond.code (⟨"NumberDress$Reader", "quotesLength", "(I)I"⟩ : MethodName) prog_9_method_11_code 3 (some .int) :: zT) { frames := 1, cells := 0, slots := 0, locals := 21 }).room s m args below meth c H locs 0 0 (MQ below (va_Qi Z (zB (dC, dI) zCl [(cA1, .char)] A (fun u : Unit => [(h0, .inr (8, o_Reader I0 h1 a0_2 a0_3)), (h1, .inl (cA1, n1, .inl f1))])) A) args s 0 0 A) (F0 m 0 ls []) := by
  obtain ⟨hx, hb, hr, hml, hown, ht, hlocks⟩ := id hc
  unfold v_Reader_quotesLength_0 at hv
  refine lv_iload_n hx hb d_Reader_quotesLength_0 rfl (lv_at hl 1 rfl) ?_
  refine lv_iconst (v := (1 : Int32)) hx hb d_Reader_quotesLength_1 (by decide) ?_
  refine lv_iadd hx hb d_Reader_quotesLength_2 ?_
  refine lv_istore_n (lv' := [(2, .int (x1 + (1 : Int32))), (0, .ref h0), (1, .int x1)]) hx hb d_Reader_quotesLength_3 rfl hl (by decide) rfl (fun ls hl => ?_)
  obtain ⟨Nx, hv⟩ := hv
  exact b_Reader_quotesLength_4 hc hA hE  Nx (x1 + (1 : Int32)) _ _ _ (lv_sub hl [1, 2, 0] rfl) hK hP hD hS hv
theorem zi_Reader_quotesLength : Cond.code (⟨"NumberDress$Reader", "quotesLength", "(I)I"⟩ : MethodName) prog_9_method_11_code 3 (some .int) ∈ zT := zw_523
theorem zh_Reader_quotesLength : (((⟨"NumberDress$Reader", "quotesLength", "(I)I"⟩ : MethodName)).cls ≠ "java/lang/invoke/MethodHandle" ∧ ((⟨"NumberDress$Reader", "quotesLength", "(I)I"⟩ : MethodName)).cls ≠ "java/lang/invoke/VarHandle" ∧ (parseMethodDescriptor ((⟨"NumberDress$Reader", "quotesLength", "(I)I"⟩ : MethodName)).desc).map (fun d => d.parameters.length) = some 1) := by decide +kernel
set_option maxHeartbeats 4000000 in
set_option maxRecDepth 100000 in
theorem m_Reader_quotesLength (l : Launch) (dC : Nat → ClassId) (dI : Nat → Nat → Nat) {gE : zG} {h0 : Nat} {a0_2 : Nat} {a0_3 : Nat} {h1 : Nat} {cA1 : ClassId} {I0 : Nat → Int32} {n1 : Nat} {f1 : Nat → Int32} {x1 : Int32} {sz : Nat} {Z : Int32 → Unit → Prop} (hv : v_Reader_quotesLength_0 I0 n1 f1 x1 Z) : Met l (⟨"NumberDress$Reader", "quotesLength", "(I)I"⟩ : MethodName) (Cond.code (⟨"NumberDress$Reader", "quotesLength", "(I)I"⟩ : MethodName) prog_9_method_11_code 3 (some .int) :: zT) { frames := 1, cells := 0, slots := 0, locals := 21 } (zPc gE (dC, dI) zCl [(cA1, .char)] [.ref h0, .int x1] sz [(h0, .inr (8, o_Reader I0 h1 a0_2 a0_3)), (h1, .inl (cA1, n1, .inl f1))]) (va_Qi Z (zB (dC, dI) zCl [(cA1, .char)] (va_A [(h0, .inr (8, o_Reader I0 h1 a0_2 a0_3)), (h1, .inl (cA1, n1, .inl f1))] sz) (fun u : Unit => [(h0, .inr (8, o_Reader I0 h1 a0_2 a0_3)), (h1, .inl (cA1, n1, .inl f1))])) (va_A [(h0, .inr (8, o_Reader I0 h1 a0_2 a0_3)), (h1, .inl (cA1, n1, .inl f1))] sz)) 0 0 (va_A [(h0, .inr (8, o_Reader I0 h1 a0_2 a0_3)), (h1, .inl (cA1, n1, .inl f1))] sz) := by
  refine Met.ofW (cc := prog_9_method_11_code) (maxL := 3) (ret := (some .int)) (by decide +kernel) rfl ?_
  intro p e s m args below meth c s₁ B hml hp
  obtain ⟨rfl, hsz, hP, hK, hD0, hE⟩ := hp
  have hts := atoms_spec (ws := (Cond.code (⟨"NumberDress$Reader", "quotesLength", "(I)I"⟩ : MethodName) prog_9_method_11_code 3 (some .int) :: zT)) B.pre
  have hown : s.vm.findClass "NumberDress$Reader" = some m.cls := findClass_of_methodNamed B.named
  have hc : zC p s m _ meth c prog_9_method_11_code (some .int) 3 "NumberDress$Reader" := ⟨B.exec, B.bytes, B.returns, hml, hown, fun w h => hts w (List.mem_cons_of_mem _ h), B.notSynchronized⟩
  subst hsz
  have hD := hD0.self (sz := s.heap.size)
  generalize hAe : va_A [(h0, .inr (8, o_Reader I0 h1 a0_2 a0_3)), (h1, .inl (cA1, n1, .inl f1))] s.heap.size = A at hD hE ⊢
  have hA : ∀ q : Nat, s.heap.size ≤ q → A q := fun q h => by rw [← hAe]; exact Or.inr h
  have hl := lv_entry ([.ref h0, .int x1]) (n := 3) (Nat.le_of_ble_eq_true rfl)
  rw [lg_entry_eq]
  exact b_Reader_quotesLength_0 hc hA hE hl hK hP hD va_S.rf hv
theorem d_Reader_commonLength_0 : decode prog_9_method_9_code 0 = .ok (.aload_n 0, 1) := by decide +kernel
theorem d_Reader_commonLength_1 : decode prog_9_method_9_code 1 = .ok (.iload_n 1, 1) := by decide +kernel
theorem d_Reader_commonLength_2 : decode prog_9_method_9_code 2 = .ok (.invokevirtual 86, 3) := by decide +kernel
theorem d_Reader_commonLength_5 : decode prog_9_method_9_code 5 = .ok (.istore_n 2, 1) := by decide +kernel
theorem d_Reader_commonLength_6 : decode prog_9_method_9_code 6 = .ok (.iload_n 2, 1) := by decide +kernel
theorem d_Reader_commonLength_7 : decode prog_9_method_9_code 7 = .ok (.lookupswitch 77 #[(34, 49), (42, 55), (91, 71), (92, 55), (95, 55)], 49) := by decide +kernel
theorem d_Reader_commonLength_56 : decode prog_9_method_9_code 56 = .ok (.aload_n 0, 1) := by decide +kernel
theorem d_Reader_commonLength_57 : decode prog_9_method_9_code 57 = .ok (.iload_n 1, 1) := by decide +kernel
theorem d_Reader_commonLength_58 : decode prog_9_method_9_code 58 = .ok (.invokevirtual 130, 3) := by decide +kernel
theorem d_Reader_commonLength_61 : decode prog_9_method_9_code 61 = .ok (.ireturn, 1) := by decide +kernel
theorem d_Reader_commonLength_62 : decode prog_9_method_9_code 62 = .ok (.iload_n 1, 1) := by decide +kernel
theorem d_Reader_commonLength_63 : decode prog_9_method_9_code 63 = .ok (.iconst 1, 1) := by decide +kernel
theorem d_Reader_commonLength_64 : decode prog_9_method_9_code 64 = .ok (.iadd, 1) := by decide +kernel
theorem d_Reader_commonLength_65 : decode prog_9_method_9_code 65 = .ok (.aload_n 0, 1) := by decide +kernel
theorem d_Reader_commonLength_66 : decode prog_9_method_9_code 66 = .ok (.getfield 35, 3) := by decide +kernel
theorem d_Reader_commonLength_69 : decode prog_9_method_9_code 69 = .ok (.if_icmp .ge 7, 3) := by decide +kernel
theorem d_Reader_commonLength_72 : decode prog_9_method_9_code 72 = .ok (.iconst 2, 1) := by decide +kernel
theorem d_Reader_commonLength_73 : decode prog_9_method_9_code 73 = .ok (.goto 4, 3) := by decide +kernel
theorem d_Reader_commonLength_76 : decode prog_9_method_9_code 76 = .ok (.iconst 0, 1) := by decide +kernel
theorem d_Reader_commonLength_77 : decode prog_9_method_9_code 77 = .ok (.ireturn, 1) := by decide +kernel
theorem d_Reader_commonLength_78 : decode prog_9_method_9_code 78 = .ok (.aload_n 0, 1) := by decide +kernel
theorem d_Reader_commonLength_79 : decode prog_9_method_9_code 79 = .ok (.iload_n 1, 1) := by decide +kernel
theorem d_Reader_commonLength_80 : decode prog_9_method_9_code 80 = .ok (.invokevirtual 133, 3) := by decide +kernel
theorem d_Reader_commonLength_83 : decode prog_9_method_9_code 83 = .ok (.ireturn, 1) := by decide +kernel
theorem d_Reader_commonLength_84 : decode prog_9_method_9_code 84 = .ok (.iload_n 2, 1) := by decide +kernel
theorem d_Reader_commonLength_85 : decode prog_9_method_9_code 85 = .ok (.invokestatic 136, 3) := by decide +kernel
theorem d_Reader_commonLength_88 : decode prog_9_method_9_code 88 = .ok (.ifCond .eq 7, 3) := by decide +kernel
theorem d_Reader_commonLength_91 : decode prog_9_method_9_code 91 = .ok (.iconst 1, 1) := by decide +kernel
theorem d_Reader_commonLength_92 : decode prog_9_method_9_code 92 = .ok (.goto 4, 3) := by decide +kernel
theorem d_Reader_commonLength_95 : decode prog_9_method_9_code 95 = .ok (.iconst 0, 1) := by decide +kernel
theorem d_Reader_commonLength_96 : decode prog_9_method_9_code 96 = .ok (.ireturn, 1) := by decide +kernel
set_option maxHeartbeats 4000000 in
set_option maxRecDepth 100000 in
theorem b_Reader_commonLength_61 {h0 : Nat} {a0_2 : Nat} {a0_3 : Nat} {h1 : Nat} {cA1 : ClassId} {I0 : Nat → Int32} {n1 : Nat} {f1 : Nat → Int32} {s0 : Int32}  {Z : Int32 → Unit → Prop} {H : Heap} {locs : List Loc} {ls : Array Slot} (hc : zC p s m args meth c prog_9_method_9_code (some .int) 3 "NumberDress$Reader") (hA : ∀ q : Nat, s.heap.size ≤ q → A q) (hE : zE gE A s) (hl : lv_has ls 3 []) (hK : va_K (dC, dI) zCl [(cA1, .char)] s) (hP : va_P (dC, dI) zCl [(h0, .inr (8, o_Reader I0 h1 a0_2 a0_3)), (h1, .inl (cA1, n1, .inl f1))] H) (hD : va_D A [(h0, .inr (8, o_Reader I0 h1 a0_2 a0_3)), (h1, .inl (cA1, n1, .inl f1))]) (hS : va_S A s.heap H locs) (hv : v_Reader_commonLength_61 I0 n1 f1 s0  Z) : W p l e (headSpec (Cond.code (⟨"NumberDress$Reader", "commonLength", "(I)I"⟩ : MethodName) prog_9_method_9_code 3 (some .int) :: zT) { frames := 6, cells := 0, slots := 0, locals := 131 }).room s m args below meth c H locs 0 0 (MQ below (va_Qi Z (zB (dC, dI) zCl [(cA1, .char)] A (fun u : Unit => [(h0, .inr (8, o_Reader I0 h1 a0_2 a0_3)), (h1, .inl (cA1, n1, .inl f1))])) A) args s 0 0 A) (F0 m 61 ls [.int s0]) := by
  obtain ⟨hx, hb, hr, hml, hown, ht, hlocks⟩ := id hc
  unfold v_Reader_commonLength_61 at hv
  exact W.iret (v := s0) hx hb hr (fun t ht hW => ⟨⟨_, (), rfl, hv, ⟨by rw [ht]; exact hP, va_K.moved hW.alike hK, hD⟩⟩, hS.F ht⟩) hS.2.2 d_Reader_commonLength_61
set_option maxHeartbeats 4000000 in
set_option maxRecDepth 100000 in
theorem b_Reader_commonLength_83 {h0 : Nat} {a0_2 : Nat} {a0_3 : Nat} {h1 : Nat} {cA1 : ClassId} {I0 : Nat → Int32} {n1 : Nat} {f1 : Nat → Int32} {s0 : Int32}  {Z : Int32 → Unit → Prop} {H : Heap} {locs : List Loc} {ls : Array Slot} (hc : zC p s m args meth c prog_9_method_9_code (some .int) 3 "NumberDress$Reader") (hA : ∀ q : Nat, s.heap.size ≤ q → A q) (hE : zE gE A s) (hl : lv_has ls 3 []) (hK : va_K (dC, dI) zCl [(cA1, .char)] s) (hP : va_P (dC, dI) zCl [(h0, .inr (8, o_Reader I0 h1 a0_2 a0_3)), (h1, .inl (cA1, n1, .inl f1))] H) (hD : va_D A [(h0, .inr (8, o_Reader I0 h1 a0_2 a0_3)), (h1, .inl (cA1, n1, .inl f1))]) (hS : va_S A s.heap H locs) (hv : v_Reader_commonLength_83 I0 n1 f1 s0  Z) : W p l e (headSpec (Cond.code (⟨"NumberDress$Reader", "commonLength", "(I)I"⟩ : MethodName) prog_9_method_9_code 3 (some .int) :: zT) { frames := 6, cells := 0, slots := 0, locals := 131 }).room s m args below meth c H locs 0 0 (MQ below (va_Qi Z (zB (dC, dI) zCl [(cA1, .char)] A (fun u : Unit => [(h0, .inr (8, o_Reader I0 h1 a0_2 a0_3)), (h1, .inl (cA1, n1, .inl f1))])) A) args s 0 0 A) (F0 m 83 ls [.int s0]) := by
  obtain ⟨hx, hb, hr, hml, hown, ht, hlocks⟩ := id hc
  unfold v_Reader_commonLength_83 at hv
  exact W.iret (v := s0) hx hb hr (fun t ht hW => ⟨⟨_, (), rfl, hv, ⟨by rw [ht]; exact hP, va_K.moved hW.alike hK, hD⟩⟩, hS.F ht⟩) hS.2.2 d_Reader_commonLength_83
set_option maxHeartbeats 4000000 in
set_option maxRecDepth 100000 in
theorem b_Reader_commonLength_88 {h0 : Nat} {a0_2 : Nat} {a0_3 : Nat} {h1 : Nat} {cA1 : ClassId} {I0 : Nat → Int32} {n1 : Nat} {f1 : Nat → Int32} {s0 : Int32}  {Z : Int32 → Unit → Prop} {H : Heap} {locs : List Loc} {ls : Array Slot} (hc : zC p s m args meth c prog_9_method_9_code (some .int) 3 "NumberDress$Reader") (hA : ∀ q : Nat, s.heap.size ≤ q → A q) (hE : zE gE A s) (hl : lv_has ls 3 []) (hK : va_K (dC, dI) zCl [(cA1, .char)] s) (hP : va_P (dC, dI) zCl [(h0, .inr (8, o_Reader I0 h1 a0_2 a0_3)), (h1, .inl (cA1, n1, .inl f1))] H) (hD : va_D A [(h0, .inr (8, o_Reader I0 h1 a0_2 a0_3)), (h1, .inl (cA1, n1, .inl f1))]) (hS : va_S A s.heap H locs) (hv : v_Reader_commonLength_88 I0 n1 f1 s0  Z) : W p l e (headSpec (Cond.code (⟨"NumberDress$Reader", "commonLength", "(I)I"⟩ : MethodName) prog_9_method_9_code 3 (some .int) :: zT) { frames := 6, cells := 0, slots := 0, locals := 131 }).room s m args below meth c H locs 0 0 (MQ below (va_Qi Z (zB (dC, dI) zCl [(cA1, .char)] A (fun u : Unit => [(h0, .inr (8, o_Reader I0 h1 a0_2 a0_3)), (h1, .inl (cA1, n1, .inl f1))])) A) args s 0 0 A) (F0 m 88 ls [.int s0]) := by
  obtain ⟨hx, hb, hr, hml, hown, ht, hlocks⟩ := id hc
  unfold v_Reader_commonLength_88 at hv
  refine lv_if_eq (tgt := 95) hx hb d_Reader_commonLength_88 (by decide) (fun c_1 => ?_) (fun c_1 => ?_)
  · have hv := hv.1 c_1
    refine lv_iconst (v := (0 : Int32)) hx hb d_Reader_commonLength_95 (by decide) ?_
    exact W.iret (v := (0 : Int32)) hx hb hr (fun t ht hW => ⟨⟨_, (), rfl, hv, ⟨by rw [ht]; exact hP, va_K.moved hW.alike hK, hD⟩⟩, hS.F ht⟩) hS.2.2 d_Reader_commonLength_96
  · have hv := hv.2 c_1
    refine lv_iconst (v := (1 : Int32)) hx hb d_Reader_commonLength_91 (by decide) ?_
    refine lv_goto (tgt := 96) hx hb d_Reader_commonLength_92 (by decide) ?_
    exact W.iret (v := (1 : Int32)) hx hb hr (fun t ht hW => ⟨⟨_, (), rfl, hv, ⟨by rw [ht]; exact hP, va_K.moved hW.alike hK, hD⟩⟩, hS.F ht⟩) hS.2.2 d_Reader_commonLength_96
set_option maxHeartbeats 4000000 in
set_option maxRecDepth 100000 in
theorem b_Reader_commonLength_5 {h0 : Nat} {a0_2 : Nat} {a0_3 : Nat} {h1 : Nat} {cA1 : ClassId} {I0 : Nat → Int32} {n1 : Nat} {f1 : Nat → Int32} {x1 : Int32} {s0 : Int32}  {Z : Int32 → Unit → Prop} {H : Heap} {locs : List Loc} {ls : Array Slot} (hc : zC p s m args meth c prog_9_method_9_code (some .int) 3 "NumberDress$Reader") (hA : ∀ q : Nat, s.heap.size ≤ q → A q) (hE : zE gE A s) (hl : lv_has ls 3 [(0, .ref h0), (1, .int x1)]) (hK : va_K (dC, dI) zCl [(cA1, .char)] s) (hP : va_P (dC, dI) zCl [(h0, .inr (8, o_Reader I0 h1 a0_2 a0_3)), (h1, .inl (cA1, n1, .inl f1))] H) (hD : va_D A [(h0, .inr (8, o_Reader I0 h1 a0_2 a0_3)), (h1, .inl (cA1, n1, .inl f1))]) (hS : va_S A s.heap H locs) (hv : v_Reader_commonLength_5 I0 n1 f1 x1 s0  Z) : W p l e (headSpec (Cond.code (⟨"NumberDress$Reader", "commonLength", "(I)I"⟩ : MethodName) prog_9_method_9_code 3 (some .int) :: zT) { frames := 6, cells := 0, slots := 0, locals := 131 }).room s m args below meth c H locs 0 0 (MQ below (va_Qi Z (zB (dC, dI) zCl [(cA1, .char)] A (fun u : Unit => [(h0, .inr (8, o_Reader I0 h1 a0_2 a0_3)), (h1, .inl (cA1, n1, .inl f1))])) A) args s 0 0 A) (F0 m 5 ls [.int s0]) := by
  obtain ⟨hx, hb, hr, hml, hown, ht, hlocks⟩ := id hc
  unfold v_Reader_commonLength_5 at hv
  refine lv_istore_n (lv' := [(2, .int s0), (0, .ref h0), (1, .int x1)]) hx hb d_Reader_commonLength_5 rfl hl (by decide) rfl (fun ls hl => ?_)
  refine lv_iload_n hx hb d_Reader_commonLength_6 rfl (lv_at hl 0 rfl) ?_
  by_cases c_1 : s0 = (34 : Int32)
  · have hv := hv.1 c_1
    refine lv_lookup (off := 49) (tgt := 56) hx hb d_Reader_commonLength_7 (by decide) (by rw [c_1] <;> rfl) (by decide) ?_
    refine lv_aload_n hx hb d_Reader_commonLength_56 rfl (lv_at hl 1 rfl) ?_
    refine lv_iload_n hx hb d_Reader_commonLength_57 rfl (lv_at hl 2 rfl) ?_
    refine z_calli (wc := [(h0, .inr (8, o_Reader I0 h1 a0_2 a0_3)), (h1, .inl (cA1, n1, .inl f1))]) (wr := []) [0, 1] [] (va_runV (As := [.int x1]) (rest := []) ⟨hx, hb, hml, hown, ht⟩ (m_Reader_quotesLength l dC dI hv) ⟨(callB_of 1 ht (zG_in zi_Reader_quotesLength) rfl rfl rfl (ht _ zw_113) (ht _ zw_520) zh_Reader_quotesLength ⟨Nat.le_of_ble_eq_true rfl, Nat.le_of_ble_eq_true rfl⟩), (ht _ zw_522), (ht _ zw_3)⟩ ⟨zPc_blind, va_recv hK hP (ci := 8) (q0 := 0) rfl rfl, zPc_pre hP hK hD hS hA hE [0, 1] [0] rfl rfl (by decide) rfl⟩ rfl rfl hl.1 rfl (lv_room (Nat.le_of_ble_eq_true rfl)) d_Reader_commonLength_58 ⟨Nat.le_of_ble_eq_true rfl, Nat.le_of_ble_eq_true rfl⟩) hP hD hS hA rfl rfl (by decide) (by decide) (fun r u H locs hv hP hD hS => ?_)
    have hP : va_P (dC, dI) zCl [(h0, .inr (8, o_Reader I0 h1 a0_2 a0_3)), (h1, .inl (cA1, n1, .inl f1))] H := hP.sub [0, 1] rfl
    have hD : va_D A [(h0, .inr (8, o_Reader I0 h1 a0_2 a0_3)), (h1, .inl (cA1, n1, .inl f1))] := hD.sub [0, 1] (by decide) rfl
    exact b_Reader_commonLength_61 hc hA hE  (lv_sub hl [] rfl) hK hP hD hS hv
  have hv := hv.2 c_1
  by_cases c_2 : s0 = (42 : Int32)
  · have hv := hv.1 c_2
    refine lv_lookup (off := 55) (tgt := 62) hx hb d_Reader_commonLength_7 (by decide) (by rw [c_2] <;> rfl) (by decide) ?_
    refine lv_iload_n hx hb d_Reader_commonLength_62 rfl (lv_at hl 2 rfl) ?_
    refine lv_iconst (v := (1 : Int32)) hx hb d_Reader_commonLength_63 (by decide) ?_
    refine lv_iadd hx hb d_Reader_commonLength_64 ?_
    refine lv_aload_n hx hb d_Reader_commonLength_65 rfl (lv_at hl 1 rfl) ?_
    refine va_get (D := (dC, dI)) (ci := 8) (v := .int (I0 1)) (C := "NumberDress$Reader") (T := T_Reader) (N := 5) hx hb ht zin_Reader hown hK hP 0 rfl rfl 1 (by decide) (ht _ zw_272) (fun _ h9 => h9) rfl d_Reader_commonLength_66 ?_
    refine lv_icmp_ge (tgt := 76) hx hb d_Reader_commonLength_69 (by decide) (fun c_3 => ?_) (fun c_3 => ?_)
    · have hv := hv.1 c_3
      refine lv_iconst (v := (0 : Int32)) hx hb d_Reader_commonLength_76 (by decide) ?_
      exact W.iret (v := (0 : Int32)) hx hb hr (fun t ht hW => ⟨⟨_, (), rfl, hv, ⟨by rw [ht]; exact hP, va_K.moved hW.alike hK, hD⟩⟩, hS.F ht⟩) hS.2.2 d_Reader_commonLength_77
    · have hv := hv.2 c_3
      refine lv_iconst (v := (2 : Int32)) hx hb d_Reader_commonLength_72 (by decide) ?_
      refine lv_goto (tgt := 77) hx hb d_Reader_commonLength_73 (by decide) ?_
      exact W.iret (v := (2 : Int32)) hx hb hr (fun t ht hW => ⟨⟨_, (), rfl, hv, ⟨by rw [ht]; exact hP, va_K.moved hW.alike hK, hD⟩⟩, hS.F ht⟩) hS.2.2 d_Reader_commonLength_77
  have hv := hv.2 c_2
  by_cases c_4 : s0 = (91 : Int32)
  · have hv := hv.1 c_4
    refine lv_lookup (off := 71) (tgt := 78) hx hb d_Reader_commonLength_7 (by decide) (by rw [c_4] <;> rfl) (by decide) ?_
    refine lv_aload_n hx hb d_Reader_commonLength_78 rfl (lv_at hl 1 rfl) ?_
    refine lv_iload_n hx hb d_Reader_commonLength_79 rfl (lv_at hl 2 rfl) ?_
    refine z_calli (wc := [(h0, .inr (8, o_Reader I0 h1 a0_2 a0_3)), (h1, .inl (cA1, n1, .inl f1))]) (wr := []) [0, 1] [] (va_runV (As := [.int x1]) (rest := []) ⟨hx, hb, hml, hown, ht⟩ (m_Reader_colourLength l dC dI hv) ⟨(callB_of 1 ht (zG_in zi_Reader_colourLength) rfl rfl rfl (ht _ zw_113) (ht _ zw_524) zh_Reader_colourLength ⟨Nat.le_of_ble_eq_true rfl, Nat.le_of_ble_eq_true rfl⟩), (ht _ zw_526), (ht _ zw_4)⟩ ⟨zPc_blind, va_recv hK hP (ci := 8) (q0 := 0) rfl rfl, zPc_pre hP hK hD hS hA hE [0, 1] [0] rfl rfl (by decide) rfl⟩ rfl rfl hl.1 rfl (lv_room (Nat.le_of_ble_eq_true rfl)) d_Reader_commonLength_80 ⟨Nat.le_of_ble_eq_true rfl, Nat.le_of_ble_eq_true rfl⟩) hP hD hS hA rfl rfl (by decide) (by decide) (fun r u H locs hv hP hD hS => ?_)
    have hP : va_P (dC, dI) zCl [(h0, .inr (8, o_Reader I0 h1 a0_2 a0_3)), (h1, .inl (cA1, n1, .inl f1))] H := hP.sub [0, 1] rfl
    have hD : va_D A [(h0, .inr (8, o_Reader I0 h1 a0_2 a0_3)), (h1, .inl (cA1, n1, .inl f1))] := hD.sub [0, 1] (by decide) rfl
    exact b_Reader_commonLength_83 hc hA hE  (lv_sub hl [] rfl) hK hP hD hS hv
  have hv := hv.2 c_4
  by_cases c_5 : s0 = (92 : Int32)
  · have hv := hv.1 c_5
    refine lv_lookup (off := 55) (tgt := 62) hx hb d_Reader_commonLength_7 (by decide) (by rw [c_5] <;> rfl) (by decide) ?_
    refine lv_iload_n hx hb d_Reader_commonLength_62 rfl (lv_at hl 2 rfl) ?_
    refine lv_iconst (v := (1 : Int32)) hx hb d_Reader_commonLength_63 (by decide) ?_
    refine lv_iadd hx hb d_Reader_commonLength_64 ?_
    refine lv_aload_n hx hb d_Reader_commonLength_65 rfl (lv_at hl 1 rfl) ?_
    refine va_get (D := (dC, dI)) (ci := 8) (v := .int (I0 1)) (C := "NumberDress$Reader") (T := T_Reader) (N := 5) hx hb ht zin_Reader hown hK hP 0 rfl rfl 1 (by decide) (ht _ zw_272) (fun _ h9 => h9) rfl d_Reader_commonLength_66 ?_
    refine lv_icmp_ge (tgt := 76) hx hb d_Reader_commonLength_69 (by decide) (fun c_6 => ?_) (fun c_6 => ?_)
    · have hv := hv.1 c_6
      refine lv_iconst (v := (0 : Int32)) hx hb d_Reader_commonLength_76 (by decide) ?_
      exact W.iret (v := (0 : Int32)) hx hb hr (fun t ht hW => ⟨⟨_, (), rfl, hv, ⟨by rw [ht]; exact hP, va_K.moved hW.alike hK, hD⟩⟩, hS.F ht⟩) hS.2.2 d_Reader_commonLength_77
    · have hv := hv.2 c_6
      refine lv_iconst (v := (2 : Int32)) hx hb d_Reader_commonLength_72 (by decide) ?_
      refine lv_goto (tgt := 77) hx hb d_Reader_commonLength_73 (by decide) ?_
      exact W.iret (v := (2 : Int32)) hx hb hr (fun t ht hW => ⟨⟨_, (), rfl, hv, ⟨by rw [ht]; exact hP, va_K.moved hW.alike hK, hD⟩⟩, hS.F ht⟩) hS.2.2 d_Reader_commonLength_77
  have hv := hv.2 c_5
  by_cases c_7 : s0 = (95 : Int32)
  · have hv := hv.1 c_7
    refine lv_lookup (off := 55) (tgt := 62) hx hb d_Reader_commonLength_7 (by decide) (by rw [c_7] <;> rfl) (by decide) ?_
    refine lv_iload_n hx hb d_Reader_commonLength_62 rfl (lv_at hl 2 rfl) ?_
    refine lv_iconst (v := (1 : Int32)) hx hb d_Reader_commonLength_63 (by decide) ?_
    refine lv_iadd hx hb d_Reader_commonLength_64 ?_
    refine lv_aload_n hx hb d_Reader_commonLength_65 rfl (lv_at hl 1 rfl) ?_
    refine va_get (D := (dC, dI)) (ci := 8) (v := .int (I0 1)) (C := "NumberDress$Reader") (T := T_Reader) (N := 5) hx hb ht zin_Reader hown hK hP 0 rfl rfl 1 (by decide) (ht _ zw_272) (fun _ h9 => h9) rfl d_Reader_commonLength_66 ?_
    refine lv_icmp_ge (tgt := 76) hx hb d_Reader_commonLength_69 (by decide) (fun c_8 => ?_) (fun c_8 => ?_)
    · have hv := hv.1 c_8
      refine lv_iconst (v := (0 : Int32)) hx hb d_Reader_commonLength_76 (by decide) ?_
      exact W.iret (v := (0 : Int32)) hx hb hr (fun t ht hW => ⟨⟨_, (), rfl, hv, ⟨by rw [ht]; exact hP, va_K.moved hW.alike hK, hD⟩⟩, hS.F ht⟩) hS.2.2 d_Reader_commonLength_77
    · have hv := hv.2 c_8
      refine lv_iconst (v := (2 : Int32)) hx hb d_Reader_commonLength_72 (by decide) ?_
      refine lv_goto (tgt := 77) hx hb d_Reader_commonLength_73 (by decide) ?_
      exact W.iret (v := (2 : Int32)) hx hb hr (fun t ht hW => ⟨⟨_, (), rfl, hv, ⟨by rw [ht]; exact hP, va_K.moved hW.alike hK, hD⟩⟩, hS.F ht⟩) hS.2.2 d_Reader_commonLength_77
  have hv := hv.2 c_7
  refine lv_lookup (off := 77) (tgt := 84) hx hb d_Reader_commonLength_7 (by decide) ((lv_osw c_1 (by decide)).trans ((lv_osw c_2 (by decide)).trans ((lv_osw c_4 (by decide)).trans ((lv_osw c_5 (by decide)).trans ((lv_osw c_7 (by decide)).trans rfl))))) (by decide) ?_
  refine lv_iload_n hx hb d_Reader_commonLength_84 rfl (lv_at hl 0 rfl) ?_
  refine z_calli (wc := []) (wr := [(h0, .inr (8, o_Reader I0 h1 a0_2 a0_3)), (h1, .inl (cA1, n1, .inl f1))]) [] [0, 1] (va_runS (As := [.int s0]) (rest := []) ⟨hx, hb, hml, hown, ht⟩ (m_Reader_isOwnLiteral l dC dI hv) ⟨(callB_of 1 ht (zG_in zi_Reader_isOwnLiteral) rfl rfl rfl (ht _ zw_113) (ht _ zw_595) zh_Reader_isOwnLiteral ⟨Nat.le_of_ble_eq_true rfl, Nat.le_of_ble_eq_true rfl⟩), (ht _ zw_596)⟩ ⟨zPc_blind, zPc_pre hP hK hD hS hA hE [] [] rfl rfl (by decide) rfl⟩ rfl rfl hl.1 rfl (lv_room (Nat.le_of_ble_eq_true rfl)) d_Reader_commonLength_85 ⟨Nat.le_of_ble_eq_true rfl, Nat.le_of_ble_eq_true rfl⟩) hP hD hS hA rfl rfl (by decide) (by decide) (fun r u H locs hv hP hD hS => ?_)
  have hP : va_P (dC, dI) zCl [(h0, .inr (8, o_Reader I0 h1 a0_2 a0_3)), (h1, .inl (cA1, n1, .inl f1))] H := hP.sub [0, 1] rfl
  have hD : va_D A [(h0, .inr (8, o_Reader I0 h1 a0_2 a0_3)), (h1, .inl (cA1, n1, .inl f1))] := hD.sub [0, 1] (by decide) rfl
  exact b_Reader_commonLength_88 hc hA hE  (lv_sub hl [] rfl) hK hP hD hS hv
set_option maxHeartbeats 4000000 in
set_option maxRecDepth 100000 in
theorem b_Reader_commonLength_0 {h0 : Nat} {a0_2 : Nat} {a0_3 : Nat} {h1 : Nat} {cA1 : ClassId} {I0 : Nat → Int32} {n1 : Nat} {f1 : Nat → Int32} {x1 : Int32}  {Z : Int32 → Unit → Prop} {H : Heap} {locs : List Loc} {ls : Array Slot} (hc : zC p s m args meth c prog_9_method_9_code (some .int) 3 "NumberDress$Reader") (hA : ∀ q : Nat, s.heap.size ≤ q → A q) (hE : zE gE A s) (hl : lv_has ls 3 [(0, .ref h0), (1, .int x1)]) (hK : va_K (dC, dI) zCl [(cA1, .char)] s) (hP : va_P (dC, dI) zCl [(h0, .inr (8, o_Reader I0 h1 a0_2 a0_3)), (h1, .inl (cA1, n1, .inl f1))] H) (hD : va_D A [(h0, .inr (8, o_Reader I0 h1 a0_2 a0_3)), (h1, .inl (cA1, n1, .inl f1))]) (hS : va_S A s.heap H locs) (hv : v_Reader_commonLength_0 I0 n1 f1 x1  Z) : W p l e (headSpec (Cond.code (⟨"NumberDress$Reader", "commonLength", "(I)I"⟩ : MethodName) prog_9_method_9_code 3 (some .int) :: zT) { frames := 6, cells := 0, slots := 0, locals := 131 }).room s m args below meth c H locs 0 0 (MQ below (va_Qi Z (zB (dC, dI) zCl [(cA1, .char)] A (fun u : Unit => [(h0, .inr (8, o_Reader I0 h1 a0_2 a0_3)), (h1, .inl (cA1, n1, .inl f1))])) A) args s 0 0 A) (F0 m 0 ls []) := by
  obtain ⟨hx, hb, hr, hml, hown, ht, hlocks⟩ := id hc
  unfold v_Reader_commonLength_0 at hv
  refine lv_aload_n hx hb d_Reader_commonLength_0 rfl (lv_at hl 0 rfl) ?_
  refine lv_iload_n hx hb d_Reader_commonLength_1 rfl (lv_at hl 1 rfl) ?_
  refine z_calli (wc := [(h0, .inr (8, o_Reader I0 h1 a0_2 a0_3)), (h1, .inl (cA1, n1, .inl f1))]) (wr := []) [0, 1] [] (va_runV (As := [.int x1]) (rest := []) ⟨hx, hb, hml, hown, ht⟩ (m_Reader_sign l dC dI hv) ⟨(callB_of 1 ht (zG_in zi_Reader_sign) rfl rfl rfl (ht _ zw_113) (ht _ zw_512) zh_Reader_sign ⟨Nat.le_of_ble_eq_true rfl, Nat.le_of_ble_eq_true rfl⟩), (ht _ zw_514), (ht _ zw_1)⟩ ⟨zPc_blind, va_recv hK hP (ci := 8) (q0 := 0) rfl rfl, zPc_pre hP hK hD hS hA hE [0, 1] [0] rfl rfl (by decide) rfl⟩ rfl rfl hl.1 rfl (lv_room (Nat.le_of_ble_eq_true rfl)) d_Reader_commonLength_2 ⟨Nat.le_of_ble_eq_true rfl, Nat.le_of_ble_eq_true rfl⟩) hP hD hS hA rfl rfl (by decide) (by decide) (fun r u H locs hv hP hD hS => ?_)
  have hP : va_P (dC, dI) zCl [(h0, .inr (8, o_Reader I0 h1 a0_2 a0_3)), (h1, .inl (cA1, n1, .inl f1))] H := hP.sub [0, 1] rfl
  have hD : va_D A [(h0, .inr (8, o_Reader I0 h1 a0_2 a0_3)), (h1, .inl (cA1, n1, .inl f1))] := hD.sub [0, 1] (by decide) rfl
  exact b_Reader_commonLength_5 hc hA hE  (lv_sub hl [0, 1] rfl) hK hP hD hS hv
theorem zi_Reader_commonLength : Cond.code (⟨"NumberDress$Reader", "commonLength", "(I)I"⟩ : MethodName) prog_9_method_9_code 3 (some .int) ∈ zT := zw_519
theorem zh_Reader_commonLength : (((⟨"NumberDress$Reader", "commonLength", "(I)I"⟩ : MethodName)).cls ≠ "java/lang/invoke/MethodHandle" ∧ ((⟨"NumberDress$Reader", "commonLength", "(I)I"⟩ : MethodName)).cls ≠ "java/lang/invoke/VarHandle" ∧ (parseMethodDescriptor ((⟨"NumberDress$Reader", "commonLength", "(I)I"⟩ : MethodName)).desc).map (fun d => d.parameters.length) = some 1) := by decide +kernel
set_option maxHeartbeats 4000000 in
set_option maxRecDepth 100000 in
theorem m_Reader_commonLength (l : Launch) (dC : Nat → ClassId) (dI : Nat → Nat → Nat) {gE : zG} {h0 : Nat} {a0_2 : Nat} {a0_3 : Nat} {h1 : Nat} {cA1 : ClassId} {I0 : Nat → Int32} {n1 : Nat} {f1 : Nat → Int32} {x1 : Int32} {sz : Nat} {Z : Int32 → Unit → Prop} (hv : v_Reader_commonLength_0 I0 n1 f1 x1 Z) : Met l (⟨"NumberDress$Reader", "commonLength", "(I)I"⟩ : MethodName) (Cond.code (⟨"NumberDress$Reader", "commonLength", "(I)I"⟩ : MethodName) prog_9_method_9_code 3 (some .int) :: zT) { frames := 6, cells := 0, slots := 0, locals := 131 } (zPc gE (dC, dI) zCl [(cA1, .char)] [.ref h0, .int x1] sz [(h0, .inr (8, o_Reader I0 h1 a0_2 a0_3)), (h1, .inl (cA1, n1, .inl f1))]) (va_Qi Z (zB (dC, dI) zCl [(cA1, .char)] (va_A [(h0, .inr (8, o_Reader I0 h1 a0_2 a0_3)), (h1, .inl (cA1, n1, .inl f1))] sz) (fun u : Unit => [(h0, .inr (8, o_Reader I0 h1 a0_2 a0_3)), (h1, .inl (cA1, n1, .inl f1))])) (va_A [(h0, .inr (8, o_Reader I0 h1 a0_2 a0_3)), (h1, .inl (cA1, n1, .inl f1))] sz)) 0 0 (va_A [(h0, .inr (8, o_Reader I0 h1 a0_2 a0_3)), (h1, .inl (cA1, n1, .inl f1))] sz) := by
  refine Met.ofW (cc := prog_9_method_9_code) (maxL := 3) (ret := (some .int)) (by decide +kernel) rfl ?_
  intro p e s m args below meth c s₁ B hml hp
  obtain ⟨rfl, hsz, hP, hK, hD0, hE⟩ := hp
  have hts := atoms_spec (ws := (Cond.code (⟨"NumberDress$Reader", "commonLength", "(I)I"⟩ : MethodName) prog_9_method_9_code 3 (some .int) :: zT)) B.pre
  have hown : s.vm.findClass "NumberDress$Reader" = some m.cls := findClass_of_methodNamed B.named
  have hc : zC p s m _ meth c prog_9_method_9_code (some .int) 3 "NumberDress$Reader" := ⟨B.exec, B.bytes, B.returns, hml, hown, fun w h => hts w (List.mem_cons_of_mem _ h), B.notSynchronized⟩
  subst hsz
  have hD := hD0.self (sz := s.heap.size)
  generalize hAe : va_A [(h0, .inr (8, o_Reader I0 h1 a0_2 a0_3)), (h1, .inl (cA1, n1, .inl f1))] s.heap.size = A at hD hE ⊢
  have hA : ∀ q : Nat, s.heap.size ≤ q → A q := fun q h => by rw [← hAe]; exact Or.inr h
  have hl := lv_entry ([.ref h0, .int x1]) (n := 3) (Nat.le_of_ble_eq_true rfl)
  rw [lg_entry_eq]
  exact b_Reader_commonLength_0 hc hA hE hl hK hP hD va_S.rf hv
theorem d_Reader_rowLength_0 : decode prog_9_method_37_code 0 = .ok (.iconst 1, 1) := by decide +kernel
theorem d_Reader_rowLength_1 : decode prog_9_method_37_code 1 = .ok (.istore_n 2, 1) := by decide +kernel
theorem d_Reader_rowLength_2 : decode prog_9_method_37_code 2 = .ok (.iload_n 2, 1) := by decide +kernel
theorem d_Reader_rowLength_3 : decode prog_9_method_37_code 3 = .ok (.bipush 64, 2) := by decide +kernel
theorem d_Reader_rowLength_5 : decode prog_9_method_37_code 5 = .ok (.if_icmp .ge 24, 3) := by decide +kernel
theorem d_Reader_rowLength_8 : decode prog_9_method_37_code 8 = .ok (.aload_n 0, 1) := by decide +kernel
theorem d_Reader_rowLength_9 : decode prog_9_method_37_code 9 = .ok (.iload_n 1, 1) := by decide +kernel
theorem d_Reader_rowLength_10 : decode prog_9_method_37_code 10 = .ok (.iload_n 2, 1) := by decide +kernel
theorem d_Reader_rowLength_11 : decode prog_9_method_37_code 11 = .ok (.iadd, 1) := by decide +kernel
theorem d_Reader_rowLength_12 : decode prog_9_method_37_code 12 = .ok (.invokevirtual 99, 3) := by decide +kernel
theorem d_Reader_rowLength_15 : decode prog_9_method_37_code 15 = .ok (.aload_n 0, 1) := by decide +kernel
theorem d_Reader_rowLength_16 : decode prog_9_method_37_code 16 = .ok (.iload_n 1, 1) := by decide +kernel
theorem d_Reader_rowLength_17 : decode prog_9_method_37_code 17 = .ok (.invokevirtual 99, 3) := by decide +kernel
theorem d_Reader_rowLength_20 : decode prog_9_method_37_code 20 = .ok (.if_icmp .ne 9, 3) := by decide +kernel
theorem d_Reader_rowLength_23 : decode prog_9_method_37_code 23 = .ok (.iinc 2 1, 3) := by decide +kernel
theorem d_Reader_rowLength_26 : decode prog_9_method_37_code 26 = .ok (.goto (-24), 3) := by decide +kernel
theorem d_Reader_rowLength_29 : decode prog_9_method_37_code 29 = .ok (.iload_n 2, 1) := by decide +kernel
theorem d_Reader_rowLength_30 : decode prog_9_method_37_code 30 = .ok (.ireturn, 1) := by decide +kernel
set_option maxHeartbeats 4000000 in
set_option maxRecDepth 100000 in
theorem b_Reader_rowLength_20 {h0 : Nat} {a0_2 : Nat} {a0_3 : Nat} {h1 : Nat} {cA1 : ClassId} {I0 : Nat → Int32} {n1 : Nat} {f1 : Nat → Int32} {x1 : Int32} {x2 : Int32} {s0 : Int32} {s1 : Int32} {k2 : Int32 → Prop} {Z : Int32 → Unit → Prop} {H : Heap} {locs : List Loc} {ls : Array Slot} (hc : zC p s m args meth c prog_9_method_37_code (some .int) 3 "NumberDress$Reader") (hA : ∀ q : Nat, s.heap.size ≤ q → A q) (hE : zE gE A s) (hk2 : ∀ (x2 : Int32) (H : Heap) (locs : List Loc) (ls : Array Slot), lv_has ls 3 [(0, .ref h0), (1, .int x1), (2, .int x2)] → va_K (dC, dI) zCl [(cA1, .char)] s → va_P (dC, dI) zCl [(h0, .inr (8, o_Reader I0 h1 a0_2 a0_3)), (h1, .inl (cA1, n1, .inl f1))] H → va_D A [(h0, .inr (8, o_Reader I0 h1 a0_2 a0_3)), (h1, .inl (cA1, n1, .inl f1))] → va_S A s.heap H locs → k2 x2 → W p l e (headSpec (Cond.code (⟨"NumberDress$Reader", "rowLength", "(I)I"⟩ : MethodName) prog_9_method_37_code 3 (some .int) :: zT) { frames := 1, cells := 0, slots := 0, locals := 22 }).room s m args below meth c H locs 0 0 (MQ below (va_Qi Z (zB (dC, dI) zCl [(cA1, .char)] A (fun u : Unit => [(h0, .inr (8, o_Reader I0 h1 a0_2 a0_3)), (h1, .inl (cA1, n1, .inl f1))])) A) args s 0 0 A) (F0 m 2 ls [])) (hl : lv_has ls 3 [(0, .ref h0), (1, .int x1), (2, .int x2)]) (hK : va_K (dC, dI) zCl [(cA1, .char)] s) (hP : va_P (dC, dI) zCl [(h0, .inr (8, o_Reader I0 h1 a0_2 a0_3)), (h1, .inl (cA1, n1, .inl f1))] H) (hD : va_D A [(h0, .inr (8, o_Reader I0 h1 a0_2 a0_3)), (h1, .inl (cA1, n1, .inl f1))]) (hS : va_S A s.heap H locs) (hv : v_Reader_rowLength_20 I0 n1 f1 x1 x2 s0 s1 k2 Z) : W p l e (headSpec (Cond.code (⟨"NumberDress$Reader", "rowLength", "(I)I"⟩ : MethodName) prog_9_method_37_code 3 (some .int) :: zT) { frames := 1, cells := 0, slots := 0, locals := 22 }).room s m args below meth c H locs 0 0 (MQ below (va_Qi Z (zB (dC, dI) zCl [(cA1, .char)] A (fun u : Unit => [(h0, .inr (8, o_Reader I0 h1 a0_2 a0_3)), (h1, .inl (cA1, n1, .inl f1))])) A) args s 0 0 A) (F0 m 20 ls [.int s1, .int s0]) := by
  obtain ⟨hx, hb, hr, hml, hown, ht, hlocks⟩ := id hc
  unfold v_Reader_rowLength_20 at hv
  refine lv_icmp_ne (tgt := 29) hx hb d_Reader_rowLength_20 (by decide) (fun c_1 => ?_) (fun c_1 => ?_)
  · have hv := hv.1 c_1
    refine lv_iload_n hx hb d_Reader_rowLength_29 rfl (lv_at hl 2 rfl) ?_
    exact W.iret (v := x2) hx hb hr (fun t ht hW => ⟨⟨_, (), rfl, hv, ⟨by rw [ht]; exact hP, va_K.moved hW.alike hK, hD⟩⟩, hS.F ht⟩) hS.2.2 d_Reader_rowLength_30
  · have hv := hv.2 c_1
    refine lv_iinc (v := (x2 + (1 : Int32))) (lv' := [(2, .int (x2 + (1 : Int32))), (0, .ref h0), (1, .int x1)]) hx hb d_Reader_rowLength_23 hl (k := 2) rfl rfl (by decide) rfl (fun ls hl => ?_)
    refine lv_goto (tgt := 2) hx hb d_Reader_rowLength_26 (by decide) ?_
    exact hk2 (x2 + (1 : Int32)) _ _ _ (lv_sub hl [1, 2, 0] rfl) hK hP hD hS hv
set_option maxHeartbeats 4000000 in
set_option maxRecDepth 100000 in
theorem b_Reader_rowLength_15 {h0 : Nat} {a0_2 : Nat} {a0_3 : Nat} {h1 : Nat} {cA1 : ClassId} {I0 : Nat → Int32} {n1 : Nat} {f1 : Nat → Int32} {x1 : Int32} {x2 : Int32} {s0 : Int32} {k2 : Int32 → Prop} {Z : Int32 → Unit → Prop} {H : Heap} {locs : List Loc} {ls : Array Slot} (hc : zC p s m args meth c prog_9_method_37_code (some .int) 3 "NumberDress$Reader") (hA : ∀ q : Nat, s.heap.size ≤ q → A q) (hE : zE gE A s) (hk2 : ∀ (x2 : Int32) (H : Heap) (locs : List Loc) (ls : Array Slot), lv_has ls 3 [(0, .ref h0), (1, .int x1), (2, .int x2)] → va_K (dC, dI) zCl [(cA1, .char)] s → va_P (dC, dI) zCl [(h0, .inr (8, o_Reader I0 h1 a0_2 a0_3)), (h1, .inl (cA1, n1, .inl f1))] H → va_D A [(h0, .inr (8, o_Reader I0 h1 a0_2 a0_3)), (h1, .inl (cA1, n1, .inl f1))] → va_S A s.heap H locs → k2 x2 → W p l e (headSpec (Cond.code (⟨"NumberDress$Reader", "rowLength", "(I)I"⟩ : MethodName) prog_9_method_37_code 3 (some .int) :: zT) { frames := 1, cells := 0, slots := 0, locals := 22 }).room s m args below meth c H locs 0 0 (MQ below (va_Qi Z (zB (dC, dI) zCl [(cA1, .char)] A (fun u : Unit => [(h0, .inr (8, o_Reader I0 h1 a0_2 a0_3)), (h1, .inl (cA1, n1, .inl f1))])) A) args s 0 0 A) (F0 m 2 ls [])) (hl : lv_has ls 3 [(0, .ref h0), (1, .int x1), (2, .int x2)]) (hK : va_K (dC, dI) zCl [(cA1, .char)] s) (hP : va_P (dC, dI) zCl [(h0, .inr (8, o_Reader I0 h1 a0_2 a0_3)), (h1, .inl (cA1, n1, .inl f1))] H) (hD : va_D A [(h0, .inr (8, o_Reader I0 h1 a0_2 a0_3)), (h1, .inl (cA1, n1, .inl f1))]) (hS : va_S A s.heap H locs) (hv : v_Reader_rowLength_15 I0 n1 f1 x1 x2 s0 k2 Z) : W p l e (headSpec (Cond.code (⟨"NumberDress$Reader", "rowLength", "(I)I"⟩ : MethodName) prog_9_method_37_code 3 (some .int) :: zT) { frames := 1, cells := 0, slots := 0, locals := 22 }).room s m args below meth c H locs 0 0 (MQ below (va_Qi Z (zB (dC, dI) zCl [(cA1, .char)] A (fun u : Unit => [(h0, .inr (8, o_Reader I0 h1 a0_2 a0_3)), (h1, .inl (cA1, n1, .inl f1))])) A) args s 0 0 A) (F0 m 15 ls [.int s0]) := by
  obtain ⟨hx, hb, hr, hml, hown, ht, hlocks⟩ := id hc
  unfold v_Reader_rowLength_15 at hv
  refine lv_aload_n hx hb d_Reader_rowLength_15 rfl (lv_at hl 0 rfl) ?_
  refine lv_iload_n hx hb d_Reader_rowLength_16 rfl (lv_at hl 1 rfl) ?_
  refine z_calli (wc := [(h0, .inr (8, o_Reader I0 h1 a0_2 a0_3)), (h1, .inl (cA1, n1, .inl f1))]) (wr := []) [0, 1] [] (va_runV (As := [.int x1]) (rest := [.int s0]) ⟨hx, hb, hml, hown, ht⟩ (m_Reader_small l dC dI hv) ⟨(callB_of 1 ht (zG_in zi_Reader_small) rfl rfl rfl (ht _ zw_113) (ht _ zw_553) zh_Reader_small ⟨Nat.le_of_ble_eq_true rfl, Nat.le_of_ble_eq_true rfl⟩), (ht _ zw_555), (ht _ zw_6)⟩ ⟨zPc_blind, va_recv hK hP (ci := 8) (q0 := 0) rfl rfl, zPc_pre hP hK hD hS hA hE [0, 1] [0] rfl rfl (by decide) rfl⟩ rfl rfl hl.1 rfl (lv_room (Nat.le_of_ble_eq_true rfl)) d_Reader_rowLength_17 ⟨Nat.le_of_ble_eq_true rfl, Nat.le_of_ble_eq_true rfl⟩) hP hD hS hA rfl rfl (by decide) (by decide) (fun r u H locs hv hP hD hS => ?_)
  have hP : va_P (dC, dI) zCl [(h0, .inr (8, o_Reader I0 h1 a0_2 a0_3)), (h1, .inl (cA1, n1, .inl f1))] H := hP.sub [0, 1] rfl
  have hD : va_D A [(h0, .inr (8, o_Reader I0 h1 a0_2 a0_3)), (h1, .inl (cA1, n1, .inl f1))] := hD.sub [0, 1] (by decide) rfl
  exact b_Reader_rowLength_20 hc hA hE hk2 (lv_sub hl [0, 1, 2] rfl) hK hP hD hS hv
set_option maxHeartbeats 4000000 in
set_option maxRecDepth 100000 in
theorem b_Reader_rowLength_2 {h0 : Nat} {a0_2 : Nat} {a0_3 : Nat} {h1 : Nat} {cA1 : ClassId} {I0 : Nat → Int32} {n1 : Nat} {f1 : Nat → Int32} {x1 : Int32}  {Z : Int32 → Unit → Prop} (hc : zC p s m args meth c prog_9_method_37_code (some .int) 3 "NumberDress$Reader") (hA : ∀ q : Nat, s.heap.size ≤ q → A q) (hE : zE gE A s) : ∀ (N : Nat) (x2 : Int32) (H : Heap) (locs : List Loc) (ls : Array Slot), lv_has ls 3 [(0, .ref h0), (1, .int x1), (2, .int x2)] → va_K (dC, dI) zCl [(cA1, .char)] s → va_P (dC, dI) zCl [(h0, .inr (8, o_Reader I0 h1 a0_2 a0_3)), (h1, .inl (cA1, n1, .inl f1))] H → va_D A [(h0, .inr (8, o_Reader I0 h1 a0_2 a0_3)), (h1, .inl (cA1, n1, .inl f1))] → va_S A s.heap H locs → v_Reader_rowLength_2 I0 n1 f1 x1  Z N x2 → W p l e (headSpec (Cond.code (⟨"NumberDress$Reader", "rowLength", "(I)I"⟩ : MethodName) prog_9_method_37_code 3 (some .int) :: zT) { frames := 1, cells := 0, slots := 0, locals := 22 }).room s m args below meth c H locs 0 0 (MQ below (va_Qi Z (zB (dC, dI) zCl [(cA1, .char)] A (fun u : Unit => [(h0, .inr (8, o_Reader I0 h1 a0_2 a0_3)), (h1, .inl (cA1, n1, .inl f1))])) A) args s 0 0 A) (F0 m 2 ls []) := by
  obtain ⟨hx, hb, hr, hml, hown, ht, hlocks⟩ := id hc
  intro N
  induction N with
  | zero => intro x2 H locs ls hl hK hP hD hS hv; exact hv.elim
  | succ N hk2 =>
    intro x2 H locs ls hl hK hP hD hS hv
    unfold v_Reader_rowLength_2 at hv
    refine lv_iload_n hx hb d_Reader_rowLength_2 rfl (lv_at hl 2 rfl) ?_
    refine lv_bipush (v := (64 : Int32)) hx hb d_Reader_rowLength_3 (by decide) ?_
    refine lv_icmp_ge (tgt := 29) hx hb d_Reader_rowLength_5 (by decide) (fun c_1 => ?_) (fun c_1 => ?_)
    · have hv := hv.1 c_1
      refine lv_iload_n hx hb d_Reader_rowLength_29 rfl (lv_at hl 2 rfl) ?_
      exact W.iret (v := x2) hx hb hr (fun t ht hW => ⟨⟨_, (), rfl, hv, ⟨by rw [ht]; exact hP, va_K.moved hW.alike hK, hD⟩⟩, hS.F ht⟩) hS.2.2 d_Reader_rowLength_30
    · have hv := hv.2 c_1
      refine lv_aload_n hx hb d_Reader_rowLength_8 rfl (lv_at hl 0 rfl) ?_
      refine lv_iload_n hx hb d_Reader_rowLength_9 rfl (lv_at hl 1 rfl) ?_
      refine lv_iload_n hx hb d_Reader_rowLength_10 rfl (lv_at hl 2 rfl) ?_
      refine lv_iadd hx hb d_Reader_rowLength_11 ?_
      refine z_calli (wc := [(h0, .inr (8, o_Reader I0 h1 a0_2 a0_3)), (h1, .inl (cA1, n1, .inl f1))]) (wr := []) [0, 1] [] (va_runV (As := [.int (x1 + x2)]) (rest := []) ⟨hx, hb, hml, hown, ht⟩ (m_Reader_small l dC dI hv) ⟨(callB_of 1 ht (zG_in zi_Reader_small) rfl rfl rfl (ht _ zw_113) (ht _ zw_553) zh_Reader_small ⟨Nat.le_of_ble_eq_true rfl, Nat.le_of_ble_eq_true rfl⟩), (ht _ zw_555), (ht _ zw_6)⟩ ⟨zPc_blind, va_recv hK hP (ci := 8) (q0 := 0) rfl rfl, zPc_pre hP hK hD hS hA hE [0, 1] [0] rfl rfl (by decide) rfl⟩ rfl rfl hl.1 rfl (lv_room (Nat.le_of_ble_eq_true rfl)) d_Reader_rowLength_12 ⟨Nat.le_of_ble_eq_true rfl, Nat.le_of_ble_eq_true rfl⟩) hP hD hS hA rfl rfl (by decide) (by decide) (fun r u H locs hv hP hD hS => ?_)
      have hP : va_P (dC, dI) zCl [(h0, .inr (8, o_Reader I0 h1 a0_2 a0_3)), (h1, .inl (cA1, n1, .inl f1))] H := hP.sub [0, 1] rfl
      have hD : va_D A [(h0, .inr (8, o_Reader I0 h1 a0_2 a0_3)), (h1, .inl (cA1, n1, .inl f1))] := hD.sub [0, 1] (by decide) rfl
      exact b_Reader_rowLength_15 hc hA hE hk2 (lv_sub hl [0, 1, 2] rfl) hK hP hD hS hv
set_option maxHeartbeats 4000000 in
set_option maxRecDepth 100000 in
theorem b_Reader_rowLength_0 {h0 : Nat} {a0_2 : Nat} {a0_3 : Nat} {h1 : Nat} {cA1 : ClassId} {I0 : Nat → Int32} {n1 : Nat} {f1 : Nat → Int32} {x1 : Int32}  {Z : Int32 → Unit → Prop} {H : Heap} {locs : List Loc} {ls : Array Slot} (hc : zC p s m args meth c prog_9_method_37_code (some .int) 3 "NumberDress$Reader") (hA : ∀ q : Nat, s.heap.size ≤ q → A q) (hE : zE gE A s) (hl : lv_has ls 3 [(0, .ref h0), (1, .int x1)]) (hK : va_K (dC, dI) zCl [(cA1, .char)] s) (hP : va_P (dC, dI) zCl [(h0, .inr (8, o_Reader I0 h1 a0_2 a0_3)), (h1, .inl (cA1, n1, .inl f1))] H) (hD : va_D A [(h0, .inr (8, o_Reader I0 h1 a0_2 a0_3)), (h1, .inl (cA1, n1, .inl f1))]) (hS : va_S A s.heap H locs) (hv : v_Reader_rowLength_0 I0 n1 f1 x1  Z) : W p l e (headSpec (Cond.code (⟨"NumberDress$Reader", "rowLength", "(I)I"⟩ : MethodName) prog_9_method_37_code 3 (some .int) :: zT) { frames := 1, cells := 0, slots := 0, locals := 22 }).room s m args below meth c H locs 0 0 (MQ below (va_Qi Z (zB (dC, dI) zCl [(cA1, .char)] A (fun u : Unit => [(h0, .inr (8, o_Reader I0 h1 a0_2 a0_3)), (h1, .inl (cA1, n1, .inl f1))])) A) args s 0 0 A) (F0 m 0 ls []) := by
  obtain ⟨hx, hb, hr, hml, hown, ht, hlocks⟩ := id hc
  unfold v_Reader_rowLength_0 at hv
  refine lv_iconst (v := (1 : Int32)) hx hb d_Reader_rowLength_0 (by decide) ?_
  refine lv_istore_n (lv' := [(2, .int (1 : Int32)), (0, .ref h0), (1, .int x1)]) hx hb d_Reader_rowLength_1 rfl hl (by decide) rfl (fun ls hl => ?_)
  obtain ⟨Nx, hv⟩ := hv
  exact b_Reader_rowLength_2 hc hA hE  Nx (1 : Int32) _ _ _ (lv_sub hl [1, 2, 0] rfl) hK hP hD hS hv
theorem zi_Reader_rowLength : Cond.code (⟨"NumberDress$Reader", "rowLength", "(I)I"⟩ : MethodName) prog_9_method_37_code 3 (some .int) ∈ zT := zw_691
theorem zh_Reader_rowLength : (((⟨"NumberDress$Reader", "rowLength", "(I)I"⟩ : MethodName)).cls ≠ "java/lang/invoke/MethodHandle" ∧ ((⟨"NumberDress$Reader", "rowLength", "(I)I"⟩ : MethodName)).cls ≠ "java/lang/invoke/VarHandle" ∧ (parseMethodDescriptor ((⟨"NumberDress$Reader", "rowLength", "(I)I"⟩ : MethodName)).desc).map (fun d => d.parameters.length) = some 1) := by decide +kernel
set_option maxHeartbeats 4000000 in
set_option maxRecDepth 100000 in
theorem m_Reader_rowLength (l : Launch) (dC : Nat → ClassId) (dI : Nat → Nat → Nat) {gE : zG} {h0 : Nat} {a0_2 : Nat} {a0_3 : Nat} {h1 : Nat} {cA1 : ClassId} {I0 : Nat → Int32} {n1 : Nat} {f1 : Nat → Int32} {x1 : Int32} {sz : Nat} {Z : Int32 → Unit → Prop} (hv : v_Reader_rowLength_0 I0 n1 f1 x1 Z) : Met l (⟨"NumberDress$Reader", "rowLength", "(I)I"⟩ : MethodName) (Cond.code (⟨"NumberDress$Reader", "rowLength", "(I)I"⟩ : MethodName) prog_9_method_37_code 3 (some .int) :: zT) { frames := 1, cells := 0, slots := 0, locals := 22 } (zPc gE (dC, dI) zCl [(cA1, .char)] [.ref h0, .int x1] sz [(h0, .inr (8, o_Reader I0 h1 a0_2 a0_3)), (h1, .inl (cA1, n1, .inl f1))]) (va_Qi Z (zB (dC, dI) zCl [(cA1, .char)] (va_A [(h0, .inr (8, o_Reader I0 h1 a0_2 a0_3)), (h1, .inl (cA1, n1, .inl f1))] sz) (fun u : Unit => [(h0, .inr (8, o_Reader I0 h1 a0_2 a0_3)), (h1, .inl (cA1, n1, .inl f1))])) (va_A [(h0, .inr (8, o_Reader I0 h1 a0_2 a0_3)), (h1, .inl (cA1, n1, .inl f1))] sz)) 0 0 (va_A [(h0, .inr (8, o_Reader I0 h1 a0_2 a0_3)), (h1, .inl (cA1, n1, .inl f1))] sz) := by
  refine Met.ofW (cc := prog_9_method_37_code) (maxL := 3) (ret := (some .int)) (by decide +kernel) rfl ?_
  intro p e s m args below meth c s₁ B hml hp
  obtain ⟨rfl, hsz, hP, hK, hD0, hE⟩ := hp
  have hts := atoms_spec (ws := (Cond.code (⟨"NumberDress$Reader", "rowLength", "(I)I"⟩ : MethodName) prog_9_method_37_code 3 (some .int) :: zT)) B.pre
  have hown : s.vm.findClass "NumberDress$Reader" = some m.cls := findClass_of_methodNamed B.named
  have hc : zC p s m _ meth c prog_9_method_37_code (some .int) 3 "NumberDress$Reader" := ⟨B.exec, B.bytes, B.returns, hml, hown, fun w h => hts w (List.mem_cons_of_mem _ h), B.notSynchronized⟩
  subst hsz
  have hD := hD0.self (sz := s.heap.size)
  generalize hAe : va_A [(h0, .inr (8, o_Reader I0 h1 a0_2 a0_3)), (h1, .inl (cA1, n1, .inl f1))] s.heap.size = A at hD hE ⊢
  have hA : ∀ q : Nat, s.heap.size ≤ q → A q := fun q h => by rw [← hAe]; exact Or.inr h
  have hl := lv_entry ([.ref h0, .int x1]) (n := 3) (Nat.le_of_ble_eq_true rfl)
  rw [lg_entry_eq]
  exact b_Reader_rowLength_0 hc hA hE hl hK hP hD va_S.rf hv
theorem d_Reader_bracketRow_0 : decode prog_9_method_38_code 0 = .ok (.aload_n 0, 1) := by decide +kernel
theorem d_Reader_bracketRow_1 : decode prog_9_method_38_code 1 = .ok (.iload_n 1, 1) := by decide +kernel
theorem d_Reader_bracketRow_2 : decode prog_9_method_38_code 2 = .ok (.iconst 1, 1) := by decide +kernel
theorem d_Reader_bracketRow_3 : decode prog_9_method_38_code 3 = .ok (.iadd, 1) := by decide +kernel
theorem d_Reader_bracketRow_4 : decode prog_9_method_38_code 4 = .ok (.invokevirtual 99, 3) := by decide +kernel
theorem d_Reader_bracketRow_7 : decode prog_9_method_38_code 7 = .ok (.istore_n 2, 1) := by decide +kernel
theorem d_Reader_bracketRow_8 : decode prog_9_method_38_code 8 = .ok (.aload_n 0, 1) := by decide +kernel
theorem d_Reader_bracketRow_9 : decode prog_9_method_38_code 9 = .ok (.iload_n 1, 1) := by decide +kernel
theorem d_Reader_bracketRow_10 : decode prog_9_method_38_code 10 = .ok (.invokevirtual 86, 3) := by decide +kernel
theorem d_Reader_bracketRow_13 : decode prog_9_method_38_code 13 = .ok (.bipush 91, 2) := by decide +kernel
theorem d_Reader_bracketRow_15 : decode prog_9_method_38_code 15 = .ok (.if_icmp .ne 21, 3) := by decide +kernel
theorem d_Reader_bracketRow_18 : decode prog_9_method_38_code 18 = .ok (.iload_n 2, 1) := by decide +kernel
theorem d_Reader_bracketRow_19 : decode prog_9_method_38_code 19 = .ok (.bipush 104, 2) := by decide +kernel
theorem d_Reader_bracketRow_21 : decode prog_9_method_38_code 21 = .ok (.if_icmp .eq 17, 3) := by decide +kernel
theorem d_Reader_bracketRow_24 : decode prog_9_method_38_code 24 = .ok (.iload_n 2, 1) := by decide +kernel
theorem d_Reader_bracketRow_25 : decode prog_9_method_38_code 25 = .ok (.bipush 109, 2) := by decide +kernel
theorem d_Reader_bracketRow_27 : decode prog_9_method_38_code 27 = .ok (.if_icmp .eq 11, 3) := by decide +kernel
theorem d_Reader_bracketRow_30 : decode prog_9_method_38_code 30 = .ok (.iload_n 2, 1) := by decide +kernel
theorem d_Reader_bracketRow_31 : decode prog_9_method_38_code 31 = .ok (.bipush 115, 2) := by decide +kernel
theorem d_Reader_bracketRow_33 : decode prog_9_method_38_code 33 = .ok (.if_icmp .eq 5, 3) := by decide +kernel
theorem d_Reader_bracketRow_36 : decode prog_9_method_38_code 36 = .ok (.iconst 0, 1) := by decide +kernel
theorem d_Reader_bracketRow_37 : decode prog_9_method_38_code 37 = .ok (.ireturn, 1) := by decide +kernel
theorem d_Reader_bracketRow_38 : decode prog_9_method_38_code 38 = .ok (.aload_n 0, 1) := by decide +kernel
theorem d_Reader_bracketRow_39 : decode prog_9_method_38_code 39 = .ok (.iload_n 1, 1) := by decide +kernel
theorem d_Reader_bracketRow_40 : decode prog_9_method_38_code 40 = .ok (.iconst 1, 1) := by decide +kernel
theorem d_Reader_bracketRow_41 : decode prog_9_method_38_code 41 = .ok (.iadd, 1) := by decide +kernel
theorem d_Reader_bracketRow_42 : decode prog_9_method_38_code 42 = .ok (.invokevirtual 237, 3) := by decide +kernel
theorem d_Reader_bracketRow_45 : decode prog_9_method_38_code 45 = .ok (.istore_n 3, 1) := by decide +kernel
theorem d_Reader_bracketRow_46 : decode prog_9_method_38_code 46 = .ok (.aload_n 0, 1) := by decide +kernel
theorem d_Reader_bracketRow_47 : decode prog_9_method_38_code 47 = .ok (.iload_n 1, 1) := by decide +kernel
theorem d_Reader_bracketRow_48 : decode prog_9_method_38_code 48 = .ok (.iconst 1, 1) := by decide +kernel
theorem d_Reader_bracketRow_49 : decode prog_9_method_38_code 49 = .ok (.iadd, 1) := by decide +kernel
theorem d_Reader_bracketRow_50 : decode prog_9_method_38_code 50 = .ok (.iload_n 3, 1) := by decide +kernel
theorem d_Reader_bracketRow_51 : decode prog_9_method_38_code 51 = .ok (.iadd, 1) := by decide +kernel
theorem d_Reader_bracketRow_52 : decode prog_9_method_38_code 52 = .ok (.invokevirtual 86, 3) := by decide +kernel
theorem d_Reader_bracketRow_55 : decode prog_9_method_38_code 55 = .ok (.bipush 93, 2) := by decide +kernel
theorem d_Reader_bracketRow_57 : decode prog_9_method_38_code 57 = .ok (.if_icmp .ne 7, 3) := by decide +kernel
theorem d_Reader_bracketRow_60 : decode prog_9_method_38_code 60 = .ok (.iload_n 3, 1) := by decide +kernel
theorem d_Reader_bracketRow_61 : decode prog_9_method_38_code 61 = .ok (.goto 4, 3) := by decide +kernel
theorem d_Reader_bracketRow_64 : decode prog_9_method_38_code 64 = .ok (.iconst 0, 1) := by decide +kernel
theorem d_Reader_bracketRow_65 : decode prog_9_method_38_code 65 = .ok (.ireturn, 1) := by decide +kernel
set_option maxHeartbeats 4000000 in
set_option maxRecDepth 100000 in
theorem b_Reader_bracketRow_55 {h0 : Nat} {a0_2 : Nat} {a0_3 : Nat} {h1 : Nat} {cA1 : ClassId} {I0 : Nat → Int32} {n1 : Nat} {f1 : Nat → Int32} {x3 : Int32} {s0 : Int32}  {Z : Int32 → Unit → Prop} {H : Heap} {locs : List Loc} {ls : Array Slot} (hc : zC p s m args meth c prog_9_method_38_code (some .int) 4 "NumberDress$Reader") (hA : ∀ q : Nat, s.heap.size ≤ q → A q) (hE : zE gE A s) (hl : lv_has ls 4 [(3, .int x3)]) (hK : va_K (dC, dI) zCl [(cA1, .char)] s) (hP : va_P (dC, dI) zCl [(h0, .inr (8, o_Reader I0 h1 a0_2 a0_3)), (h1, .inl (cA1, n1, .inl f1))] H) (hD : va_D A [(h0, .inr (8, o_Reader I0 h1 a0_2 a0_3)), (h1, .inl (cA1, n1, .inl f1))]) (hS : va_S A s.heap H locs) (hv : v_Reader_bracketRow_55 I0 n1 f1 x3 s0  Z) : W p l e (headSpec (Cond.code (⟨"NumberDress$Reader", "bracketRow", "(I)I"⟩ : MethodName) prog_9_method_38_code 4 (some .int) :: zT) { frames := 2, cells := 0, slots := 0, locals := 44 }).room s m args below meth c H locs 0 0 (MQ below (va_Qi Z (zB (dC, dI) zCl [(cA1, .char)] A (fun u : Unit => [(h0, .inr (8, o_Reader I0 h1 a0_2 a0_3)), (h1, .inl (cA1, n1, .inl f1))])) A) args s 0 0 A) (F0 m 55 ls [.int s0]) := by
  obtain ⟨hx, hb, hr, hml, hown, ht, hlocks⟩ := id hc
  unfold v_Reader_bracketRow_55 at hv
  refine lv_bipush (v := (93 : Int32)) hx hb d_Reader_bracketRow_55 (by decide) ?_
  refine lv_icmp_ne (tgt := 64) hx hb d_Reader_bracketRow_57 (by decide) (fun c_1 => ?_) (fun c_1 => ?_)
  · have hv := hv.1 c_1
    refine lv_iconst (v := (0 : Int32)) hx hb d_Reader_bracketRow_64 (by decide) ?_
    exact W.iret (v := (0 : Int32)) hx hb hr (fun t ht hW => ⟨⟨_, (), rfl, hv, ⟨by rw [ht]; exact hP, va_K.moved hW.alike hK, hD⟩⟩, hS.F ht⟩) hS.2.2 d_Reader_bracketRow_65
  · have hv := hv.2 c_1
    refine lv_iload_n hx hb d_Reader_bracketRow_60 rfl (lv_at hl 0 rfl) ?_
    refine lv_goto (tgt := 65) hx hb d_Reader_bracketRow_61 (by decide) ?_
    exact W.iret (v := x3) hx hb hr (fun t ht hW => ⟨⟨_, (), rfl, hv, ⟨by rw [ht]; exact hP, va_K.moved hW.alike hK, hD⟩⟩, hS.F ht⟩) hS.2.2 d_Reader_bracketRow_65
set_option maxHeartbeats 4000000 in
set_option maxRecDepth 100000 in
theorem b_Reader_bracketRow_45 {h0 : Nat} {a0_2 : Nat} {a0_3 : Nat} {h1 : Nat} {cA1 : ClassId} {I0 : Nat → Int32} {n1 : Nat} {f1 : Nat → Int32} {x1 : Int32} {s0 : Int32}  {Z : Int32 → Unit → Prop} {H : Heap} {locs : List Loc} {ls : Array Slot} (hc : zC p s m args meth c prog_9_method_38_code (some .int) 4 "NumberDress$Reader") (hA : ∀ q : Nat, s.heap.size ≤ q → A q) (hE : zE gE A s) (hl : lv_has ls 4 [(0, .ref h0), (1, .int x1)]) (hK : va_K (dC, dI) zCl [(cA1, .char)] s) (hP : va_P (dC, dI) zCl [(h0, .inr (8, o_Reader I0 h1 a0_2 a0_3)), (h1, .inl (cA1, n1, .inl f1))] H) (hD : va_D A [(h0, .inr (8, o_Reader I0 h1 a0_2 a0_3)), (h1, .inl (cA1, n1, .inl f1))]) (hS : va_S A s.heap H locs) (hv : v_Reader_bracketRow_45 I0 n1 f1 x1 s0  Z) : W p l e (headSpec (Cond.code (⟨"NumberDress$Reader", "bracketRow", "(I)I"⟩ : MethodName) prog_9_method_38_code 4 (some .int) :: zT) { frames := 2, cells := 0, slots := 0, locals := 44 }).room s m args below meth c H locs 0 0 (MQ below (va_Qi Z (zB (dC, dI) zCl [(cA1, .char)] A (fun u : Unit => [(h0, .inr (8, o_Reader I0 h1 a0_2 a0_3)), (h1, .inl (cA1, n1, .inl f1))])) A) args s 0 0 A) (F0 m 45 ls [.int s0]) := by
  obtain ⟨hx, hb, hr, hml, hown, ht, hlocks⟩ := id hc
  unfold v_Reader_bracketRow_45 at hv
  refine lv_istore_n (lv' := [(3, .int s0), (0, .ref h0), (1, .int x1)]) hx hb d_Reader_bracketRow_45 rfl hl (by decide) rfl (fun ls hl => ?_)
  refine lv_aload_n hx hb d_Reader_bracketRow_46 rfl (lv_at hl 1 rfl) ?_
  refine lv_iload_n hx hb d_Reader_bracketRow_47 rfl (lv_at hl 2 rfl) ?_
  refine lv_iconst (v := (1 : Int32)) hx hb d_Reader_bracketRow_48 (by decide) ?_
  refine lv_iadd hx hb d_Reader_bracketRow_49 ?_
  refine lv_iload_n hx hb d_Reader_bracketRow_50 rfl (lv_at hl 0 rfl) ?_
  refine lv_iadd hx hb d_Reader_bracketRow_51 ?_
  refine z_calli (wc := [(h0, .inr (8, o_Reader I0 h1 a0_2 a0_3)), (h1, .inl (cA1, n1, .inl f1))]) (wr := []) [0, 1] [] (va_runV (As := [.int ((x1 + (1 : Int32)) + s0)]) (rest := []) ⟨hx, hb, hml, hown, ht⟩ (m_Reader_sign l dC dI hv) ⟨(callB_of 1 ht (zG_in zi_Reader_sign) rfl rfl rfl (ht _ zw_113) (ht _ zw_512) zh_Reader_sign ⟨Nat.le_of_ble_eq_true rfl, Nat.le_of_ble_eq_true rfl⟩), (ht _ zw_514), (ht _ zw_1)⟩ ⟨zPc_blind, va_recv hK hP (ci := 8) (q0 := 0) rfl rfl, zPc_pre hP hK hD hS hA hE [0, 1] [0] rfl rfl (by decide) rfl⟩ rfl rfl hl.1 rfl (lv_room (Nat.le_of_ble_eq_true rfl)) d_Reader_bracketRow_52 ⟨Nat.le_of_ble_eq_true rfl, Nat.le_of_ble_eq_true rfl⟩) hP hD hS hA rfl rfl (by decide) (by decide) (fun r u H locs hv hP hD hS => ?_)
  have hP : va_P (dC, dI) zCl [(h0, .inr (8, o_Reader I0 h1 a0_2 a0_3)), (h1, .inl (cA1, n1, .inl f1))] H := hP.sub [0, 1] rfl
  have hD : va_D A [(h0, .inr (8, o_Reader I0 h1 a0_2 a0_3)), (h1, .inl (cA1, n1, .inl f1))] := hD.sub [0, 1] (by decide) rfl
  exact b_Reader_bracketRow_55 hc hA hE  (lv_sub hl [0] rfl) hK hP hD hS hv
set_option maxHeartbeats 4000000 in
set_option maxRecDepth 100000 in
theorem b_Reader_bracketRow_38 {h0 : Nat} {a0_2 : Nat} {a0_3 : Nat} {h1 : Nat} {cA1 : ClassId} {I0 : Nat → Int32} {n1 : Nat} {f1 : Nat → Int32} {x1 : Int32}  {Z : Int32 → Unit → Prop} {H : Heap} {locs : List Loc} {ls : Array Slot} (hc : zC p s m args meth c prog_9_method_38_code (some .int) 4 "NumberDress$Reader") (hA : ∀ q : Nat, s.heap.size ≤ q → A q) (hE : zE gE A s) (hl : lv_has ls 4 [(0, .ref h0), (1, .int x1)]) (hK : va_K (dC, dI) zCl [(cA1, .char)] s) (hP : va_P (dC, dI) zCl [(h0, .inr (8, o_Reader I0 h1 a0_2 a0_3)), (h1, .inl (cA1, n1, .inl f1))] H) (hD : va_D A [(h0, .inr (8, o_Reader I0 h1 a0_2 a0_3)), (h1, .inl (cA1, n1, .inl f1))]) (hS : va_S A s.heap H locs) (hv : v_Reader_bracketRow_38 I0 n1 f1 x1  Z) : W p l e (headSpec (Cond.code (⟨"NumberDress$Reader", "bracketRow", "(I)I"⟩ : MethodName) prog_9_method_38_code 4 (some .int) :: zT) { frames := 2, cells := 0, slots := 0, locals := 44 }).room s m args below meth c H locs 0 0 (MQ below (va_Qi Z (zB (dC, dI) zCl [(cA1, .char)] A (fun u : Unit => [(h0, .inr (8, o_Reader I0 h1 a0_2 a0_3)), (h1, .inl (cA1, n1, .inl f1))])) A) args s 0 0 A) (F0 m 38 ls []) := by
  obtain ⟨hx, hb, hr, hml, hown, ht, hlocks⟩ := id hc
  unfold v_Reader_bracketRow_38 at hv
  refine lv_aload_n hx hb d_Reader_bracketRow_38 rfl (lv_at hl 0 rfl) ?_
  refine lv_iload_n hx hb d_Reader_bracketRow_39 rfl (lv_at hl 1 rfl) ?_
  refine lv_iconst (v := (1 : Int32)) hx hb d_Reader_bracketRow_40 (by decide) ?_
  refine lv_iadd hx hb d_Reader_bracketRow_41 ?_
  refine z_calli (wc := [(h0, .inr (8, o_Reader I0 h1 a0_2 a0_3)), (h1, .inl (cA1, n1, .inl f1))]) (wr := []) [0, 1] [] (va_runV (As := [.int (x1 + (1 : Int32))]) (rest := []) ⟨hx, hb, hml, hown, ht⟩ (m_Reader_rowLength l dC dI hv) ⟨(callB_of 1 ht (zG_in zi_Reader_rowLength) rfl rfl rfl (ht _ zw_113) (ht _ zw_688) zh_Reader_rowLength ⟨Nat.le_of_ble_eq_true rfl, Nat.le_of_ble_eq_true rfl⟩), (ht _ zw_690), (ht _ zw_11)⟩ ⟨zPc_blind, va_recv hK hP (ci := 8) (q0 := 0) rfl rfl, zPc_pre hP hK hD hS hA hE [0, 1] [0] rfl rfl (by decide) rfl⟩ rfl rfl hl.1 rfl (lv_room (Nat.le_of_ble_eq_true rfl)) d_Reader_bracketRow_42 ⟨Nat.le_of_ble_eq_true rfl, Nat.le_of_ble_eq_true rfl⟩) hP hD hS hA rfl rfl (by decide) (by decide) (fun r u H locs hv hP hD hS => ?_)
  have hP : va_P (dC, dI) zCl [(h0, .inr (8, o_Reader I0 h1 a0_2 a0_3)), (h1, .inl (cA1, n1, .inl f1))] H := hP.sub [0, 1] rfl
  have hD : va_D A [(h0, .inr (8, o_Reader I0 h1 a0_2 a0_3)), (h1, .inl (cA1, n1, .inl f1))] := hD.sub [0, 1] (by decide) rfl
  exact b_Reader_bracketRow_45 hc hA hE  (lv_sub hl [0, 1] rfl) hK hP hD hS hv
set_option maxHeartbeats 4000000 in
set_option maxRecDepth 100000 in
theorem b_Reader_bracketRow_13 {h0 : Nat} {a0_2 : Nat} {a0_3 : Nat} {h1 : Nat} {cA1 : ClassId} {I0 : Nat → Int32} {n1 : Nat} {f1 : Nat → Int32} {x1 : Int32} {x2 : Int32} {s0 : Int32}  {Z : Int32 → Unit → Prop} {H : Heap} {locs : List Loc} {ls : Array Slot} (hc : zC p s m args meth c prog_9_method_38_code (some .int) 4 "NumberDress$Reader") (hA : ∀ q : Nat, s.heap.size ≤ q → A q) (hE : zE gE A s) (hl : lv_has ls 4 [(0, .ref h0), (1, .int x1), (2, .int x2)]) (hK : va_K (dC, dI) zCl [(cA1, .char)] s) (hP : va_P (dC, dI) zCl [(h0, .inr (8, o_Reader I0 h1 a0_2 a0_3)), (h1, .inl (cA1, n1, .inl f1))] H) (hD : va_D A [(h0, .inr (8, o_Reader I0 h1 a0_2 a0_3)), (h1, .inl (cA1, n1, .inl f1))]) (hS : va_S A s.heap H locs) (hv : v_Reader_bracketRow_13 I0 n1 f1 x1 x2 s0  Z) : W p l e (headSpec (Cond.code (⟨"NumberDress$Reader", "bracketRow", "(I)I"⟩ : MethodName) prog_9_method_38_code 4 (some .int) :: zT) { frames := 2, cells := 0, slots := 0, locals := 44 }).room s m args below meth c H locs 0 0 (MQ below (va_Qi Z (zB (dC, dI) zCl [(cA1, .char)] A (fun u : Unit => [(h0, .inr (8, o_Reader I0 h1 a0_2 a0_3)), (h1, .inl (cA1, n1, .inl f1))])) A) args s 0 0 A) (F0 m 13 ls [.int s0]) := by
  obtain ⟨hx, hb, hr, hml, hown, ht, hlocks⟩ := id hc
  unfold v_Reader_bracketRow_13 at hv
  refine lv_bipush (v := (91 : Int32)) hx hb d_Reader_bracketRow_13 (by decide) ?_
  refine lv_icmp_ne (tgt := 36) hx hb d_Reader_bracketRow_15 (by decide) (fun c_1 => ?_) (fun c_1 => ?_)
  · have hv := hv.1 c_1
    refine lv_iconst (v := (0 : Int32)) hx hb d_Reader_bracketRow_36 (by decide) ?_
    exact W.iret (v := (0 : Int32)) hx hb hr (fun t ht hW => ⟨⟨_, (), rfl, hv, ⟨by rw [ht]; exact hP, va_K.moved hW.alike hK, hD⟩⟩, hS.F ht⟩) hS.2.2 d_Reader_bracketRow_37
  · have hv := hv.2 c_1
    refine lv_iload_n hx hb d_Reader_bracketRow_18 rfl (lv_at hl 2 rfl) ?_
    refine lv_bipush (v := (104 : Int32)) hx hb d_Reader_bracketRow_19 (by decide) ?_
    refine lv_icmp_eq (tgt := 38) hx hb d_Reader_bracketRow_21 (by decide) (fun c_2 => ?_) (fun c_2 => ?_)
    · have hv := hv.1 c_2
      exact b_Reader_bracketRow_38 hc hA hE  (lv_sub hl [0, 1] rfl) hK hP hD hS hv
    · have hv := hv.2 c_2
      refine lv_iload_n hx hb d_Reader_bracketRow_24 rfl (lv_at hl 2 rfl) ?_
      refine lv_bipush (v := (109 : Int32)) hx hb d_Reader_bracketRow_25 (by decide) ?_
      refine lv_icmp_eq (tgt := 38) hx hb d_Reader_bracketRow_27 (by decide) (fun c_3 => ?_) (fun c_3 => ?_)
      · have hv := hv.1 c_3
        exact b_Reader_bracketRow_38 hc hA hE  (lv_sub hl [0, 1] rfl) hK hP hD hS hv
      · have hv := hv.2 c_3
        refine lv_iload_n hx hb d_Reader_bracketRow_30 rfl (lv_at hl 2 rfl) ?_
        refine lv_bipush (v := (115 : Int32)) hx hb d_Reader_bracketRow_31 (by decide) ?_
        refine lv_icmp_eq (tgt := 38) hx hb d_Reader_bracketRow_33 (by decide) (fun c_4 => ?_) (fun c_4 => ?_)
        · have hv := hv.1 c_4
          exact b_Reader_bracketRow_38 hc hA hE  (lv_sub hl [0, 1] rfl) hK hP hD hS hv
        · have hv := hv.2 c_4
          refine lv_iconst (v := (0 : Int32)) hx hb d_Reader_bracketRow_36 (by decide) ?_
          exact W.iret (v := (0 : Int32)) hx hb hr (fun t ht hW => ⟨⟨_, (), rfl, hv, ⟨by rw [ht]; exact hP, va_K.moved hW.alike hK, hD⟩⟩, hS.F ht⟩) hS.2.2 d_Reader_bracketRow_37
set_option maxHeartbeats 4000000 in
set_option maxRecDepth 100000 in
theorem b_Reader_bracketRow_7 {h0 : Nat} {a0_2 : Nat} {a0_3 : Nat} {h1 : Nat} {cA1 : ClassId} {I0 : Nat → Int32} {n1 : Nat} {f1 : Nat → Int32} {x1 : Int32} {s0 : Int32}  {Z : Int32 → Unit → Prop} {H : Heap} {locs : List Loc} {ls : Array Slot} (hc : zC p s m args meth c prog_9_method_38_code (some .int) 4 "NumberDress$Reader") (hA : ∀ q : Nat, s.heap.size ≤ q → A q) (hE : zE gE A s) (hl : lv_has ls 4 [(0, .ref h0), (1, .int x1)]) (hK : va_K (dC, dI) zCl [(cA1, .char)] s) (hP : va_P (dC, dI) zCl [(h0, .inr (8, o_Reader I0 h1 a0_2 a0_3)), (h1, .inl (cA1, n1, .inl f1))] H) (hD : va_D A [(h0, .inr (8, o_Reader I0 h1 a0_2 a0_3)), (h1, .inl (cA1, n1, .inl f1))]) (hS : va_S A s.heap H locs) (hv : v_Reader_bracketRow_7 I0 n1 f1 x1 s0  Z) : W p l e (headSpec (Cond.code (⟨"NumberDress$Reader", "bracketRow", "(I)I"⟩ : MethodName) prog_9_method_38_code 4 (some .int) :: zT) { frames := 2, cells := 0, slots := 0, locals := 44 }).room s m args below meth c H locs 0 0 (MQ below (va_Qi Z (zB (dC, dI) zCl [(cA1, .char)] A (fun u : Unit => [(h0, .inr (8, o_Reader I0 h1 a0_2 a0_3)), (h1, .inl (cA1, n1, .inl f1))])) A) args s 0 0 A) (F0 m 7 ls [.int s0]) := by
  obtain ⟨hx, hb, hr, hml, hown, ht, hlocks⟩ := id hc
  unfold v_Reader_bracketRow_7 at hv
  refine lv_istore_n (lv' := [(2, .int s0), (0, .ref h0), (1, .int x1)]) hx hb d_Reader_bracketRow_7 rfl hl (by decide) rfl (fun ls hl => ?_)
  refine lv_aload_n hx hb d_Reader_bracketRow_8 rfl (lv_at hl 1 rfl) ?_
  refine lv_iload_n hx hb d_Reader_bracketRow_9 rfl (lv_at hl 2 rfl) ?_
  refine z_calli (wc := [(h0, .inr (8, o_Reader I0 h1 a0_2 a0_3)), (h1, .inl (cA1, n1, .inl f1))]) (wr := []) [0, 1] [] (va_runV (As := [.int x1]) (rest := []) ⟨hx, hb, hml, hown, ht⟩ (m_Reader_sign l dC dI hv) ⟨(callB_of 1 ht (zG_in zi_Reader_sign) rfl rfl rfl (ht _ zw_113) (ht _ zw_512) zh_Reader_sign ⟨Nat.le_of_ble_eq_true rfl, Nat.le_of_ble_eq_true rfl⟩), (ht _ zw_514), (ht _ zw_1)⟩ ⟨zPc_blind, va_recv hK hP (ci := 8) (q0 := 0) rfl rfl, zPc_pre hP hK hD hS hA hE [0, 1] [0] rfl rfl (by decide) rfl⟩ rfl rfl hl.1 rfl (lv_room (Nat.le_of_ble_eq_true rfl)) d_Reader_bracketRow_10 ⟨Nat.le_of_ble_eq_true rfl, Nat.le_of_ble_eq_true rfl⟩) hP hD hS hA rfl rfl (by decide) (by decide) (fun r u H locs hv hP hD hS => ?_)
  have hP : va_P (dC, dI) zCl [(h0, .inr (8, o_Reader I0 h1 a0_2 a0_3)), (h1, .inl (cA1, n1, .inl f1))] H := hP.sub [0, 1] rfl
  have hD : va_D A [(h0, .inr (8, o_Reader I0 h1 a0_2 a0_3)), (h1, .inl (cA1, n1, .inl f1))] := hD.sub [0, 1] (by decide) rfl
  exact b_Reader_bracketRow_13 hc hA hE  (lv_sub hl [1, 2, 0] rfl) hK hP hD hS hv
set_option maxHeartbeats 4000000 in
set_option maxRecDepth 100000 in
theorem b_Reader_bracketRow_0 {h0 : Nat} {a0_2 : Nat} {a0_3 : Nat} {h1 : Nat} {cA1 : ClassId} {I0 : Nat → Int32} {n1 : Nat} {f1 : Nat → Int32} {x1 : Int32}  {Z : Int32 → Unit → Prop} {H : Heap} {locs : List Loc} {ls : Array Slot} (hc : zC p s m args meth c prog_9_method_38_code (some .int) 4 "NumberDress$Reader") (hA : ∀ q : Nat, s.heap.size ≤ q → A q) (hE : zE gE A s) (hl : lv_has ls 4 [(0, .ref h0), (1, .int x1)]) (hK : va_K (dC, dI) zCl [(cA1, .char)] s) (hP : va_P (dC, dI) zCl [(h0, .inr (8, o_Reader I0 h1 a0_2 a0_3)), (h1, .inl (cA1, n1, .inl f1))] H) (hD : va_D A [(h0, .inr (8, o_Reader I0 h1 a0_2 a0_3)), (h1, .inl (cA1, n1, .inl f1))]) (hS : va_S A s.heap H locs) (hv : v_Reader_bracketRow_0 I0 n1 f1 x1  Z) : W p l e (headSpec (Cond.code (⟨"NumberDress$Reader", "bracketRow", "(I)I"⟩ : MethodName) prog_9_method_38_code 4 (some .int) :: zT) { frames := 2, cells := 0, slots := 0, locals := 44 }).room s m args below meth c H locs 0 0 (MQ below (va_Qi Z (zB (dC, dI) zCl [(cA1, .char)] A (fun u : Unit => [(h0, .inr (8, o_Reader I0 h1 a0_2 a0_3)), (h1, .inl (cA1, n1, .inl f1))])) A) args s 0 0 A) (F0 m 0 ls []) := by
  obtain ⟨hx, hb, hr, hml, hown, ht, hlocks⟩ := id hc
  unfold v_Reader_bracketRow_0 at hv
  refine lv_aload_n hx hb d_Reader_bracketRow_0 rfl (lv_at hl 0 rfl) ?_
  refine lv_iload_n hx hb d_Reader_bracketRow_1 rfl (lv_at hl 1 rfl) ?_
  refine lv_iconst (v := (1 : Int32)) hx hb d_Reader_bracketRow_2 (by decide) ?_
  refine lv_iadd hx hb d_Reader_bracketRow_3 ?_
  refine z_calli (wc := [(h0, .inr (8, o_Reader I0 h1 a0_2 a0_3)), (h1, .inl (cA1, n1, .inl f1))]) (wr := []) [0, 1] [] (va_runV (As := [.int (x1 + (1 : Int32))]) (rest := []) ⟨hx, hb, hml, hown, ht⟩ (m_Reader_small l dC dI hv) ⟨(callB_of 1 ht (zG_in zi_Reader_small) rfl rfl rfl (ht _ zw_113) (ht _ zw_553) zh_Reader_small ⟨Nat.le_of_ble_eq_true rfl, Nat.le_of_ble_eq_true rfl⟩), (ht _ zw_555), (ht _ zw_6)⟩ ⟨zPc_blind, va_recv hK hP (ci := 8) (q0 := 0) rfl rfl, zPc_pre hP hK hD hS hA hE [0, 1] [0] rfl rfl (by decide) rfl⟩ rfl rfl hl.1 rfl (lv_room (Nat.le_of_ble_eq_true rfl)) d_Reader_bracketRow_4 ⟨Nat.le_of_ble_eq_true rfl, Nat.le_of_ble_eq_true rfl⟩) hP hD hS hA rfl rfl (by decide) (by decide) (fun r u H locs hv hP hD hS => ?_)
  have hP : va_P (dC, dI) zCl [(h0, .inr (8, o_Reader I0 h1 a0_2 a0_3)), (h1, .inl (cA1, n1, .inl f1))] H := hP.sub [0, 1] rfl
  have hD : va_D A [(h0, .inr (8, o_Reader I0 h1 a0_2 a0_3)), (h1, .inl (cA1, n1, .inl f1))] := hD.sub [0, 1] (by decide) rfl
  exact b_Reader_bracketRow_7 hc hA hE  (lv_sub hl [0, 1] rfl) hK hP hD hS hv
theorem zi_Reader_bracketRow : Cond.code (⟨"NumberDress$Reader", "bracketRow", "(I)I"⟩ : MethodName) prog_9_method_38_code 4 (some .int) ∈ zT := zw_687
theorem zh_Reader_bracketRow : (((⟨"NumberDress$Reader", "bracketRow", "(I)I"⟩ : MethodName)).cls ≠ "java/lang/invoke/MethodHandle" ∧ ((⟨"NumberDress$Reader", "bracketRow", "(I)I"⟩ : MethodName)).cls ≠ "java/lang/invoke/VarHandle" ∧ (parseMethodDescriptor ((⟨"NumberDress$Reader", "bracketRow", "(I)I"⟩ : MethodName)).desc).map (fun d => d.parameters.length) = some 1) := by decide +kernel
set_option maxHeartbeats 4000000 in
set_option maxRecDepth 100000 in
theorem m_Reader_bracketRow (l : Launch) (dC : Nat → ClassId) (dI : Nat → Nat → Nat) {gE : zG} {h0 : Nat} {a0_2 : Nat} {a0_3 : Nat} {h1 : Nat} {cA1 : ClassId} {I0 : Nat → Int32} {n1 : Nat} {f1 : Nat → Int32} {x1 : Int32} {sz : Nat} {Z : Int32 → Unit → Prop} (hv : v_Reader_bracketRow_0 I0 n1 f1 x1 Z) : Met l (⟨"NumberDress$Reader", "bracketRow", "(I)I"⟩ : MethodName) (Cond.code (⟨"NumberDress$Reader", "bracketRow", "(I)I"⟩ : MethodName) prog_9_method_38_code 4 (some .int) :: zT) { frames := 2, cells := 0, slots := 0, locals := 44 } (zPc gE (dC, dI) zCl [(cA1, .char)] [.ref h0, .int x1] sz [(h0, .inr (8, o_Reader I0 h1 a0_2 a0_3)), (h1, .inl (cA1, n1, .inl f1))]) (va_Qi Z (zB (dC, dI) zCl [(cA1, .char)] (va_A [(h0, .inr (8, o_Reader I0 h1 a0_2 a0_3)), (h1, .inl (cA1, n1, .inl f1))] sz) (fun u : Unit => [(h0, .inr (8, o_Reader I0 h1 a0_2 a0_3)), (h1, .inl (cA1, n1, .inl f1))])) (va_A [(h0, .inr (8, o_Reader I0 h1 a0_2 a0_3)), (h1, .inl (cA1, n1, .inl f1))] sz)) 0 0 (va_A [(h0, .inr (8, o_Reader I0 h1 a0_2 a0_3)), (h1, .inl (cA1, n1, .inl f1))] sz) := by
  refine Met.ofW (cc := prog_9_method_38_code) (maxL := 4) (ret := (some .int)) (by decide +kernel) rfl ?_
  intro p e s m args below meth c s₁ B hml hp
  obtain ⟨rfl, hsz, hP, hK, hD0, hE⟩ := hp
  have hts := atoms_spec (ws := (Cond.code (⟨"NumberDress$Reader", "bracketRow", "(I)I"⟩ : MethodName) prog_9_method_38_code 4 (some .int) :: zT)) B.pre
  have hown : s.vm.findClass "NumberDress$Reader" = some m.cls := findClass_of_methodNamed B.named
  have hc : zC p s m _ meth c prog_9_method_38_code (some .int) 4 "NumberDress$Reader" := ⟨B.exec, B.bytes, B.returns, hml, hown, fun w h => hts w (List.mem_cons_of_mem _ h), B.notSynchronized⟩
  subst hsz
  have hD := hD0.self (sz := s.heap.size)
  generalize hAe : va_A [(h0, .inr (8, o_Reader I0 h1 a0_2 a0_3)), (h1, .inl (cA1, n1, .inl f1))] s.heap.size = A at hD hE ⊢
  have hA : ∀ q : Nat, s.heap.size ≤ q → A q := fun q h => by rw [← hAe]; exact Or.inr h
  have hl := lv_entry ([.ref h0, .int x1]) (n := 4) (Nat.le_of_ble_eq_true rfl)
  rw [lg_entry_eq]
  exact b_Reader_bracketRow_0 hc hA hE hl hK hP hD va_S.rf hv
theorem d_Reader_halfDayLength_0 : decode prog_9_method_39_code 0 = .ok (.aload_n 0, 1) := by decide +kernel
theorem d_Reader_halfDayLength_1 : decode prog_9_method_39_code 1 = .ok (.iload_n 1, 1) := by decide +kernel
theorem d_Reader_halfDayLength_2 : decode prog_9_method_39_code 2 = .ok (.ldc_w 262, 3) := by decide +kernel
theorem d_Reader_halfDayLength_5 : decode prog_9_method_39_code 5 = .ok (.invokevirtual 59, 3) := by decide +kernel
theorem d_Reader_halfDayLength_8 : decode prog_9_method_39_code 8 = .ok (.ifCond .eq 5, 3) := by decide +kernel
theorem d_Reader_halfDayLength_11 : decode prog_9_method_39_code 11 = .ok (.iconst 5, 1) := by decide +kernel
theorem d_Reader_halfDayLength_12 : decode prog_9_method_39_code 12 = .ok (.ireturn, 1) := by decide +kernel
theorem d_Reader_halfDayLength_13 : decode prog_9_method_39_code 13 = .ok (.aload_n 0, 1) := by decide +kernel
theorem d_Reader_halfDayLength_14 : decode prog_9_method_39_code 14 = .ok (.iload_n 1, 1) := by decide +kernel
theorem d_Reader_halfDayLength_15 : decode prog_9_method_39_code 15 = .ok (.ldc_w 264, 3) := by decide +kernel
theorem d_Reader_halfDayLength_18 : decode prog_9_method_39_code 18 = .ok (.invokevirtual 59, 3) := by decide +kernel
theorem d_Reader_halfDayLength_21 : decode prog_9_method_39_code 21 = .ok (.ifCond .eq 7, 3) := by decide +kernel
theorem d_Reader_halfDayLength_24 : decode prog_9_method_39_code 24 = .ok (.iconst 3, 1) := by decide +kernel
theorem d_Reader_halfDayLength_25 : decode prog_9_method_39_code 25 = .ok (.goto 4, 3) := by decide +kernel
theorem d_Reader_halfDayLength_28 : decode prog_9_method_39_code 28 = .ok (.iconst 0, 1) := by decide +kernel
theorem d_Reader_halfDayLength_29 : decode prog_9_method_39_code 29 = .ok (.ireturn, 1) := by decide +kernel
set_option maxHeartbeats 4000000 in
set_option maxRecDepth 100000 in
theorem b_Reader_halfDayLength_21 {h0 : Nat} {a0_2 : Nat} {a0_3 : Nat} {h1 : Nat} {cA1 : ClassId} {I0 : Nat → Int32} {n1 : Nat} {f1 : Nat → Int32} {s0 : Int32}  {Z : Int32 → Unit → Prop} {H : Heap} {locs : List Loc} {ls : Array Slot} (hc : zC p s m args meth c prog_9_method_39_code (some .int) 2 "NumberDress$Reader") (hA : ∀ q : Nat, s.heap.size ≤ q → A q) (hE : zE gE A s) (hl : lv_has ls 2 []) (hK : va_K (dC, dI) zCl [(cA1, .char)] s) (hP : va_P (dC, dI) zCl [(h0, .inr (8, o_Reader I0 h1 a0_2 a0_3)), (h1, .inl (cA1, n1, .inl f1))] H) (hD : va_D A [(h0, .inr (8, o_Reader I0 h1 a0_2 a0_3)), (h1, .inl (cA1, n1, .inl f1))]) (hS : va_S A s.heap H locs) (hv : v_Reader_halfDayLength_21 I0 n1 f1 s0  Z) : W p l e (headSpec (Cond.code (⟨"NumberDress$Reader", "halfDayLength", "(I)I"⟩ : MethodName) prog_9_method_39_code 2 (some .int) :: zT) { frames := 5, cells := 0, slots := 0, locals := 108 }).room s m args below meth c H locs 0 0 (MQ below (va_Qi Z (zB (dC, dI) zCl [(cA1, .char)] A (fun u : Unit => [(h0, .inr (8, o_Reader I0 h1 a0_2 a0_3)), (h1, .inl (cA1, n1, .inl f1))])) A) args s 0 0 A) (F0 m 21 ls [.int s0]) := by
  obtain ⟨hx, hb, hr, hml, hown, ht, hlocks⟩ := id hc
  unfold v_Reader_halfDayLength_21 at hv
  refine lv_if_eq (tgt := 28) hx hb d_Reader_halfDayLength_21 (by decide) (fun c_1 => ?_) (fun c_1 => ?_)
  · have hv := hv.1 c_1
    refine lv_iconst (v := (0 : Int32)) hx hb d_Reader_halfDayLength_28 (by decide) ?_
    exact W.iret (v := (0 : Int32)) hx hb hr (fun t ht hW => ⟨⟨_, (), rfl, hv, ⟨by rw [ht]; exact hP, va_K.moved hW.alike hK, hD⟩⟩, hS.F ht⟩) hS.2.2 d_Reader_halfDayLength_29
  · have hv := hv.2 c_1
    refine lv_iconst (v := (3 : Int32)) hx hb d_Reader_halfDayLength_24 (by decide) ?_
    refine lv_goto (tgt := 29) hx hb d_Reader_halfDayLength_25 (by decide) ?_
    exact W.iret (v := (3 : Int32)) hx hb hr (fun t ht hW => ⟨⟨_, (), rfl, hv, ⟨by rw [ht]; exact hP, va_K.moved hW.alike hK, hD⟩⟩, hS.F ht⟩) hS.2.2 d_Reader_halfDayLength_29
set_option maxHeartbeats 4000000 in
set_option maxRecDepth 100000 in
theorem b_Reader_halfDayLength_8 {h0 : Nat} {a0_2 : Nat} {a0_3 : Nat} {h1 : Nat} {cA1 : ClassId} {I0 : Nat → Int32} {n1 : Nat} {f1 : Nat → Int32} {x1 : Int32} {s0 : Int32}  {Z : Int32 → Unit → Prop} {H : Heap} {locs : List Loc} {ls : Array Slot} (hc : zC p s m args meth c prog_9_method_39_code (some .int) 2 "NumberDress$Reader") (hA : ∀ q : Nat, s.heap.size ≤ q → A q) (hE : zE gE A s) (hl : lv_has ls 2 [(0, .ref h0), (1, .int x1)]) (hK : va_K (dC, dI) zCl [(cA1, .char)] s) (hP : va_P (dC, dI) zCl [(h0, .inr (8, o_Reader I0 h1 a0_2 a0_3)), (h1, .inl (cA1, n1, .inl f1))] H) (hD : va_D A [(h0, .inr (8, o_Reader I0 h1 a0_2 a0_3)), (h1, .inl (cA1, n1, .inl f1))]) (hS : va_S A s.heap H locs) (hv : v_Reader_halfDayLength_8 I0 n1 f1 x1 s0  Z) : W p l e (headSpec (Cond.code (⟨"NumberDress$Reader", "halfDayLength", "(I)I"⟩ : MethodName) prog_9_method_39_code 2 (some .int) :: zT) { frames := 5, cells := 0, slots := 0, locals := 108 }).room s m args below meth c H locs 0 0 (MQ below (va_Qi Z (zB (dC, dI) zCl [(cA1, .char)] A (fun u : Unit => [(h0, .inr (8, o_Reader I0 h1 a0_2 a0_3)), (h1, .inl (cA1, n1, .inl f1))])) A) args s 0 0 A) (F0 m 8 ls [.int s0]) := by
  obtain ⟨hx, hb, hr, hml, hown, ht, hlocks⟩ := id hc
  unfold v_Reader_halfDayLength_8 at hv
  refine lv_if_eq (tgt := 13) hx hb d_Reader_halfDayLength_8 (by decide) (fun c_1 => ?_) (fun c_1 => ?_)
  · have hv := hv.1 c_1
    refine lv_aload_n hx hb d_Reader_halfDayLength_13 rfl (lv_at hl 0 rfl) ?_
    refine lv_iload_n hx hb d_Reader_halfDayLength_14 rfl (lv_at hl 1 rfl) ?_
    refine z_ldcwS hx hb hown (hE.str (i := 11) (by decide)) d_Reader_halfDayLength_15 ?_
    refine z_calli (wc := [(h0, .inr (8, o_Reader I0 h1 a0_2 a0_3)), (h1, .inl (cA1, n1, .inl f1))]) (wr := []) [0, 1] [] (va_runV (As := [.int x1, .ref (gE.2.1 11)]) (rest := []) ⟨hx, hb, hml, hown, ht⟩ (m_Reader_goesOn l dC dI hv) ⟨(callB_of 2 ht (zG_in zi_Reader_goesOn) rfl rfl rfl (ht _ zw_113) (ht _ zw_539) zh_Reader_goesOn ⟨Nat.le_of_ble_eq_true rfl, Nat.le_of_ble_eq_true rfl⟩), (ht _ zw_541), (ht _ zw_5)⟩ ⟨zPc_blind, va_recv hK hP (ci := 8) (q0 := 0) rfl rfl, zPc_pre hP hK hD hS hA hE [0, 1] [0] rfl rfl (by decide) rfl⟩ rfl rfl hl.1 rfl (lv_room (Nat.le_of_ble_eq_true rfl)) d_Reader_halfDayLength_18 ⟨Nat.le_of_ble_eq_true rfl, Nat.le_of_ble_eq_true rfl⟩) hP hD hS hA rfl rfl (by decide) (by decide) (fun r u H locs hv hP hD hS => ?_)
    have hP : va_P (dC, dI) zCl [(h0, .inr (8, o_Reader I0 h1 a0_2 a0_3)), (h1, .inl (cA1, n1, .inl f1))] H := hP.sub [0, 1] rfl
    have hD : va_D A [(h0, .inr (8, o_Reader I0 h1 a0_2 a0_3)), (h1, .inl (cA1, n1, .inl f1))] := hD.sub [0, 1] (by decide) rfl
    exact b_Reader_halfDayLength_21 hc hA hE  (lv_sub hl [] rfl) hK hP hD hS hv
  · have hv := hv.2 c_1
    refine lv_iconst (v := (5 : Int32)) hx hb d_Reader_halfDayLength_11 (by decide) ?_
    exact W.iret (v := (5 : Int32)) hx hb hr (fun t ht hW => ⟨⟨_, (), rfl, hv, ⟨by rw [ht]; exact hP, va_K.moved hW.alike hK, hD⟩⟩, hS.F ht⟩) hS.2.2 d_Reader_halfDayLength_12
set_option maxHeartbeats 4000000 in
set_option maxRecDepth 100000 in
theorem b_Reader_halfDayLength_0 {h0 : Nat} {a0_2 : Nat} {a0_3 : Nat} {h1 : Nat} {cA1 : ClassId} {I0 : Nat → Int32} {n1 : Nat} {f1 : Nat → Int32} {x1 : Int32}  {Z : Int32 → Unit → Prop} {H : Heap} {locs : List Loc} {ls : Array Slot} (hc : zC p s m args meth c prog_9_method_39_code (some .int) 2 "NumberDress$Reader") (hA : ∀ q : Nat, s.heap.size ≤ q → A q) (hE : zE gE A s) (hl : lv_has ls 2 [(0, .ref h0), (1, .int x1)]) (hK : va_K (dC, dI) zCl [(cA1, .char)] s) (hP : va_P (dC, dI) zCl [(h0, .inr (8, o_Reader I0 h1 a0_2 a0_3)), (h1, .inl (cA1, n1, .inl f1))] H) (hD : va_D A [(h0, .inr (8, o_Reader I0 h1 a0_2 a0_3)), (h1, .inl (cA1, n1, .inl f1))]) (hS : va_S A s.heap H locs) (hv : v_Reader_halfDayLength_0 I0 n1 f1 x1  Z) : W p l e (headSpec (Cond.code (⟨"NumberDress$Reader", "halfDayLength", "(I)I"⟩ : MethodName) prog_9_method_39_code 2 (some .int) :: zT) { frames := 5, cells := 0, slots := 0, locals := 108 }).room s m args below meth c H locs 0 0 (MQ below (va_Qi Z (zB (dC, dI) zCl [(cA1, .char)] A (fun u : Unit => [(h0, .inr (8, o_Reader I0 h1 a0_2 a0_3)), (h1, .inl (cA1, n1, .inl f1))])) A) args s 0 0 A) (F0 m 0 ls []) := by
  obtain ⟨hx, hb, hr, hml, hown, ht, hlocks⟩ := id hc
  unfold v_Reader_halfDayLength_0 at hv
  refine lv_aload_n hx hb d_Reader_halfDayLength_0 rfl (lv_at hl 0 rfl) ?_
  refine lv_iload_n hx hb d_Reader_halfDayLength_1 rfl (lv_at hl 1 rfl) ?_
  refine z_ldcwS hx hb hown (hE.str (i := 10) (by decide)) d_Reader_halfDayLength_2 ?_
  refine z_calli (wc := [(h0, .inr (8, o_Reader I0 h1 a0_2 a0_3)), (h1, .inl (cA1, n1, .inl f1))]) (wr := []) [0, 1] [] (va_runV (As := [.int x1, .ref (gE.2.1 10)]) (rest := []) ⟨hx, hb, hml, hown, ht⟩ (m_Reader_goesOn l dC dI hv) ⟨(callB_of 2 ht (zG_in zi_Reader_goesOn) rfl rfl rfl (ht _ zw_113) (ht _ zw_539) zh_Reader_goesOn ⟨Nat.le_of_ble_eq_true rfl, Nat.le_of_ble_eq_true rfl⟩), (ht _ zw_541), (ht _ zw_5)⟩ ⟨zPc_blind, va_recv hK hP (ci := 8) (q0 := 0) rfl rfl, zPc_pre hP hK hD hS hA hE [0, 1] [0] rfl rfl (by decide) rfl⟩ rfl rfl hl.1 rfl (lv_room (Nat.le_of_ble_eq_true rfl)) d_Reader_halfDayLength_5 ⟨Nat.le_of_ble_eq_true rfl, Nat.le_of_ble_eq_true rfl⟩) hP hD hS hA rfl rfl (by decide) (by decide) (fun r u H locs hv hP hD hS => ?_)
  have hP : va_P (dC, dI) zCl [(h0, .inr (8, o_Reader I0 h1 a0_2 a0_3)), (h1, .inl (cA1, n1, .inl f1))] H := hP.sub [0, 1] rfl
  have hD : va_D A [(h0, .inr (8, o_Reader I0 h1 a0_2 a0_3)), (h1, .inl (cA1, n1, .inl f1))] := hD.sub [0, 1] (by decide) rfl
  exact b_Reader_halfDayLength_8 hc hA hE  (lv_sub hl [0, 1] rfl) hK hP hD hS hv
theorem zi_Reader_halfDayLength : Cond.code (⟨"NumberDress$Reader", "halfDayLength", "(I)I"⟩ : MethodName) prog_9_method_39_code 2 (some .int) ∈ zT := zw_695
theorem zh_Reader_halfDayLength : (((⟨"NumberDress$Reader", "halfDayLength", "(I)I"⟩ : MethodName)).cls ≠ "java/lang/invoke/MethodHandle" ∧ ((⟨"NumberDress$Reader", "halfDayLength", "(I)I"⟩ : MethodName)).cls ≠ "java/lang/invoke/VarHandle" ∧ (parseMethodDescriptor ((⟨"NumberDress$Reader", "halfDayLength", "(I)I"⟩ : MethodName)).desc).map (fun d => d.parameters.length) = some 1) := by decide +kernel
set_option maxHeartbeats 4000000 in
set_option maxRecDepth 100000 in
theorem m_Reader_halfDayLength (l : Launch) (dC : Nat → ClassId) (dI : Nat → Nat → Nat) {gE : zG} {h0 : Nat} {a0_2 : Nat} {a0_3 : Nat} {h1 : Nat} {cA1 : ClassId} {I0 : Nat → Int32} {n1 : Nat} {f1 : Nat → Int32} {x1 : Int32} {sz : Nat} {Z : Int32 → Unit → Prop} (hv : v_Reader_halfDayLength_0 I0 n1 f1 x1 Z) : Met l (⟨"NumberDress$Reader", "halfDayLength", "(I)I"⟩ : MethodName) (Cond.code (⟨"NumberDress$Reader", "halfDayLength", "(I)I"⟩ : MethodName) prog_9_method_39_code 2 (some .int) :: zT) { frames := 5, cells := 0, slots := 0, locals := 108 } (zPc gE (dC, dI) zCl [(cA1, .char)] [.ref h0, .int x1] sz [(h0, .inr (8, o_Reader I0 h1 a0_2 a0_3)), (h1, .inl (cA1, n1, .inl f1))]) (va_Qi Z (zB (dC, dI) zCl [(cA1, .char)] (va_A [(h0, .inr (8, o_Reader I0 h1 a0_2 a0_3)), (h1, .inl (cA1, n1, .inl f1))] sz) (fun u : Unit => [(h0, .inr (8, o_Reader I0 h1 a0_2 a0_3)), (h1, .inl (cA1, n1, .inl f1))])) (va_A [(h0, .inr (8, o_Reader I0 h1 a0_2 a0_3)), (h1, .inl (cA1, n1, .inl f1))] sz)) 0 0 (va_A [(h0, .inr (8, o_Reader I0 h1 a0_2 a0_3)), (h1, .inl (cA1, n1, .inl f1))] sz) := by
  refine Met.ofW (cc := prog_9_method_39_code) (maxL := 2) (ret := (some .int)) (by decide +kernel) rfl ?_
  intro p e s m args below meth c s₁ B hml hp
  obtain ⟨rfl, hsz, hP, hK, hD0, hE⟩ := hp
  have hts := atoms_spec (ws := (Cond.code (⟨"NumberDress$Reader", "halfDayLength", "(I)I"⟩ : MethodName) prog_9_method_39_code 2 (some .int) :: zT)) B.pre
  have hown : s.vm.findClass "NumberDress$Reader" = some m.cls := findClass_of_methodNamed B.named
  have hc : zC p s m _ meth c prog_9_method_39_code (some .int) 2 "NumberDress$Reader" := ⟨B.exec, B.bytes, B.returns, hml, hown, fun w h => hts w (List.mem_cons_of_mem _ h), B.notSynchronized⟩
  subst hsz
  have hD := hD0.self (sz := s.heap.size)
  generalize hAe : va_A [(h0, .inr (8, o_Reader I0 h1 a0_2 a0_3)), (h1, .inl (cA1, n1, .inl f1))] s.heap.size = A at hD hE ⊢
  have hA : ∀ q : Nat, s.heap.size ≤ q → A q := fun q h => by rw [← hAe]; exact Or.inr h
  have hl := lv_entry ([.ref h0, .int x1]) (n := 2) (Nat.le_of_ble_eq_true rfl)
  rw [lg_entry_eq]
  exact b_Reader_halfDayLength_0 hc hA hE hl hK hP hD va_S.rf hv
theorem d_Reader_isDateLetter_0 : decode prog_9_method_42_code 0 = .ok (.iload_n 0, 1) := by decide +kernel
theorem d_Reader_isDateLetter_1 : decode prog_9_method_42_code 1 = .ok (.bipush 121, 2) := by decide +kernel
theorem d_Reader_isDateLetter_3 : decode prog_9_method_42_code 3 = .ok (.if_icmp .eq 27, 3) := by decide +kernel
theorem d_Reader_isDateLetter_6 : decode prog_9_method_42_code 6 = .ok (.iload_n 0, 1) := by decide +kernel
theorem d_Reader_isDateLetter_7 : decode prog_9_method_42_code 7 = .ok (.bipush 109, 2) := by decide +kernel
theorem d_Reader_isDateLetter_9 : decode prog_9_method_42_code 9 = .ok (.if_icmp .eq 21, 3) := by decide +kernel
theorem d_Reader_isDateLetter_12 : decode prog_9_method_42_code 12 = .ok (.iload_n 0, 1) := by decide +kernel
theorem d_Reader_isDateLetter_13 : decode prog_9_method_42_code 13 = .ok (.bipush 100, 2) := by decide +kernel
theorem d_Reader_isDateLetter_15 : decode prog_9_method_42_code 15 = .ok (.if_icmp .eq 15, 3) := by decide +kernel
theorem d_Reader_isDateLetter_18 : decode prog_9_method_42_code 18 = .ok (.iload_n 0, 1) := by decide +kernel
theorem d_Reader_isDateLetter_19 : decode prog_9_method_42_code 19 = .ok (.bipush 104, 2) := by decide +kernel
theorem d_Reader_isDateLetter_21 : decode prog_9_method_42_code 21 = .ok (.if_icmp .eq 9, 3) := by decide +kernel
theorem d_Reader_isDateLetter_24 : decode prog_9_method_42_code 24 = .ok (.iload_n 0, 1) := by decide +kernel
theorem d_Reader_isDateLetter_25 : decode prog_9_method_42_code 25 = .ok (.bipush 115, 2) := by decide +kernel
theorem d_Reader_isDateLetter_27 : decode prog_9_method_42_code 27 = .ok (.if_icmp .ne 7, 3) := by decide +kernel
theorem d_Reader_isDateLetter_30 : decode prog_9_method_42_code 30 = .ok (.iconst 1, 1) := by decide +kernel
theorem d_Reader_isDateLetter_31 : decode prog_9_method_42_code 31 = .ok (.goto 4, 3) := by decide +kernel
theorem d_Reader_isDateLetter_34 : decode prog_9_method_42_code 34 = .ok (.iconst 0, 1) := by decide +kernel
theorem d_Reader_isDateLetter_35 : decode prog_9_method_42_code 35 = .ok (.ireturn, 1) := by decide +kernel
set_option maxHeartbeats 4000000 in
set_option maxRecDepth 100000 in
theorem b_Reader_isDateLetter_0  {x0 : Int32}  {Z : Int32 → Unit → Prop} {H : Heap} {locs : List Loc} {ls : Array Slot} (hc : zC p s m args meth c prog_9_method_42_code (some .boolean) 1 "NumberDress$Reader") (hA : ∀ q : Nat, s.heap.size ≤ q → A q) (hE : zE gE A s) (hl : lv_has ls 1 [(0, .int x0)]) (hK : va_K (dC, dI) zCl [] s) (hP : va_P (dC, dI) zCl [] H) (hD : va_D A []) (hS : va_S A s.heap H locs) (hv : v_Reader_isDateLetter_0 x0  Z) : W p l e (headSpec (Cond.code (⟨"NumberDress$Reader", "isDateLetter", "(C)Z"⟩ : MethodName) prog_9_method_42_code 1 (some .boolean) :: zT) { frames := 0, cells := 0, slots := 0, locals := 0 }).room s m args below meth c H locs 0 0 (MQ below (va_Qi Z (zB (dC, dI) zCl [] A (fun u : Unit => [])) A) args s 0 0 A) (F0 m 0 ls []) := by
  obtain ⟨hx, hb, hr, hml, hown, ht, hlocks⟩ := id hc
  unfold v_Reader_isDateLetter_0 at hv
  refine lv_iload_n hx hb d_Reader_isDateLetter_0 rfl (lv_at hl 0 rfl) ?_
  refine lv_bipush (v := (121 : Int32)) hx hb d_Reader_isDateLetter_1 (by decide) ?_
  refine lv_icmp_eq (tgt := 30) hx hb d_Reader_isDateLetter_3 (by decide) (fun c_1 => ?_) (fun c_1 => ?_)
  · have hv := hv.1 c_1
    refine lv_iconst (v := (1 : Int32)) hx hb d_Reader_isDateLetter_30 (by decide) ?_
    refine lv_goto (tgt := 35) hx hb d_Reader_isDateLetter_31 (by decide) ?_
    exact W.zret (v := (1 : Int32)) hx hb hr (by decide) (fun t ht hW => ⟨⟨_, (), rfl, hv, ⟨by rw [ht]; exact hP, va_K.moved hW.alike hK, hD⟩⟩, hS.F ht⟩) hS.2.2 d_Reader_isDateLetter_35
  · have hv := hv.2 c_1
    refine lv_iload_n hx hb d_Reader_isDateLetter_6 rfl (lv_at hl 0 rfl) ?_
    refine lv_bipush (v := (109 : Int32)) hx hb d_Reader_isDateLetter_7 (by decide) ?_
    refine lv_icmp_eq (tgt := 30) hx hb d_Reader_isDateLetter_9 (by decide) (fun c_2 => ?_) (fun c_2 => ?_)
    · have hv := hv.1 c_2
      refine lv_iconst (v := (1 : Int32)) hx hb d_Reader_isDateLetter_30 (by decide) ?_
      refine lv_goto (tgt := 35) hx hb d_Reader_isDateLetter_31 (by decide) ?_
      exact W.zret (v := (1 : Int32)) hx hb hr (by decide) (fun t ht hW => ⟨⟨_, (), rfl, hv, ⟨by rw [ht]; exact hP, va_K.moved hW.alike hK, hD⟩⟩, hS.F ht⟩) hS.2.2 d_Reader_isDateLetter_35
    · have hv := hv.2 c_2
      refine lv_iload_n hx hb d_Reader_isDateLetter_12 rfl (lv_at hl 0 rfl) ?_
      refine lv_bipush (v := (100 : Int32)) hx hb d_Reader_isDateLetter_13 (by decide) ?_
      refine lv_icmp_eq (tgt := 30) hx hb d_Reader_isDateLetter_15 (by decide) (fun c_3 => ?_) (fun c_3 => ?_)
      · have hv := hv.1 c_3
        refine lv_iconst (v := (1 : Int32)) hx hb d_Reader_isDateLetter_30 (by decide) ?_
        refine lv_goto (tgt := 35) hx hb d_Reader_isDateLetter_31 (by decide) ?_
        exact W.zret (v := (1 : Int32)) hx hb hr (by decide) (fun t ht hW => ⟨⟨_, (), rfl, hv, ⟨by rw [ht]; exact hP, va_K.moved hW.alike hK, hD⟩⟩, hS.F ht⟩) hS.2.2 d_Reader_isDateLetter_35
      · have hv := hv.2 c_3
        refine lv_iload_n hx hb d_Reader_isDateLetter_18 rfl (lv_at hl 0 rfl) ?_
        refine lv_bipush (v := (104 : Int32)) hx hb d_Reader_isDateLetter_19 (by decide) ?_
        refine lv_icmp_eq (tgt := 30) hx hb d_Reader_isDateLetter_21 (by decide) (fun c_4 => ?_) (fun c_4 => ?_)
        · have hv := hv.1 c_4
          refine lv_iconst (v := (1 : Int32)) hx hb d_Reader_isDateLetter_30 (by decide) ?_
          refine lv_goto (tgt := 35) hx hb d_Reader_isDateLetter_31 (by decide) ?_
          exact W.zret (v := (1 : Int32)) hx hb hr (by decide) (fun t ht hW => ⟨⟨_, (), rfl, hv, ⟨by rw [ht]; exact hP, va_K.moved hW.alike hK, hD⟩⟩, hS.F ht⟩) hS.2.2 d_Reader_isDateLetter_35
        · have hv := hv.2 c_4
          refine lv_iload_n hx hb d_Reader_isDateLetter_24 rfl (lv_at hl 0 rfl) ?_
          refine lv_bipush (v := (115 : Int32)) hx hb d_Reader_isDateLetter_25 (by decide) ?_
          refine lv_icmp_ne (tgt := 34) hx hb d_Reader_isDateLetter_27 (by decide) (fun c_5 => ?_) (fun c_5 => ?_)
          · have hv := hv.1 c_5
            refine lv_iconst (v := (0 : Int32)) hx hb d_Reader_isDateLetter_34 (by decide) ?_
            exact W.zret (v := (0 : Int32)) hx hb hr (by decide) (fun t ht hW => ⟨⟨_, (), rfl, hv, ⟨by rw [ht]; exact hP, va_K.moved hW.alike hK, hD⟩⟩, hS.F ht⟩) hS.2.2 d_Reader_isDateLetter_35
          · have hv := hv.2 c_5
            refine lv_iconst (v := (1 : Int32)) hx hb d_Reader_isDateLetter_30 (by decide) ?_
            refine lv_goto (tgt := 35) hx hb d_Reader_isDateLetter_31 (by decide) ?_
            exact W.zret (v := (1 : Int32)) hx hb hr (by decide) (fun t ht hW => ⟨⟨_, (), rfl, hv, ⟨by rw [ht]; exact hP, va_K.moved hW.alike hK, hD⟩⟩, hS.F ht⟩) hS.2.2 d_Reader_isDateLetter_35
theorem zi_Reader_isDateLetter : Cond.code (⟨"NumberDress$Reader", "isDateLetter", "(C)Z"⟩ : MethodName) prog_9_method_42_code 1 (some .boolean) ∈ zT := zw_683
theorem zh_Reader_isDateLetter : (((⟨"NumberDress$Reader", "isDateLetter", "(C)Z"⟩ : MethodName)).cls ≠ "java/lang/invoke/MethodHandle" ∧ ((⟨"NumberDress$Reader", "isDateLetter", "(C)Z"⟩ : MethodName)).cls ≠ "java/lang/invoke/VarHandle" ∧ (parseMethodDescriptor ((⟨"NumberDress$Reader", "isDateLetter", "(C)Z"⟩ : MethodName)).desc).map (fun d => d.parameters.length) = some 1) := by decide +kernel
set_option maxHeartbeats 4000000 in
set_option maxRecDepth 100000 in
theorem m_Reader_isDateLetter (l : Launch) (dC : Nat → ClassId) (dI : Nat → Nat → Nat) {gE : zG}  {x0 : Int32} {sz : Nat} {Z : Int32 → Unit → Prop} (hv : v_Reader_isDateLetter_0 x0 Z) : Met l (⟨"NumberDress$Reader", "isDateLetter", "(C)Z"⟩ : MethodName) (Cond.code (⟨"NumberDress$Reader", "isDateLetter", "(C)Z"⟩ : MethodName) prog_9_method_42_code 1 (some .boolean) :: zT) { frames := 0, cells := 0, slots := 0, locals := 0 } (zPc gE (dC, dI) zCl [] [.int x0] sz []) (va_Qi Z (zB (dC, dI) zCl [] (va_A [] sz) (fun u : Unit => [])) (va_A [] sz)) 0 0 (va_A [] sz) := by
  refine Met.ofW (cc := prog_9_method_42_code) (maxL := 1) (ret := (some .boolean)) (by decide +kernel) rfl ?_
  intro p e s m args below meth c s₁ B hml hp
  obtain ⟨rfl, hsz, hP, hK, hD0, hE⟩ := hp
  have hts := atoms_spec (ws := (Cond.code (⟨"NumberDress$Reader", "isDateLetter", "(C)Z"⟩ : MethodName) prog_9_method_42_code 1 (some .boolean) :: zT)) B.pre
  have hown : s.vm.findClass "NumberDress$Reader" = some m.cls := findClass_of_methodNamed B.named
  have hc : zC p s m _ meth c prog_9_method_42_code (some .boolean) 1 "NumberDress$Reader" := ⟨B.exec, B.bytes, B.returns, hml, hown, fun w h => hts w (List.mem_cons_of_mem _ h), B.notSynchronized⟩
  subst hsz
  have hD := hD0.self (sz := s.heap.size)
  generalize hAe : va_A [] s.heap.size = A at hD hE ⊢
  have hA : ∀ q : Nat, s.heap.size ≤ q → A q := fun q h => by rw [← hAe]; exact Or.inr h
  have hl := lv_entry ([.int x0]) (n := 1) (Nat.le_of_ble_eq_true rfl)
  rw [lg_entry_eq]
  exact b_Reader_isDateLetter_0 hc hA hE hl hK hP hD va_S.rf hv
theorem d_Reader_isPlace_0 : decode prog_9_method_40_code 0 = .ok (.iload_n 0, 1) := by decide +kernel
theorem d_Reader_isPlace_1 : decode prog_9_method_40_code 1 = .ok (.bipush 48, 2) := by decide +kernel
theorem d_Reader_isPlace_3 : decode prog_9_method_40_code 3 = .ok (.if_icmp .eq 15, 3) := by decide +kernel
theorem d_Reader_isPlace_6 : decode prog_9_method_40_code 6 = .ok (.iload_n 0, 1) := by decide +kernel
theorem d_Reader_isPlace_7 : decode prog_9_method_40_code 7 = .ok (.bipush 35, 2) := by decide +kernel
theorem d_Reader_isPlace_9 : decode prog_9_method_40_code 9 = .ok (.if_icmp .eq 9, 3) := by decide +kernel
theorem d_Reader_isPlace_12 : decode prog_9_method_40_code 12 = .ok (.iload_n 0, 1) := by decide +kernel
theorem d_Reader_isPlace_13 : decode prog_9_method_40_code 13 = .ok (.bipush 63, 2) := by decide +kernel
theorem d_Reader_isPlace_15 : decode prog_9_method_40_code 15 = .ok (.if_icmp .ne 7, 3) := by decide +kernel
theorem d_Reader_isPlace_18 : decode prog_9_method_40_code 18 = .ok (.iconst 1, 1) := by decide +kernel
theorem d_Reader_isPlace_19 : decode prog_9_method_40_code 19 = .ok (.goto 4, 3) := by decide +kernel
theorem d_Reader_isPlace_22 : decode prog_9_method_40_code 22 = .ok (.iconst 0, 1) := by decide +kernel
theorem d_Reader_isPlace_23 : decode prog_9_method_40_code 23 = .ok (.ireturn, 1) := by decide +kernel
set_option maxHeartbeats 4000000 in
set_option maxRecDepth 100000 in
theorem b_Reader_isPlace_0  {x0 : Int32}  {Z : Int32 → Unit → Prop} {H : Heap} {locs : List Loc} {ls : Array Slot} (hc : zC p s m args meth c prog_9_method_40_code (some .boolean) 1 "NumberDress$Reader") (hA : ∀ q : Nat, s.heap.size ≤ q → A q) (hE : zE gE A s) (hl : lv_has ls 1 [(0, .int x0)]) (hK : va_K (dC, dI) zCl [] s) (hP : va_P (dC, dI) zCl [] H) (hD : va_D A []) (hS : va_S A s.heap H locs) (hv : v_Reader_isPlace_0 x0  Z) : W p l e (headSpec (Cond.code (⟨"NumberDress$Reader", "isPlace", "(C)Z"⟩ : MethodName) prog_9_method_40_code 1 (some .boolean) :: zT) { frames := 0, cells := 0, slots := 0, locals := 0 }).room s m args below meth c H locs 0 0 (MQ below (va_Qi Z (zB (dC, dI) zCl [] A (fun u : Unit => [])) A) args s 0 0 A) (F0 m 0 ls []) := by
  obtain ⟨hx, hb, hr, hml, hown, ht, hlocks⟩ := id hc
  unfold v_Reader_isPlace_0 at hv
  refine lv_iload_n hx hb d_Reader_isPlace_0 rfl (lv_at hl 0 rfl) ?_
  refine lv_bipush (v := (48 : Int32)) hx hb d_Reader_isPlace_1 (by decide) ?_
  refine lv_icmp_eq (tgt := 18) hx hb d_Reader_isPlace_3 (by decide) (fun c_1 => ?_) (fun c_1 => ?_)
  · have hv := hv.1 c_1
    refine lv_iconst (v := (1 : Int32)) hx hb d_Reader_isPlace_18 (by decide) ?_
    refine lv_goto (tgt := 23) hx hb d_Reader_isPlace_19 (by decide) ?_
    exact W.zret (v := (1 : Int32)) hx hb hr (by decide) (fun t ht hW => ⟨⟨_, (), rfl, hv, ⟨by rw [ht]; exact hP, va_K.moved hW.alike hK, hD⟩⟩, hS.F ht⟩) hS.2.2 d_Reader_isPlace_23
  · have hv := hv.2 c_1
    refine lv_iload_n hx hb d_Reader_isPlace_6 rfl (lv_at hl 0 rfl) ?_
    refine lv_bipush (v := (35 : Int32)) hx hb d_Reader_isPlace_7 (by decide) ?_
    refine lv_icmp_eq (tgt := 18) hx hb d_Reader_isPlace_9 (by decide) (fun c_2 => ?_) (fun c_2 => ?_)
    · have hv := hv.1 c_2
      refine lv_iconst (v := (1 : Int32)) hx hb d_Reader_isPlace_18 (by decide) ?_
      refine lv_goto (tgt := 23) hx hb d_Reader_isPlace_19 (by decide) ?_
      exact W.zret (v := (1 : Int32)) hx hb hr (by decide) (fun t ht hW => ⟨⟨_, (), rfl, hv, ⟨by rw [ht]; exact hP, va_K.moved hW.alike hK, hD⟩⟩, hS.F ht⟩) hS.2.2 d_Reader_isPlace_23
    · have hv := hv.2 c_2
      refine lv_iload_n hx hb d_Reader_isPlace_12 rfl (lv_at hl 0 rfl) ?_
      refine lv_bipush (v := (63 : Int32)) hx hb d_Reader_isPlace_13 (by decide) ?_
      refine lv_icmp_ne (tgt := 22) hx hb d_Reader_isPlace_15 (by decide) (fun c_3 => ?_) (fun c_3 => ?_)
      · have hv := hv.1 c_3
        refine lv_iconst (v := (0 : Int32)) hx hb d_Reader_isPlace_22 (by decide) ?_
        exact W.zret (v := (0 : Int32)) hx hb hr (by decide) (fun t ht hW => ⟨⟨_, (), rfl, hv, ⟨by rw [ht]; exact hP, va_K.moved hW.alike hK, hD⟩⟩, hS.F ht⟩) hS.2.2 d_Reader_isPlace_23
      · have hv := hv.2 c_3
        refine lv_iconst (v := (1 : Int32)) hx hb d_Reader_isPlace_18 (by decide) ?_
        refine lv_goto (tgt := 23) hx hb d_Reader_isPlace_19 (by decide) ?_
        exact W.zret (v := (1 : Int32)) hx hb hr (by decide) (fun t ht hW => ⟨⟨_, (), rfl, hv, ⟨by rw [ht]; exact hP, va_K.moved hW.alike hK, hD⟩⟩, hS.F ht⟩) hS.2.2 d_Reader_isPlace_23
theorem zi_Reader_isPlace : Cond.code (⟨"NumberDress$Reader", "isPlace", "(C)Z"⟩ : MethodName) prog_9_method_40_code 1 (some .boolean) ∈ zT := zw_680
theorem zh_Reader_isPlace : (((⟨"NumberDress$Reader", "isPlace", "(C)Z"⟩ : MethodName)).cls ≠ "java/lang/invoke/MethodHandle" ∧ ((⟨"NumberDress$Reader", "isPlace", "(C)Z"⟩ : MethodName)).cls ≠ "java/lang/invoke/VarHandle" ∧ (parseMethodDescriptor ((⟨"NumberDress$Reader", "isPlace", "(C)Z"⟩ : MethodName)).desc).map (fun d => d.parameters.length) = some 1) := by decide +kernel
set_option maxHeartbeats 4000000 in
set_option maxRecDepth 100000 in
theorem m_Reader_isPlace (l : Launch) (dC : Nat → ClassId) (dI : Nat → Nat → Nat) {gE : zG}  {x0 : Int32} {sz : Nat} {Z : Int32 → Unit → Prop} (hv : v_Reader_isPlace_0 x0 Z) : Met l (⟨"NumberDress$Reader", "isPlace", "(C)Z"⟩ : MethodName) (Cond.code (⟨"NumberDress$Reader", "isPlace", "(C)Z"⟩ : MethodName) prog_9_method_40_code 1 (some .boolean) :: zT) { frames := 0, cells := 0, slots := 0, locals := 0 } (zPc gE (dC, dI) zCl [] [.int x0] sz []) (va_Qi Z (zB (dC, dI) zCl [] (va_A [] sz) (fun u : Unit => [])) (va_A [] sz)) 0 0 (va_A [] sz) := by
  refine Met.ofW (cc := prog_9_method_40_code) (maxL := 1) (ret := (some .boolean)) (by decide +kernel) rfl ?_
  intro p e s m args below meth c s₁ B hml hp
  obtain ⟨rfl, hsz, hP, hK, hD0, hE⟩ := hp
  have hts := atoms_spec (ws := (Cond.code (⟨"NumberDress$Reader", "isPlace", "(C)Z"⟩ : MethodName) prog_9_method_40_code 1 (some .boolean) :: zT)) B.pre
  have hown : s.vm.findClass "NumberDress$Reader" = some m.cls := findClass_of_methodNamed B.named
  have hc : zC p s m _ meth c prog_9_method_40_code (some .boolean) 1 "NumberDress$Reader" := ⟨B.exec, B.bytes, B.returns, hml, hown, fun w h => hts w (List.mem_cons_of_mem _ h), B.notSynchronized⟩
  subst hsz
  have hD := hD0.self (sz := s.heap.size)
  generalize hAe : va_A [] s.heap.size = A at hD hE ⊢
  have hA : ∀ q : Nat, s.heap.size ≤ q → A q := fun q h => by rw [← hAe]; exact Or.inr h
  have hl := lv_entry ([.int x0]) (n := 1) (Nat.le_of_ble_eq_true rfl)
  rw [lg_entry_eq]
  exact b_Reader_isPlace_0 hc hA hE hl hK hP hD va_S.rf hv
theorem d_Reader_kindMadeAt_0 : decode prog_9_method_7_code 0 = .ok (.aload_n 0, 1) := by decide +kernel
theorem d_Reader_kindMadeAt_1 : decode prog_9_method_7_code 1 = .ok (.iload_n 1, 1) := by decide +kernel
theorem d_Reader_kindMadeAt_2 : decode prog_9_method_7_code 2 = .ok (.invokevirtual 99, 3) := by decide +kernel
theorem d_Reader_kindMadeAt_5 : decode prog_9_method_7_code 5 = .ok (.istore_n 2, 1) := by decide +kernel
theorem d_Reader_kindMadeAt_6 : decode prog_9_method_7_code 6 = .ok (.iload_n 2, 1) := by decide +kernel
theorem d_Reader_kindMadeAt_7 : decode prog_9_method_7_code 7 = .ok (.invokestatic 102, 3) := by decide +kernel
theorem d_Reader_kindMadeAt_10 : decode prog_9_method_7_code 10 = .ok (.ifCond .eq 5, 3) := by decide +kernel
theorem d_Reader_kindMadeAt_13 : decode prog_9_method_7_code 13 = .ok (.iconst 2, 1) := by decide +kernel
theorem d_Reader_kindMadeAt_14 : decode prog_9_method_7_code 14 = .ok (.ireturn, 1) := by decide +kernel
theorem d_Reader_kindMadeAt_15 : decode prog_9_method_7_code 15 = .ok (.iload_n 2, 1) := by decide +kernel
theorem d_Reader_kindMadeAt_16 : decode prog_9_method_7_code 16 = .ok (.bipush 64, 2) := by decide +kernel
theorem d_Reader_kindMadeAt_18 : decode prog_9_method_7_code 18 = .ok (.if_icmp .ne 6, 3) := by decide +kernel
theorem d_Reader_kindMadeAt_21 : decode prog_9_method_7_code 21 = .ok (.bipush 6, 2) := by decide +kernel
theorem d_Reader_kindMadeAt_23 : decode prog_9_method_7_code 23 = .ok (.ireturn, 1) := by decide +kernel
theorem d_Reader_kindMadeAt_24 : decode prog_9_method_7_code 24 = .ok (.iload_n 2, 1) := by decide +kernel
theorem d_Reader_kindMadeAt_25 : decode prog_9_method_7_code 25 = .ok (.invokestatic 106, 3) := by decide +kernel
theorem d_Reader_kindMadeAt_28 : decode prog_9_method_7_code 28 = .ok (.ifCond .ne 19, 3) := by decide +kernel
theorem d_Reader_kindMadeAt_31 : decode prog_9_method_7_code 31 = .ok (.aload_n 0, 1) := by decide +kernel
theorem d_Reader_kindMadeAt_32 : decode prog_9_method_7_code 32 = .ok (.iload_n 1, 1) := by decide +kernel
theorem d_Reader_kindMadeAt_33 : decode prog_9_method_7_code 33 = .ok (.invokevirtual 109, 3) := by decide +kernel
theorem d_Reader_kindMadeAt_36 : decode prog_9_method_7_code 36 = .ok (.ifCond .gt 11, 3) := by decide +kernel
theorem d_Reader_kindMadeAt_39 : decode prog_9_method_7_code 39 = .ok (.aload_n 0, 1) := by decide +kernel
theorem d_Reader_kindMadeAt_40 : decode prog_9_method_7_code 40 = .ok (.iload_n 1, 1) := by decide +kernel
theorem d_Reader_kindMadeAt_41 : decode prog_9_method_7_code 41 = .ok (.invokevirtual 112, 3) := by decide +kernel
theorem d_Reader_kindMadeAt_44 : decode prog_9_method_7_code 44 = .ok (.ifCond .le 7, 3) := by decide +kernel
theorem d_Reader_kindMadeAt_47 : decode prog_9_method_7_code 47 = .ok (.iconst 1, 1) := by decide +kernel
theorem d_Reader_kindMadeAt_48 : decode prog_9_method_7_code 48 = .ok (.goto 4, 3) := by decide +kernel
theorem d_Reader_kindMadeAt_51 : decode prog_9_method_7_code 51 = .ok (.iconst 0, 1) := by decide +kernel
theorem d_Reader_kindMadeAt_52 : decode prog_9_method_7_code 52 = .ok (.istore_n 3, 1) := by decide +kernel
theorem d_Reader_kindMadeAt_53 : decode prog_9_method_7_code 53 = .ok (.iload_n 3, 1) := by decide +kernel
theorem d_Reader_kindMadeAt_54 : decode prog_9_method_7_code 54 = .ok (.ifCond .eq 7, 3) := by decide +kernel
theorem d_Reader_kindMadeAt_57 : decode prog_9_method_7_code 57 = .ok (.iconst 5, 1) := by decide +kernel
theorem d_Reader_kindMadeAt_58 : decode prog_9_method_7_code 58 = .ok (.goto 4, 3) := by decide +kernel
theorem d_Reader_kindMadeAt_61 : decode prog_9_method_7_code 61 = .ok (.iconst 1, 1) := by decide +kernel
theorem d_Reader_kindMadeAt_62 : decode prog_9_method_7_code 62 = .ok (.ireturn, 1) := by decide +kernel
set_option maxHeartbeats 4000000 in
set_option maxRecDepth 100000 in
theorem b_Reader_kindMadeAt_52 {h0 : Nat} {a0_2 : Nat} {a0_3 : Nat} {h1 : Nat} {cA1 : ClassId} {I0 : Nat → Int32} {n1 : Nat} {f1 : Nat → Int32} {s0 : Int32}  {Z : Int32 → Unit → Prop} {H : Heap} {locs : List Loc} {ls : Array Slot} (hc : zC p s m args meth c prog_9_method_7_code (some .int) 4 "NumberDress$Reader") (hA : ∀ q : Nat, s.heap.size ≤ q → A q) (hE : zE gE A s) (hl : lv_has ls 4 []) (hK : va_K (dC, dI) zCl [(cA1, .char)] s) (hP : va_P (dC, dI) zCl [(h0, .inr (8, o_Reader I0 h1 a0_2 a0_3)), (h1, .inl (cA1, n1, .inl f1))] H) (hD : va_D A [(h0, .inr (8, o_Reader I0 h1 a0_2 a0_3)), (h1, .inl (cA1, n1, .inl f1))]) (hS : va_S A s.heap H locs) (hv : v_Reader_kindMadeAt_52 I0 n1 f1 s0  Z) : W p l e (headSpec (Cond.code (⟨"NumberDress$Reader", "kindMadeAt", "(I)I"⟩ : MethodName) prog_9_method_7_code 4 (some .int) :: zT) { frames := 6, cells := 0, slots := 0, locals := 129 }).room s m args below meth c H locs 0 0 (MQ below (va_Qi Z (zB (dC, dI) zCl [(cA1, .char)] A (fun u : Unit => [(h0, .inr (8, o_Reader I0 h1 a0_2 a0_3)), (h1, .inl (cA1, n1, .inl f1))])) A) args s 0 0 A) (F0 m 52 ls [.int s0]) := by
  obtain ⟨hx, hb, hr, hml, hown, ht, hlocks⟩ := id hc
  unfold v_Reader_kindMadeAt_52 at hv
  refine lv_istore_n (lv' := [(3, .int s0)]) hx hb d_Reader_kindMadeAt_52 rfl hl (by decide) rfl (fun ls hl => ?_)
  refine lv_iload_n hx hb d_Reader_kindMadeAt_53 rfl (lv_at hl 0 rfl) ?_
  refine lv_if_eq (tgt := 61) hx hb d_Reader_kindMadeAt_54 (by decide) (fun c_1 => ?_) (fun c_1 => ?_)
  · have hv := hv.1 c_1
    refine lv_iconst (v := (1 : Int32)) hx hb d_Reader_kindMadeAt_61 (by decide) ?_
    exact W.iret (v := (1 : Int32)) hx hb hr (fun t ht hW => ⟨⟨_, (), rfl, hv, ⟨by rw [ht]; exact hP, va_K.moved hW.alike hK, hD⟩⟩, hS.F ht⟩) hS.2.2 d_Reader_kindMadeAt_62
  · have hv := hv.2 c_1
    refine lv_iconst (v := (5 : Int32)) hx hb d_Reader_kindMadeAt_57 (by decide) ?_
    refine lv_goto (tgt := 62) hx hb d_Reader_kindMadeAt_58 (by decide) ?_
    exact W.iret (v := (5 : Int32)) hx hb hr (fun t ht hW => ⟨⟨_, (), rfl, hv, ⟨by rw [ht]; exact hP, va_K.moved hW.alike hK, hD⟩⟩, hS.F ht⟩) hS.2.2 d_Reader_kindMadeAt_62
set_option maxHeartbeats 4000000 in
set_option maxRecDepth 100000 in
theorem b_Reader_kindMadeAt_47 {h0 : Nat} {a0_2 : Nat} {a0_3 : Nat} {h1 : Nat} {cA1 : ClassId} {I0 : Nat → Int32} {n1 : Nat} {f1 : Nat → Int32}  {Z : Int32 → Unit → Prop} {H : Heap} {locs : List Loc} {ls : Array Slot} (hc : zC p s m args meth c prog_9_method_7_code (some .int) 4 "NumberDress$Reader") (hA : ∀ q : Nat, s.heap.size ≤ q → A q) (hE : zE gE A s) (hl : lv_has ls 4 []) (hK : va_K (dC, dI) zCl [(cA1, .char)] s) (hP : va_P (dC, dI) zCl [(h0, .inr (8, o_Reader I0 h1 a0_2 a0_3)), (h1, .inl (cA1, n1, .inl f1))] H) (hD : va_D A [(h0, .inr (8, o_Reader I0 h1 a0_2 a0_3)), (h1, .inl (cA1, n1, .inl f1))]) (hS : va_S A s.heap H locs) (hv : v_Reader_kindMadeAt_47 I0 n1 f1  Z) : W p l e (headSpec (Cond.code (⟨"NumberDress$Reader", "kindMadeAt", "(I)I"⟩ : MethodName) prog_9_method_7_code 4 (some .int) :: zT) { frames := 6, cells := 0, slots := 0, locals := 129 }).room s m args below meth c H locs 0 0 (MQ below (va_Qi Z (zB (dC, dI) zCl [(cA1, .char)] A (fun u : Unit => [(h0, .inr (8, o_Reader I0 h1 a0_2 a0_3)), (h1, .inl (cA1, n1, .inl f1))])) A) args s 0 0 A) (F0 m 47 ls []) := by
  obtain ⟨hx, hb, hr, hml, hown, ht, hlocks⟩ := id hc
  unfold v_Reader_kindMadeAt_47 at hv
  refine lv_iconst (v := (1 : Int32)) hx hb d_Reader_kindMadeAt_47 (by decide) ?_
  refine lv_goto (tgt := 52) hx hb d_Reader_kindMadeAt_48 (by decide) ?_
  exact b_Reader_kindMadeAt_52 hc hA hE  (lv_sub hl [] rfl) hK hP hD hS hv
set_option maxHeartbeats 4000000 in
set_option maxRecDepth 100000 in
theorem b_Reader_kindMadeAt_44 {h0 : Nat} {a0_2 : Nat} {a0_3 : Nat} {h1 : Nat} {cA1 : ClassId} {I0 : Nat → Int32} {n1 : Nat} {f1 : Nat → Int32} {s0 : Int32}  {Z : Int32 → Unit → Prop} {H : Heap} {locs : List Loc} {ls : Array Slot} (hc : zC p s m args meth c prog_9_method_7_code (some .int) 4 "NumberDress$Reader") (hA : ∀ q : Nat, s.heap.size ≤ q → A q) (hE : zE gE A s) (hl : lv_has ls 4 []) (hK : va_K (dC, dI) zCl [(cA1, .char)] s) (hP : va_P (dC, dI) zCl [(h0, .inr (8, o_Reader I0 h1 a0_2 a0_3)), (h1, .inl (cA1, n1, .inl f1))] H) (hD : va_D A [(h0, .inr (8, o_Reader I0 h1 a0_2 a0_3)), (h1, .inl (cA1, n1, .inl f1))]) (hS : va_S A s.heap H locs) (hv : v_Reader_kindMadeAt_44 I0 n1 f1 s0  Z) : W p l e (headSpec (Cond.code (⟨"NumberDress$Reader", "kindMadeAt", "(I)I"⟩ : MethodName) prog_9_method_7_code 4 (some .int) :: zT) { frames := 6, cells := 0, slots := 0, locals := 129 }).room s m args below meth c H locs 0 0 (MQ below (va_Qi Z (zB (dC, dI) zCl [(cA1, .char)] A (fun u : Unit => [(h0, .inr (8, o_Reader I0 h1 a0_2 a0_3)), (h1, .inl (cA1, n1, .inl f1))])) A) args s 0 0 A) (F0 m 44 ls [.int s0]) := by
  obtain ⟨hx, hb, hr, hml, hown, ht, hlocks⟩ := id hc
  unfold v_Reader_kindMadeAt_44 at hv
  refine lv_if_le (tgt := 51) hx hb d_Reader_kindMadeAt_44 (by decide) (fun c_1 => ?_) (fun c_1 => ?_)
  · have hv := hv.1 c_1
    refine lv_iconst (v := (0 : Int32)) hx hb d_Reader_kindMadeAt_51 (by decide) ?_
    exact b_Reader_kindMadeAt_52 hc hA hE  (lv_sub hl [] rfl) hK hP hD hS hv
  · have hv := hv.2 c_1
    exact b_Reader_kindMadeAt_47 hc hA hE  (lv_sub hl [] rfl) hK hP hD hS hv
set_option maxHeartbeats 4000000 in
set_option maxRecDepth 100000 in
theorem b_Reader_kindMadeAt_36 {h0 : Nat} {a0_2 : Nat} {a0_3 : Nat} {h1 : Nat} {cA1 : ClassId} {I0 : Nat → Int32} {n1 : Nat} {f1 : Nat → Int32} {x1 : Int32} {s0 : Int32}  {Z : Int32 → Unit → Prop} {H : Heap} {locs : List Loc} {ls : Array Slot} (hc : zC p s m args meth c prog_9_method_7_code (some .int) 4 "NumberDress$Reader") (hA : ∀ q : Nat, s.heap.size ≤ q → A q) (hE : zE gE A s) (hl : lv_has ls 4 [(0, .ref h0), (1, .int x1)]) (hK : va_K (dC, dI) zCl [(cA1, .char)] s) (hP : va_P (dC, dI) zCl [(h0, .inr (8, o_Reader I0 h1 a0_2 a0_3)), (h1, .inl (cA1, n1, .inl f1))] H) (hD : va_D A [(h0, .inr (8, o_Reader I0 h1 a0_2 a0_3)), (h1, .inl (cA1, n1, .inl f1))]) (hS : va_S A s.heap H locs) (hv : v_Reader_kindMadeAt_36 I0 n1 f1 x1 s0  Z) : W p l e (headSpec (Cond.code (⟨"NumberDress$Reader", "kindMadeAt", "(I)I"⟩ : MethodName) prog_9_method_7_code 4 (some .int) :: zT) { frames := 6, cells := 0, slots := 0, locals := 129 }).room s m args below meth c H locs 0 0 (MQ below (va_Qi Z (zB (dC, dI) zCl [(cA1, .char)] A (fun u : Unit => [(h0, .inr (8, o_Reader I0 h1 a0_2 a0_3)), (h1, .inl (cA1, n1, .inl f1))])) A) args s 0 0 A) (F0 m 36 ls [.int s0]) := by
  obtain ⟨hx, hb, hr, hml, hown, ht, hlocks⟩ := id hc
  unfold v_Reader_kindMadeAt_36 at hv
  refine lv_if_gt (tgt := 47) hx hb d_Reader_kindMadeAt_36 (by decide) (fun c_1 => ?_) (fun c_1 => ?_)
  · have hv := hv.1 c_1
    exact b_Reader_kindMadeAt_47 hc hA hE  (lv_sub hl [] rfl) hK hP hD hS hv
  · have hv := hv.2 c_1
    refine lv_aload_n hx hb d_Reader_kindMadeAt_39 rfl (lv_at hl 0 rfl) ?_
    refine lv_iload_n hx hb d_Reader_kindMadeAt_40 rfl (lv_at hl 1 rfl) ?_
    refine z_calli (wc := [(h0, .inr (8, o_Reader I0 h1 a0_2 a0_3)), (h1, .inl (cA1, n1, .inl f1))]) (wr := []) [0, 1] [] (va_runV (As := [.int x1]) (rest := []) ⟨hx, hb, hml, hown, ht⟩ (m_Reader_halfDayLength l dC dI hv) ⟨(callB_of 1 ht (zG_in zi_Reader_halfDayLength) rfl rfl rfl (ht _ zw_113) (ht _ zw_692) zh_Reader_halfDayLength ⟨Nat.le_of_ble_eq_true rfl, Nat.le_of_ble_eq_true rfl⟩), (ht _ zw_694), (ht _ zw_12)⟩ ⟨zPc_blind, va_recv hK hP (ci := 8) (q0 := 0) rfl rfl, zPc_pre hP hK hD hS hA hE [0, 1] [0] rfl rfl (by decide) rfl⟩ rfl rfl hl.1 rfl (lv_room (Nat.le_of_ble_eq_true rfl)) d_Reader_kindMadeAt_41 ⟨Nat.le_of_ble_eq_true rfl, Nat.le_of_ble_eq_true rfl⟩) hP hD hS hA rfl rfl (by decide) (by decide) (fun r u H locs hv hP hD hS => ?_)
    have hP : va_P (dC, dI) zCl [(h0, .inr (8, o_Reader I0 h1 a0_2 a0_3)), (h1, .inl (cA1, n1, .inl f1))] H := hP.sub [0, 1] rfl
    have hD : va_D A [(h0, .inr (8, o_Reader I0 h1 a0_2 a0_3)), (h1, .inl (cA1, n1, .inl f1))] := hD.sub [0, 1] (by decide) rfl
    exact b_Reader_kindMadeAt_44 hc hA hE  (lv_sub hl [] rfl) hK hP hD hS hv
set_option maxHeartbeats 4000000 in
set_option maxRecDepth 100000 in
theorem b_Reader_kindMadeAt_28 {h0 : Nat} {a0_2 : Nat} {a0_3 : Nat} {h1 : Nat} {cA1 : ClassId} {I0 : Nat → Int32} {n1 : Nat} {f1 : Nat → Int32} {x1 : Int32} {s0 : Int32}  {Z : Int32 → Unit → Prop} {H : Heap} {locs : List Loc} {ls : Array Slot} (hc : zC p s m args meth c prog_9_method_7_code (some .int) 4 "NumberDress$Reader") (hA : ∀ q : Nat, s.heap.size ≤ q → A q) (hE : zE gE A s) (hl : lv_has ls 4 [(0, .ref h0), (1, .int x1)]) (hK : va_K (dC, dI) zCl [(cA1, .char)] s) (hP : va_P (dC, dI) zCl [(h0, .inr (8, o_Reader I0 h1 a0_2 a0_3)), (h1, .inl (cA1, n1, .inl f1))] H) (hD : va_D A [(h0, .inr (8, o_Reader I0 h1 a0_2 a0_3)), (h1, .inl (cA1, n1, .inl f1))]) (hS : va_S A s.heap H locs) (hv : v_Reader_kindMadeAt_28 I0 n1 f1 x1 s0  Z) : W p l e (headSpec (Cond.code (⟨"NumberDress$Reader", "kindMadeAt", "(I)I"⟩ : MethodName) prog_9_method_7_code 4 (some .int) :: zT) { frames := 6, cells := 0, slots := 0, locals := 129 }).room s m args below meth c H locs 0 0 (MQ below (va_Qi Z (zB (dC, dI) zCl [(cA1, .char)] A (fun u : Unit => [(h0, .inr (8, o_Reader I0 h1 a0_2 a0_3)), (h1, .inl (cA1, n1, .inl f1))])) A) args s 0 0 A) (F0 m 28 ls [.int s0]) := by
  obtain ⟨hx, hb, hr, hml, hown, ht, hlocks⟩ := id hc
  unfold v_Reader_kindMadeAt_28 at hv
  refine lv_if_ne (tgt := 47) hx hb d_Reader_kindMadeAt_28 (by decide) (fun c_1 => ?_) (fun c_1 => ?_)
  · have hv := hv.1 c_1
    exact b_Reader_kindMadeAt_47 hc hA hE  (lv_sub hl [] rfl) hK hP hD hS hv
  · have hv := hv.2 c_1
    refine lv_aload_n hx hb d_Reader_kindMadeAt_31 rfl (lv_at hl 0 rfl) ?_
    refine lv_iload_n hx hb d_Reader_kindMadeAt_32 rfl (lv_at hl 1 rfl) ?_
    refine z_calli (wc := [(h0, .inr (8, o_Reader I0 h1 a0_2 a0_3)), (h1, .inl (cA1, n1, .inl f1))]) (wr := []) [0, 1] [] (va_runV (As := [.int x1]) (rest := []) ⟨hx, hb, hml, hown, ht⟩ (m_Reader_bracketRow l dC dI hv) ⟨(callB_of 1 ht (zG_in zi_Reader_bracketRow) rfl rfl rfl (ht _ zw_113) (ht _ zw_684) zh_Reader_bracketRow ⟨Nat.le_of_ble_eq_true rfl, Nat.le_of_ble_eq_true rfl⟩), (ht _ zw_686), (ht _ zw_10)⟩ ⟨zPc_blind, va_recv hK hP (ci := 8) (q0 := 0) rfl rfl, zPc_pre hP hK hD hS hA hE [0, 1] [0] rfl rfl (by decide) rfl⟩ rfl rfl hl.1 rfl (lv_room (Nat.le_of_ble_eq_true rfl)) d_Reader_kindMadeAt_33 ⟨Nat.le_of_ble_eq_true rfl, Nat.le_of_ble_eq_true rfl⟩) hP hD hS hA rfl rfl (by decide) (by decide) (fun r u H locs hv hP hD hS => ?_)
    have hP : va_P (dC, dI) zCl [(h0, .inr (8, o_Reader I0 h1 a0_2 a0_3)), (h1, .inl (cA1, n1, .inl f1))] H := hP.sub [0, 1] rfl
    have hD : va_D A [(h0, .inr (8, o_Reader I0 h1 a0_2 a0_3)), (h1, .inl (cA1, n1, .inl f1))] := hD.sub [0, 1] (by decide) rfl
    exact b_Reader_kindMadeAt_36 hc hA hE  (lv_sub hl [0, 1] rfl) hK hP hD hS hv
set_option maxHeartbeats 4000000 in
set_option maxRecDepth 100000 in
theorem b_Reader_kindMadeAt_10 {h0 : Nat} {a0_2 : Nat} {a0_3 : Nat} {h1 : Nat} {cA1 : ClassId} {I0 : Nat → Int32} {n1 : Nat} {f1 : Nat → Int32} {x1 : Int32} {x2 : Int32} {s0 : Int32}  {Z : Int32 → Unit → Prop} {H : Heap} {locs : List Loc} {ls : Array Slot} (hc : zC p s m args meth c prog_9_method_7_code (some .int) 4 "NumberDress$Reader") (hA : ∀ q : Nat, s.heap.size ≤ q → A q) (hE : zE gE A s) (hl : lv_has ls 4 [(0, .ref h0), (1, .int x1), (2, .int x2)]) (hK : va_K (dC, dI) zCl [(cA1, .char)] s) (hP : va_P (dC, dI) zCl [(h0, .inr (8, o_Reader I0 h1 a0_2 a0_3)), (h1, .inl (cA1, n1, .inl f1))] H) (hD : va_D A [(h0, .inr (8, o_Reader I0 h1 a0_2 a0_3)), (h1, .inl (cA1, n1, .inl f1))]) (hS : va_S A s.heap H locs) (hv : v_Reader_kindMadeAt_10 I0 n1 f1 x1 x2 s0  Z) : W p l e (headSpec (Cond.code (⟨"NumberDress$Reader", "kindMadeAt", "(I)I"⟩ : MethodName) prog_9_method_7_code 4 (some .int) :: zT) { frames := 6, cells := 0, slots := 0, locals := 129 }).room s m args below meth c H locs 0 0 (MQ below (va_Qi Z (zB (dC, dI) zCl [(cA1, .char)] A (fun u : Unit => [(h0, .inr (8, o_Reader I0 h1 a0_2 a0_3)), (h1, .inl (cA1, n1, .inl f1))])) A) args s 0 0 A) (F0 m 10 ls [.int s0]) := by
  obtain ⟨hx, hb, hr, hml, hown, ht, hlocks⟩ := id hc
  unfold v_Reader_kindMadeAt_10 at hv
  refine lv_if_eq (tgt := 15) hx hb d_Reader_kindMadeAt_10 (by decide) (fun c_1 => ?_) (fun c_1 => ?_)
  · have hv := hv.1 c_1
    refine lv_iload_n hx hb d_Reader_kindMadeAt_15 rfl (lv_at hl 2 rfl) ?_
    refine lv_bipush (v := (64 : Int32)) hx hb d_Reader_kindMadeAt_16 (by decide) ?_
    refine lv_icmp_ne (tgt := 24) hx hb d_Reader_kindMadeAt_18 (by decide) (fun c_2 => ?_) (fun c_2 => ?_)
    · have hv := hv.1 c_2
      refine lv_iload_n hx hb d_Reader_kindMadeAt_24 rfl (lv_at hl 2 rfl) ?_
      refine z_calli (wc := []) (wr := [(h0, .inr (8, o_Reader I0 h1 a0_2 a0_3)), (h1, .inl (cA1, n1, .inl f1))]) [] [0, 1] (va_runS (As := [.int x2]) (rest := []) ⟨hx, hb, hml, hown, ht⟩ (m_Reader_isDateLetter l dC dI hv) ⟨(callB_of 1 ht (zG_in zi_Reader_isDateLetter) rfl rfl rfl (ht _ zw_113) (ht _ zw_681) zh_Reader_isDateLetter ⟨Nat.le_of_ble_eq_true rfl, Nat.le_of_ble_eq_true rfl⟩), (ht _ zw_682)⟩ ⟨zPc_blind, zPc_pre hP hK hD hS hA hE [] [] rfl rfl (by decide) rfl⟩ rfl rfl hl.1 rfl (lv_room (Nat.le_of_ble_eq_true rfl)) d_Reader_kindMadeAt_25 ⟨Nat.le_of_ble_eq_true rfl, Nat.le_of_ble_eq_true rfl⟩) hP hD hS hA rfl rfl (by decide) (by decide) (fun r u H locs hv hP hD hS => ?_)
      have hP : va_P (dC, dI) zCl [(h0, .inr (8, o_Reader I0 h1 a0_2 a0_3)), (h1, .inl (cA1, n1, .inl f1))] H := hP.sub [0, 1] rfl
      have hD : va_D A [(h0, .inr (8, o_Reader I0 h1 a0_2 a0_3)), (h1, .inl (cA1, n1, .inl f1))] := hD.sub [0, 1] (by decide) rfl
      exact b_Reader_kindMadeAt_28 hc hA hE  (lv_sub hl [0, 1] rfl) hK hP hD hS hv
    · have hv := hv.2 c_2
      refine lv_bipush (v := (6 : Int32)) hx hb d_Reader_kindMadeAt_21 (by decide) ?_
      exact W.iret (v := (6 : Int32)) hx hb hr (fun t ht hW => ⟨⟨_, (), rfl, hv, ⟨by rw [ht]; exact hP, va_K.moved hW.alike hK, hD⟩⟩, hS.F ht⟩) hS.2.2 d_Reader_kindMadeAt_23
  · have hv := hv.2 c_1
    refine lv_iconst (v := (2 : Int32)) hx hb d_Reader_kindMadeAt_13 (by decide) ?_
    exact W.iret (v := (2 : Int32)) hx hb hr (fun t ht hW => ⟨⟨_, (), rfl, hv, ⟨by rw [ht]; exact hP, va_K.moved hW.alike hK, hD⟩⟩, hS.F ht⟩) hS.2.2 d_Reader_kindMadeAt_14
set_option maxHeartbeats 4000000 in
set_option maxRecDepth 100000 in
theorem b_Reader_kindMadeAt_5 {h0 : Nat} {a0_2 : Nat} {a0_3 : Nat} {h1 : Nat} {cA1 : ClassId} {I0 : Nat → Int32} {n1 : Nat} {f1 : Nat → Int32} {x1 : Int32} {s0 : Int32}  {Z : Int32 → Unit → Prop} {H : Heap} {locs : List Loc} {ls : Array Slot} (hc : zC p s m args meth c prog_9_method_7_code (some .int) 4 "NumberDress$Reader") (hA : ∀ q : Nat, s.heap.size ≤ q → A q) (hE : zE gE A s) (hl : lv_has ls 4 [(0, .ref h0), (1, .int x1)]) (hK : va_K (dC, dI) zCl [(cA1, .char)] s) (hP : va_P (dC, dI) zCl [(h0, .inr (8, o_Reader I0 h1 a0_2 a0_3)), (h1, .inl (cA1, n1, .inl f1))] H) (hD : va_D A [(h0, .inr (8, o_Reader I0 h1 a0_2 a0_3)), (h1, .inl (cA1, n1, .inl f1))]) (hS : va_S A s.heap H locs) (hv : v_Reader_kindMadeAt_5 I0 n1 f1 x1 s0  Z) : W p l e (headSpec (Cond.code (⟨"NumberDress$Reader", "kindMadeAt", "(I)I"⟩ : MethodName) prog_9_method_7_code 4 (some .int) :: zT) { frames := 6, cells := 0, slots := 0, locals := 129 }).room s m args below meth c H locs 0 0 (MQ below (va_Qi Z (zB (dC, dI) zCl [(cA1, .char)] A (fun u : Unit => [(h0, .inr (8, o_Reader I0 h1 a0_2 a0_3)), (h1, .inl (cA1, n1, .inl f1))])) A) args s 0 0 A) (F0 m 5 ls [.int s0]) := by
  obtain ⟨hx, hb, hr, hml, hown, ht, hlocks⟩ := id hc
  unfold v_Reader_kindMadeAt_5 at hv
  refine lv_istore_n (lv' := [(2, .int s0), (0, .ref h0), (1, .int x1)]) hx hb d_Reader_kindMadeAt_5 rfl hl (by decide) rfl (fun ls hl => ?_)
  refine lv_iload_n hx hb d_Reader_kindMadeAt_6 rfl (lv_at hl 0 rfl) ?_
  refine z_calli (wc := []) (wr := [(h0, .inr (8, o_Reader I0 h1 a0_2 a0_3)), (h1, .inl (cA1, n1, .inl f1))]) [] [0, 1] (va_runS (As := [.int s0]) (rest := []) ⟨hx, hb, hml, hown, ht⟩ (m_Reader_isPlace l dC dI hv) ⟨(callB_of 1 ht (zG_in zi_Reader_isPlace) rfl rfl rfl (ht _ zw_113) (ht _ zw_678) zh_Reader_isPlace ⟨Nat.le_of_ble_eq_true rfl, Nat.le_of_ble_eq_true rfl⟩), (ht _ zw_679)⟩ ⟨zPc_blind, zPc_pre hP hK hD hS hA hE [] [] rfl rfl (by decide) rfl⟩ rfl rfl hl.1 rfl (lv_room (Nat.le_of_ble_eq_true rfl)) d_Reader_kindMadeAt_7 ⟨Nat.le_of_ble_eq_true rfl, Nat.le_of_ble_eq_true rfl⟩) hP hD hS hA rfl rfl (by decide) (by decide) (fun r u H locs hv hP hD hS => ?_)
  have hP : va_P (dC, dI) zCl [(h0, .inr (8, o_Reader I0 h1 a0_2 a0_3)), (h1, .inl (cA1, n1, .inl f1))] H := hP.sub [0, 1] rfl
  have hD : va_D A [(h0, .inr (8, o_Reader I0 h1 a0_2 a0_3)), (h1, .inl (cA1, n1, .inl f1))] := hD.sub [0, 1] (by decide) rfl
  exact b_Reader_kindMadeAt_10 hc hA hE  (lv_sub hl [1, 2, 0] rfl) hK hP hD hS hv
set_option maxHeartbeats 4000000 in
set_option maxRecDepth 100000 in
theorem b_Reader_kindMadeAt_0 {h0 : Nat} {a0_2 : Nat} {a0_3 : Nat} {h1 : Nat} {cA1 : ClassId} {I0 : Nat → Int32} {n1 : Nat} {f1 : Nat → Int32} {x1 : Int32}  {Z : Int32 → Unit → Prop} {H : Heap} {locs : List Loc} {ls : Array Slot} (hc : zC p s m args meth c prog_9_method_7_code (some .int) 4 "NumberDress$Reader") (hA : ∀ q : Nat, s.heap.size ≤ q → A q) (hE : zE gE A s) (hl : lv_has ls 4 [(0, .ref h0), (1, .int x1)]) (hK : va_K (dC, dI) zCl [(cA1, .char)] s) (hP : va_P (dC, dI) zCl [(h0, .inr (8, o_Reader I0 h1 a0_2 a0_3)), (h1, .inl (cA1, n1, .inl f1))] H) (hD : va_D A [(h0, .inr (8, o_Reader I0 h1 a0_2 a0_3)), (h1, .inl (cA1, n1, .inl f1))]) (hS : va_S A s.heap H locs) (hv : v_Reader_kindMadeAt_0 I0 n1 f1 x1  Z) : W p l e (headSpec (Cond.code (⟨"NumberDress$Reader", "kindMadeAt", "(I)I"⟩ : MethodName) prog_9_method_7_code 4 (some .int) :: zT) { frames := 6, cells := 0, slots := 0, locals := 129 }).room s m args below meth c H locs 0 0 (MQ below (va_Qi Z (zB (dC, dI) zCl [(cA1, .char)] A (fun u : Unit => [(h0, .inr (8, o_Reader I0 h1 a0_2 a0_3)), (h1, .inl (cA1, n1, .inl f1))])) A) args s 0 0 A) (F0 m 0 ls []) := by
  obtain ⟨hx, hb, hr, hml, hown, ht, hlocks⟩ := id hc
  unfold v_Reader_kindMadeAt_0 at hv
  refine lv_aload_n hx hb d_Reader_kindMadeAt_0 rfl (lv_at hl 0 rfl) ?_
  refine lv_iload_n hx hb d_Reader_kindMadeAt_1 rfl (lv_at hl 1 rfl) ?_
  refine z_calli (wc := [(h0, .inr (8, o_Reader I0 h1 a0_2 a0_3)), (h1, .inl (cA1, n1, .inl f1))]) (wr := []) [0, 1] [] (va_runV (As := [.int x1]) (rest := []) ⟨hx, hb, hml, hown, ht⟩ (m_Reader_small l dC dI hv) ⟨(callB_of 1 ht (zG_in zi_Reader_small) rfl rfl rfl (ht _ zw_113) (ht _ zw_553) zh_Reader_small ⟨Nat.le_of_ble_eq_true rfl, Nat.le_of_ble_eq_true rfl⟩), (ht _ zw_555), (ht _ zw_6)⟩ ⟨zPc_blind, va_recv hK hP (ci := 8) (q0 := 0) rfl rfl, zPc_pre hP hK hD hS hA hE [0, 1] [0] rfl rfl (by decide) rfl⟩ rfl rfl hl.1 rfl (lv_room (Nat.le_of_ble_eq_true rfl)) d_Reader_kindMadeAt_2 ⟨Nat.le_of_ble_eq_true rfl, Nat.le_of_ble_eq_true rfl⟩) hP hD hS hA rfl rfl (by decide) (by decide) (fun r u H locs hv hP hD hS => ?_)
  have hP : va_P (dC, dI) zCl [(h0, .inr (8, o_Reader I0 h1 a0_2 a0_3)), (h1, .inl (cA1, n1, .inl f1))] H := hP.sub [0, 1] rfl
  have hD : va_D A [(h0, .inr (8, o_Reader I0 h1 a0_2 a0_3)), (h1, .inl (cA1, n1, .inl f1))] := hD.sub [0, 1] (by decide) rfl
  exact b_Reader_kindMadeAt_5 hc hA hE  (lv_sub hl [0, 1] rfl) hK hP hD hS hv
theorem zi_Reader_kindMadeAt : Cond.code (⟨"NumberDress$Reader", "kindMadeAt", "(I)I"⟩ : MethodName) prog_9_method_7_code 4 (some .int) ∈ zT := zw_677
theorem zh_Reader_kindMadeAt : (((⟨"NumberDress$Reader", "kindMadeAt", "(I)I"⟩ : MethodName)).cls ≠ "java/lang/invoke/MethodHandle" ∧ ((⟨"NumberDress$Reader", "kindMadeAt", "(I)I"⟩ : MethodName)).cls ≠ "java/lang/invoke/VarHandle" ∧ (parseMethodDescriptor ((⟨"NumberDress$Reader", "kindMadeAt", "(I)I"⟩ : MethodName)).desc).map (fun d => d.parameters.length) = some 1) := by decide +kernel
set_option maxHeartbeats 4000000 in
set_option maxRecDepth 100000 in
theorem m_Reader_kindMadeAt (l : Launch) (dC : Nat → ClassId) (dI : Nat → Nat → Nat) {gE : zG} {h0 : Nat} {a0_2 : Nat} {a0_3 : Nat} {h1 : Nat} {cA1 : ClassId} {I0 : Nat → Int32} {n1 : Nat} {f1 : Nat → Int32} {x1 : Int32} {sz : Nat} {Z : Int32 → Unit → Prop} (hv : v_Reader_kindMadeAt_0 I0 n1 f1 x1 Z) : Met l (⟨"NumberDress$Reader", "kindMadeAt", "(I)I"⟩ : MethodName) (Cond.code (⟨"NumberDress$Reader", "kindMadeAt", "(I)I"⟩ : MethodName) prog_9_method_7_code 4 (some .int) :: zT) { frames := 6, cells := 0, slots := 0, locals := 129 } (zPc gE (dC, dI) zCl [(cA1, .char)] [.ref h0, .int x1] sz [(h0, .inr (8, o_Reader I0 h1 a0_2 a0_3)), (h1, .inl (cA1, n1, .inl f1))]) (va_Qi Z (zB (dC, dI) zCl [(cA1, .char)] (va_A [(h0, .inr (8, o_Reader I0 h1 a0_2 a0_3)), (h1, .inl (cA1, n1, .inl f1))] sz) (fun u : Unit => [(h0, .inr (8, o_Reader I0 h1 a0_2 a0_3)), (h1, .inl (cA1, n1, .inl f1))])) (va_A [(h0, .inr (8, o_Reader I0 h1 a0_2 a0_3)), (h1, .inl (cA1, n1, .inl f1))] sz)) 0 0 (va_A [(h0, .inr (8, o_Reader I0 h1 a0_2 a0_3)), (h1, .inl (cA1, n1, .inl f1))] sz) := by
  refine Met.ofW (cc := prog_9_method_7_code) (maxL := 4) (ret := (some .int)) (by decide +kernel) rfl ?_
  intro p e s m args below meth c s₁ B hml hp
  obtain ⟨rfl, hsz, hP, hK, hD0, hE⟩ := hp
  have hts := atoms_spec (ws := (Cond.code (⟨"NumberDress$Reader", "kindMadeAt", "(I)I"⟩ : MethodName) prog_9_method_7_code 4 (some .int) :: zT)) B.pre
  have hown : s.vm.findClass "NumberDress$Reader" = some m.cls := findClass_of_methodNamed B.named
  have hc : zC p s m _ meth c prog_9_method_7_code (some .int) 4 "NumberDress$Reader" := ⟨B.exec, B.bytes, B.returns, hml, hown, fun w h => hts w (List.mem_cons_of_mem _ h), B.notSynchronized⟩
  subst hsz
  have hD := hD0.self (sz := s.heap.size)
  generalize hAe : va_A [(h0, .inr (8, o_Reader I0 h1 a0_2 a0_3)), (h1, .inl (cA1, n1, .inl f1))] s.heap.size = A at hD hE ⊢
  have hA : ∀ q : Nat, s.heap.size ≤ q → A q := fun q h => by rw [← hAe]; exact Or.inr h
  have hl := lv_entry ([.ref h0, .int x1]) (n := 4) (Nat.le_of_ble_eq_true rfl)
  rw [lg_entry_eq]
  exact b_Reader_kindMadeAt_0 hc hA hE hl hK hP hD va_S.rf hv
theorem d_Reader_findKind_0 : decode prog_9_method_6_code 0 = .ok (.aload_n 0, 1) := by decide +kernel
theorem d_Reader_findKind_1 : decode prog_9_method_6_code 1 = .ok (.getfield 25, 3) := by decide +kernel
theorem d_Reader_findKind_4 : decode prog_9_method_6_code 4 = .ok (.iconst 1, 1) := by decide +kernel
theorem d_Reader_findKind_5 : decode prog_9_method_6_code 5 = .ok (.putfield 50, 3) := by decide +kernel
theorem d_Reader_findKind_8 : decode prog_9_method_6_code 8 = .ok (.aload_n 0, 1) := by decide +kernel
theorem d_Reader_findKind_9 : decode prog_9_method_6_code 9 = .ok (.iload_n 2, 1) := by decide +kernel
theorem d_Reader_findKind_10 : decode prog_9_method_6_code 10 = .ok (.putfield 71, 3) := by decide +kernel
theorem d_Reader_findKind_13 : decode prog_9_method_6_code 13 = .ok (.iload_n 1, 1) := by decide +kernel
theorem d_Reader_findKind_14 : decode prog_9_method_6_code 14 = .ok (.istore_n 3, 1) := by decide +kernel
theorem d_Reader_findKind_15 : decode prog_9_method_6_code 15 = .ok (.iload_n 3, 1) := by decide +kernel
theorem d_Reader_findKind_16 : decode prog_9_method_6_code 16 = .ok (.iload_n 2, 1) := by decide +kernel
theorem d_Reader_findKind_17 : decode prog_9_method_6_code 17 = .ok (.if_icmp .ge 55, 3) := by decide +kernel
theorem d_Reader_findKind_20 : decode prog_9_method_6_code 20 = .ok (.aload_n 0, 1) := by decide +kernel
theorem d_Reader_findKind_21 : decode prog_9_method_6_code 21 = .ok (.iload_n 3, 1) := by decide +kernel
theorem d_Reader_findKind_22 : decode prog_9_method_6_code 22 = .ok (.invokevirtual 90, 3) := by decide +kernel
theorem d_Reader_findKind_25 : decode prog_9_method_6_code 25 = .ok (.istore 4, 2) := by decide +kernel
theorem d_Reader_findKind_27 : decode prog_9_method_6_code 27 = .ok (.iload 4, 2) := by decide +kernel
theorem d_Reader_findKind_29 : decode prog_9_method_6_code 29 = .ok (.ifCond .ne 31, 3) := by decide +kernel
theorem d_Reader_findKind_32 : decode prog_9_method_6_code 32 = .ok (.aload_n 0, 1) := by decide +kernel
theorem d_Reader_findKind_33 : decode prog_9_method_6_code 33 = .ok (.iload_n 3, 1) := by decide +kernel
theorem d_Reader_findKind_34 : decode prog_9_method_6_code 34 = .ok (.invokevirtual 96, 3) := by decide +kernel
theorem d_Reader_findKind_37 : decode prog_9_method_6_code 37 = .ok (.istore 5, 2) := by decide +kernel
theorem d_Reader_findKind_39 : decode prog_9_method_6_code 39 = .ok (.iload 5, 2) := by decide +kernel
theorem d_Reader_findKind_41 : decode prog_9_method_6_code 41 = .ok (.iconst 1, 1) := by decide +kernel
theorem d_Reader_findKind_42 : decode prog_9_method_6_code 42 = .ok (.if_icmp .eq 18, 3) := by decide +kernel
theorem d_Reader_findKind_45 : decode prog_9_method_6_code 45 = .ok (.aload_n 0, 1) := by decide +kernel
theorem d_Reader_findKind_46 : decode prog_9_method_6_code 46 = .ok (.getfield 25, 3) := by decide +kernel
theorem d_Reader_findKind_49 : decode prog_9_method_6_code 49 = .ok (.iload 5, 2) := by decide +kernel
theorem d_Reader_findKind_51 : decode prog_9_method_6_code 51 = .ok (.putfield 50, 3) := by decide +kernel
theorem d_Reader_findKind_54 : decode prog_9_method_6_code 54 = .ok (.aload_n 0, 1) := by decide +kernel
theorem d_Reader_findKind_55 : decode prog_9_method_6_code 55 = .ok (.iload_n 3, 1) := by decide +kernel
theorem d_Reader_findKind_56 : decode prog_9_method_6_code 56 = .ok (.putfield 71, 3) := by decide +kernel
theorem d_Reader_findKind_59 : decode prog_9_method_6_code 59 = .ok (.return_, 1) := by decide +kernel
theorem d_Reader_findKind_60 : decode prog_9_method_6_code 60 = .ok (.iload_n 3, 1) := by decide +kernel
theorem d_Reader_findKind_61 : decode prog_9_method_6_code 61 = .ok (.iconst 1, 1) := by decide +kernel
theorem d_Reader_findKind_62 : decode prog_9_method_6_code 62 = .ok (.iload 4, 2) := by decide +kernel
theorem d_Reader_findKind_64 : decode prog_9_method_6_code 64 = .ok (.invokestatic 93, 3) := by decide +kernel
theorem d_Reader_findKind_67 : decode prog_9_method_6_code 67 = .ok (.iadd, 1) := by decide +kernel
theorem d_Reader_findKind_68 : decode prog_9_method_6_code 68 = .ok (.istore_n 3, 1) := by decide +kernel
theorem d_Reader_findKind_69 : decode prog_9_method_6_code 69 = .ok (.goto (-54), 3) := by decide +kernel
theorem d_Reader_findKind_72 : decode prog_9_method_6_code 72 = .ok (.return_, 1) := by decide +kernel
set_option maxHeartbeats 4000000 in
set_option maxRecDepth 100000 in
theorem b_Reader_findKind_60 {h0 : Nat} {a0_2 : Nat} {h1 : Nat} {h2 : Nat} {cA2 : ClassId} {I0 : Nat → Int32} {I1 : Nat → Int32} {n2 : Nat} {f2 : Nat → Int32} {x2 : Int32} {x3 : Int32} {x4 : Int32} {k15 : (Nat → Int32) → (Nat → Int32) → Int32 → Prop} {Z : (Nat → Int32) × (Nat → Int32) → Prop} {H : Heap} {locs : List Loc} {ls : Array Slot} (hc : zC p s m args meth c prog_9_method_6_code none 6 "NumberDress$Reader") (hA : ∀ q : Nat, s.heap.size ≤ q → A q) (hE : zE gE A s) (hk15 : ∀ (I0 : Nat → Int32) (I1 : Nat → Int32) (x3 : Int32) (H : Heap) (locs : List Loc) (ls : Array Slot), lv_has ls 6 [(0, .ref h0), (2, .int x2), (3, .int x3)] → va_K (dC, dI) zCl [(cA2, .char)] s → va_P (dC, dI) zCl [(h0, .inr (8, o_Reader I0 h2 a0_2 h1)), (h1, .inr (9, o_Section I1)), (h2, .inl (cA2, n2, .inl f2))] H → va_D A [(h0, .inr (8, o_Reader I0 h2 a0_2 h1)), (h1, .inr (9, o_Section I1)), (h2, .inl (cA2, n2, .inl f2))] → va_S A s.heap H locs → k15 I0 I1 x3 → W p l e (headSpec (Cond.code (⟨"NumberDress$Reader", "findKind", "(II)V"⟩ : MethodName) prog_9_method_6_code 6 none :: zT) { frames := 7, cells := 0, slots := 0, locals := 153 }).room s m args below meth c H locs 0 0 (MQ below (va_Qv Z (zB (dC, dI) zCl [(cA2, .char)] A (fun u : (Nat → Int32) × (Nat → Int32) => [(h0, .inr (8, o_Reader u.1 h2 a0_2 h1)), (h1, .inr (9, o_Section u.2)), (h2, .inl (cA2, n2, .inl f2))])) A) args s 0 0 A) (F0 m 15 ls [])) (hl : lv_has ls 6 [(0, .ref h0), (2, .int x2), (3, .int x3), (4, .int x4)]) (hK : va_K (dC, dI) zCl [(cA2, .char)] s) (hP : va_P (dC, dI) zCl [(h0, .inr (8, o_Reader I0 h2 a0_2 h1)), (h1, .inr (9, o_Section I1)), (h2, .inl (cA2, n2, .inl f2))] H) (hD : va_D A [(h0, .inr (8, o_Reader I0 h2 a0_2 h1)), (h1, .inr (9, o_Section I1)), (h2, .inl (cA2, n2, .inl f2))]) (hS : va_S A s.heap H locs) (hv : v_Reader_findKind_60 I0 I1 n2 f2 x2 x3 x4 k15 Z) : W p l e (headSpec (Cond.code (⟨"NumberDress$Reader", "findKind", "(II)V"⟩ : MethodName) prog_9_method_6_code 6 none :: zT) { frames := 7, cells := 0, slots := 0, locals := 153 }).room s m args below meth c H locs 0 0 (MQ below (va_Qv Z (zB (dC, dI) zCl [(cA2, .char)] A (fun u : (Nat → Int32) × (Nat → Int32) => [(h0, .inr (8, o_Reader u.1 h2 a0_2 h1)), (h1, .inr (9, o_Section u.2)), (h2, .inl (cA2, n2, .inl f2))])) A) args s 0 0 A) (F0 m 60 ls []) := by
  obtain ⟨hx, hb, hr, hml, hown, ht, hlocks⟩ := id hc
  unfold v_Reader_findKind_60 at hv
  refine lv_iload_n hx hb d_Reader_findKind_60 rfl (lv_at hl 2 rfl) ?_
  refine lv_iconst (v := (1 : Int32)) hx hb d_Reader_findKind_61 (by decide) ?_
  refine lv_iload hx hb d_Reader_findKind_62 (lv_at hl 3 rfl) ?_
  refine z_mmax hx hb (hml.trans hl.1.symm) hown (ht _ zw_656) (ht _ zw_615) (ht _ zw_128) (ht _ zw_616) (Nat.le_of_ble_eq_true rfl) (Nat.le_of_ble_eq_true rfl) (Nat.zero_le _) (Nat.zero_le _) d_Reader_findKind_64 ?_
  refine lv_iadd hx hb d_Reader_findKind_67 ?_
  refine lv_istore_n (lv' := [(3, .int (x3 + (zmax (1 : Int32) x4))), (0, .ref h0), (2, .int x2), (4, .int x4)]) hx hb d_Reader_findKind_68 rfl hl (by decide) rfl (fun ls hl => ?_)
  refine lv_goto (tgt := 15) hx hb d_Reader_findKind_69 (by decide) ?_
  exact hk15 I0 I1 (x3 + (zmax (1 : Int32) x4)) _ _ _ (lv_sub hl [1, 2, 0] rfl) hK hP hD hS hv
set_option maxHeartbeats 4000000 in
set_option maxRecDepth 100000 in
theorem b_Reader_findKind_37 {h0 : Nat} {a0_2 : Nat} {h1 : Nat} {h2 : Nat} {cA2 : ClassId} {I0 : Nat → Int32} {I1 : Nat → Int32} {n2 : Nat} {f2 : Nat → Int32} {x2 : Int32} {x3 : Int32} {x4 : Int32} {s0 : Int32} {k15 : (Nat → Int32) → (Nat → Int32) → Int32 → Prop} {Z : (Nat → Int32) × (Nat → Int32) → Prop} {H : Heap} {locs : List Loc} {ls : Array Slot} (hc : zC p s m args meth c prog_9_method_6_code none 6 "NumberDress$Reader") (hA : ∀ q : Nat, s.heap.size ≤ q → A q) (hE : zE gE A s) (hk15 : ∀ (I0 : Nat → Int32) (I1 : Nat → Int32) (x3 : Int32) (H : Heap) (locs : List Loc) (ls : Array Slot), lv_has ls 6 [(0, .ref h0), (2, .int x2), (3, .int x3)] → va_K (dC, dI) zCl [(cA2, .char)] s → va_P (dC, dI) zCl [(h0, .inr (8, o_Reader I0 h2 a0_2 h1)), (h1, .inr (9, o_Section I1)), (h2, .inl (cA2, n2, .inl f2))] H → va_D A [(h0, .inr (8, o_Reader I0 h2 a0_2 h1)), (h1, .inr (9, o_Section I1)), (h2, .inl (cA2, n2, .inl f2))] → va_S A s.heap H locs → k15 I0 I1 x3 → W p l e (headSpec (Cond.code (⟨"NumberDress$Reader", "findKind", "(II)V"⟩ : MethodName) prog_9_method_6_code 6 none :: zT) { frames := 7, cells := 0, slots := 0, locals := 153 }).room s m args below meth c H locs 0 0 (MQ below (va_Qv Z (zB (dC, dI) zCl [(cA2, .char)] A (fun u : (Nat → Int32) × (Nat → Int32) => [(h0, .inr (8, o_Reader u.1 h2 a0_2 h1)), (h1, .inr (9, o_Section u.2)), (h2, .inl (cA2, n2, .inl f2))])) A) args s 0 0 A) (F0 m 15 ls [])) (hl : lv_has ls 6 [(0, .ref h0), (2, .int x2), (3, .int x3), (4, .int x4)]) (hK : va_K (dC, dI) zCl [(cA2, .char)] s) (hP : va_P (dC, dI) zCl [(h0, .inr (8, o_Reader I0 h2 a0_2 h1)), (h1, .inr (9, o_Section I1)), (h2, .inl (cA2, n2, .inl f2))] H) (hD : va_D A [(h0, .inr (8, o_Reader I0 h2 a0_2 h1)), (h1, .inr (9, o_Section I1)), (h2, .inl (cA2, n2, .inl f2))]) (hS : va_S A s.heap H locs) (hv : v_Reader_findKind_37 I0 I1 n2 f2 x2 x3 x4 s0 k15 Z) : W p l e (headSpec (Cond.code (⟨"NumberDress$Reader", "findKind", "(II)V"⟩ : MethodName) prog_9_method_6_code 6 none :: zT) { frames := 7, cells := 0, slots := 0, locals := 153 }).room s m args below meth c H locs 0 0 (MQ below (va_Qv Z (zB (dC, dI) zCl [(cA2, .char)] A (fun u : (Nat → Int32) × (Nat → Int32) => [(h0, .inr (8, o_Reader u.1 h2 a0_2 h1)), (h1, .inr (9, o_Section u.2)), (h2, .inl (cA2, n2, .inl f2))])) A) args s 0 0 A) (F0 m 37 ls [.int s0]) := by
  obtain ⟨hx, hb, hr, hml, hown, ht, hlocks⟩ := id hc
  unfold v_Reader_findKind_37 at hv
  refine lv_istore (lv' := [(5, .int s0), (0, .ref h0), (2, .int x2), (3, .int x3), (4, .int x4)]) hx hb d_Reader_findKind_37 hl (by decide) rfl (fun ls hl => ?_)
  refine lv_iload hx hb d_Reader_findKind_39 (lv_at hl 0 rfl) ?_
  refine lv_iconst (v := (1 : Int32)) hx hb d_Reader_findKind_41 (by decide) ?_
  refine lv_icmp_eq (tgt := 60) hx hb d_Reader_findKind_42 (by decide) (fun c_1 => ?_) (fun c_1 => ?_)
  · have hv := hv.1 c_1
    exact b_Reader_findKind_60 hc hA hE hk15 (lv_sub hl [1, 2, 3, 4] rfl) hK hP hD hS hv
  · have hv := hv.2 c_1
    refine lv_aload_n hx hb d_Reader_findKind_45 rfl (lv_at hl 1 rfl) ?_
    refine va_get (D := (dC, dI)) (ci := 8) (v := .ref h1) (C := "NumberDress$Reader") (T := T_Reader) (N := 5) hx hb ht zin_Reader hown hK hP 0 rfl rfl 3 (by decide) (ht _ zw_274) (fun _ h9 => h9) rfl d_Reader_findKind_46 ?_
    refine lv_iload hx hb d_Reader_findKind_49 (lv_at hl 0 rfl) ?_
    refine va_put (D := (dC, dI)) (ci := 9) (v := .int s0) (ty := .int) (C := "NumberDress$Section") (T := T_Section) (N := 15) hx hb ht zin_Section ty_Section tyok_Section nm_Section hown hK hP hD hS 1 rfl rfl 0 (by decide) (ht _ zw_159) (fun _ h9 => h9) rfl (by decide +kernel) rfl rfl (Nat.le_of_ble_eq_true rfl) d_Reader_findKind_51 (fun H locs hP hD hS => ?_)
    have hP : va_P (dC, dI) zCl [(h0, .inr (8, o_Reader I0 h2 a0_2 h1)), (h1, .inr (9, o_Section (zu I1 0 s0))), (h2, .inl (cA2, n2, .inl f2))] H := hP
    have hD : va_D A [(h0, .inr (8, o_Reader I0 h2 a0_2 h1)), (h1, .inr (9, o_Section (zu I1 0 s0))), (h2, .inl (cA2, n2, .inl f2))] := hD
    refine lv_aload_n hx hb d_Reader_findKind_54 rfl (lv_at hl 1 rfl) ?_
    refine lv_iload_n hx hb d_Reader_findKind_55 rfl (lv_at hl 3 rfl) ?_
    refine va_put (D := (dC, dI)) (ci := 8) (v := .int x3) (ty := .int) (C := "NumberDress$Reader") (T := T_Reader) (N := 5) hx hb ht zin_Reader ty_Reader tyok_Reader nm_Reader hown hK hP hD hS 0 rfl rfl 4 (by decide) (ht _ zw_275) (fun _ h9 => h9) rfl (by decide +kernel) rfl rfl (Nat.le_of_ble_eq_true rfl) d_Reader_findKind_56 (fun H locs hP hD hS => ?_)
    have hP : va_P (dC, dI) zCl [(h0, .inr (8, o_Reader (zu I0 4 x3) h2 a0_2 h1)), (h1, .inr (9, o_Section (zu I1 0 s0))), (h2, .inl (cA2, n2, .inl f2))] H := hP
    have hD : va_D A [(h0, .inr (8, o_Reader (zu I0 4 x3) h2 a0_2 h1)), (h1, .inr (9, o_Section (zu I1 0 s0))), (h2, .inl (cA2, n2, .inl f2))] := hD
    exact W.vret hx hb hr (fun t ht hW => ⟨⟨((zu I0 4 x3), (zu I1 0 s0)), rfl, hv, ⟨by rw [ht]; exact hP, va_K.moved hW.alike hK, hD⟩⟩, hS.F ht⟩) hS.2.2 d_Reader_findKind_59
set_option maxHeartbeats 4000000 in
set_option maxRecDepth 100000 in
theorem b_Reader_findKind_25 {h0 : Nat} {a0_2 : Nat} {h1 : Nat} {h2 : Nat} {cA2 : ClassId} {I0 : Nat → Int32} {I1 : Nat → Int32} {n2 : Nat} {f2 : Nat → Int32} {x2 : Int32} {x3 : Int32} {s0 : Int32} {k15 : (Nat → Int32) → (Nat → Int32) → Int32 → Prop} {Z : (Nat → Int32) × (Nat → Int32) → Prop} {H : Heap} {locs : List Loc} {ls : Array Slot} (hc : zC p s m args meth c prog_9_method_6_code none 6 "NumberDress$Reader") (hA : ∀ q : Nat, s.heap.size ≤ q → A q) (hE : zE gE A s) (hk15 : ∀ (I0 : Nat → Int32) (I1 : Nat → Int32) (x3 : Int32) (H : Heap) (locs : List Loc) (ls : Array Slot), lv_has ls 6 [(0, .ref h0), (2, .int x2), (3, .int x3)] → va_K (dC, dI) zCl [(cA2, .char)] s → va_P (dC, dI) zCl [(h0, .inr (8, o_Reader I0 h2 a0_2 h1)), (h1, .inr (9, o_Section I1)), (h2, .inl (cA2, n2, .inl f2))] H → va_D A [(h0, .inr (8, o_Reader I0 h2 a0_2 h1)), (h1, .inr (9, o_Section I1)), (h2, .inl (cA2, n2, .inl f2))] → va_S A s.heap H locs → k15 I0 I1 x3 → W p l e (headSpec (Cond.code (⟨"NumberDress$Reader", "findKind", "(II)V"⟩ : MethodName) prog_9_method_6_code 6 none :: zT) { frames := 7, cells := 0, slots := 0, locals := 153 }).room s m args below meth c H locs 0 0 (MQ below (va_Qv Z (zB (dC, dI) zCl [(cA2, .char)] A (fun u : (Nat → Int32) × (Nat → Int32) => [(h0, .inr (8, o_Reader u.1 h2 a0_2 h1)), (h1, .inr (9, o_Section u.2)), (h2, .inl (cA2, n2, .inl f2))])) A) args s 0 0 A) (F0 m 15 ls [])) (hl : lv_has ls 6 [(0, .ref h0), (2, .int x2), (3, .int x3)]) (hK : va_K (dC, dI) zCl [(cA2, .char)] s) (hP : va_P (dC, dI) zCl [(h0, .inr (8, o_Reader I0 h2 a0_2 h1)), (h1, .inr (9, o_Section I1)), (h2, .inl (cA2, n2, .inl f2))] H) (hD : va_D A [(h0, .inr (8, o_Reader I0 h2 a0_2 h1)), (h1, .inr (9, o_Section I1)), (h2, .inl (cA2, n2, .inl f2))]) (hS : va_S A s.heap H locs) (hv : v_Reader_findKind_25 I0 I1 n2 f2 x2 x3 s0 k15 Z) : W p l e (headSpec (Cond.code (⟨"NumberDress$Reader", "findKind", "(II)V"⟩ : MethodName) prog_9_method_6_code 6 none :: zT) { frames := 7, cells := 0, slots := 0, locals := 153 }).room s m args below meth c H locs 0 0 (MQ below (va_Qv Z (zB (dC, dI) zCl [(cA2, .char)] A (fun u : (Nat → Int32) × (Nat → Int32) => [(h0, .inr (8, o_Reader u.1 h2 a0_2 h1)), (h1, .inr (9, o_Section u.2)), (h2, .inl (cA2, n2, .inl f2))])) A) args s 0 0 A) (F0 m 25 ls [.int s0]) := by
  obtain ⟨hx, hb, hr, hml, hown, ht, hlocks⟩ := id hc
  unfold v_Reader_findKind_25 at hv
  refine lv_istore (lv' := [(4, .int s0), (0, .ref h0), (2, .int x2), (3, .int x3)]) hx hb d_Reader_findKind_25 hl (by decide) rfl (fun ls hl => ?_)
  refine lv_iload hx hb d_Reader_findKind_27 (lv_at hl 0 rfl) ?_
  refine lv_if_ne (tgt := 60) hx hb d_Reader_findKind_29 (by decide) (fun c_1 => ?_) (fun c_1 => ?_)
  · have hv := hv.1 c_1
    exact b_Reader_findKind_60 hc hA hE hk15 (lv_sub hl [1, 2, 3, 0] rfl) hK hP hD hS hv
  · have hv := hv.2 c_1
    refine lv_aload_n hx hb d_Reader_findKind_32 rfl (lv_at hl 1 rfl) ?_
    refine lv_iload_n hx hb d_Reader_findKind_33 rfl (lv_at hl 3 rfl) ?_
    refine z_calli (wc := [(h0, .inr (8, o_Reader I0 h2 a0_2 h1)), (h2, .inl (cA2, n2, .inl f2))]) (wr := [(h1, .inr (9, o_Section I1))]) [0, 2] [1] (va_runV (As := [.int x3]) (rest := []) ⟨hx, hb, hml, hown, ht⟩ (m_Reader_kindMadeAt l dC dI hv) ⟨(callB_of 1 ht (zG_in zi_Reader_kindMadeAt) rfl rfl rfl (ht _ zw_113) (ht _ zw_674) zh_Reader_kindMadeAt ⟨Nat.le_of_ble_eq_true rfl, Nat.le_of_ble_eq_true rfl⟩), (ht _ zw_676), (ht _ zw_9)⟩ ⟨zPc_blind, va_recv hK hP (ci := 8) (q0 := 0) rfl rfl, zPc_pre hP hK hD hS hA hE [0, 2] [0] rfl rfl (by decide) rfl⟩ rfl rfl hl.1 rfl (lv_room (Nat.le_of_ble_eq_true rfl)) d_Reader_findKind_34 ⟨Nat.le_of_ble_eq_true rfl, Nat.le_of_ble_eq_true rfl⟩) hP hD hS hA rfl rfl (by decide) (by decide) (fun r u H locs hv hP hD hS => ?_)
    have hP : va_P (dC, dI) zCl [(h0, .inr (8, o_Reader I0 h2 a0_2 h1)), (h1, .inr (9, o_Section I1)), (h2, .inl (cA2, n2, .inl f2))] H := hP.sub [1, 0, 2] rfl
    have hD : va_D A [(h0, .inr (8, o_Reader I0 h2 a0_2 h1)), (h1, .inr (9, o_Section I1)), (h2, .inl (cA2, n2, .inl f2))] := hD.sub [1, 0, 2] (by decide) rfl
    exact b_Reader_findKind_37 hc hA hE hk15 (lv_sub hl [1, 2, 3, 0] rfl) hK hP hD hS hv
set_option maxHeartbeats 4000000 in
set_option maxRecDepth 100000 in
theorem b_Reader_findKind_15 {h0 : Nat} {a0_2 : Nat} {h1 : Nat} {h2 : Nat} {cA2 : ClassId} {n2 : Nat} {f2 : Nat → Int32} {x2 : Int32}  {Z : (Nat → Int32) × (Nat → Int32) → Prop} (hc : zC p s m args meth c prog_9_method_6_code none 6 "NumberDress$Reader") (hA : ∀ q : Nat, s.heap.size ≤ q → A q) (hE : zE gE A s) : ∀ (N : Nat) (I0 : Nat → Int32) (I1 : Nat → Int32) (x3 : Int32) (H : Heap) (locs : List Loc) (ls : Array Slot), lv_has ls 6 [(0, .ref h0), (2, .int x2), (3, .int x3)] → va_K (dC, dI) zCl [(cA2, .char)] s → va_P (dC, dI) zCl [(h0, .inr (8, o_Reader I0 h2 a0_2 h1)), (h1, .inr (9, o_Section I1)), (h2, .inl (cA2, n2, .inl f2))] H → va_D A [(h0, .inr (8, o_Reader I0 h2 a0_2 h1)), (h1, .inr (9, o_Section I1)), (h2, .inl (cA2, n2, .inl f2))] → va_S A s.heap H locs → v_Reader_findKind_15 n2 f2 x2  Z N I0 I1 x3 → W p l e (headSpec (Cond.code (⟨"NumberDress$Reader", "findKind", "(II)V"⟩ : MethodName) prog_9_method_6_code 6 none :: zT) { frames := 7, cells := 0, slots := 0, locals := 153 }).room s m args below meth c H locs 0 0 (MQ below (va_Qv Z (zB (dC, dI) zCl [(cA2, .char)] A (fun u : (Nat → Int32) × (Nat → Int32) => [(h0, .inr (8, o_Reader u.1 h2 a0_2 h1)), (h1, .inr (9, o_Section u.2)), (h2, .inl (cA2, n2, .inl f2))])) A) args s 0 0 A) (F0 m 15 ls []) := by
  obtain ⟨hx, hb, hr, hml, hown, ht, hlocks⟩ := id hc
  intro N
  induction N with
  | zero => intro I0 I1 x3 H locs ls hl hK hP hD hS hv; exact hv.elim
  | succ N hk15 =>
    intro I0 I1 x3 H locs ls hl hK hP hD hS hv
    unfold v_Reader_findKind_15 at hv
    refine lv_iload_n hx hb d_Reader_findKind_15 rfl (lv_at hl 2 rfl) ?_
    refine lv_iload_n hx hb d_Reader_findKind_16 rfl (lv_at hl 1 rfl) ?_
    refine lv_icmp_ge (tgt := 72) hx hb d_Reader_findKind_17 (by decide) (fun c_1 => ?_) (fun c_1 => ?_)
    · have hv := hv.1 c_1
      exact W.vret hx hb hr (fun t ht hW => ⟨⟨(I0, I1), rfl, hv, ⟨by rw [ht]; exact hP, va_K.moved hW.alike hK, hD⟩⟩, hS.F ht⟩) hS.2.2 d_Reader_findKind_72
    · have hv := hv.2 c_1
      refine lv_aload_n hx hb d_Reader_findKind_20 rfl (lv_at hl 0 rfl) ?_
      refine lv_iload_n hx hb d_Reader_findKind_21 rfl (lv_at hl 2 rfl) ?_
      refine z_calli (wc := [(h0, .inr (8, o_Reader I0 h2 a0_2 h1)), (h2, .inl (cA2, n2, .inl f2))]) (wr := [(h1, .inr (9, o_Section I1))]) [0, 2] [1] (va_runV (As := [.int x3]) (rest := []) ⟨hx, hb, hml, hown, ht⟩ (m_Reader_commonLength l dC dI hv) ⟨(callB_of 1 ht (zG_in zi_Reader_commonLength) rfl rfl rfl (ht _ zw_113) (ht _ zw_516) zh_Reader_commonLength ⟨Nat.le_of_ble_eq_true rfl, Nat.le_of_ble_eq_true rfl⟩), (ht _ zw_518), (ht _ zw_2)⟩ ⟨zPc_blind, va_recv hK hP (ci := 8) (q0 := 0) rfl rfl, zPc_pre hP hK hD hS hA hE [0, 2] [0] rfl rfl (by decide) rfl⟩ rfl rfl hl.1 rfl (lv_room (Nat.le_of_ble_eq_true rfl)) d_Reader_findKind_22 ⟨Nat.le_of_ble_eq_true rfl, Nat.le_of_ble_eq_true rfl⟩) hP hD hS hA rfl rfl (by decide) (by decide) (fun r u H locs hv hP hD hS => ?_)
      have hP : va_P (dC, dI) zCl [(h0, .inr (8, o_Reader I0 h2 a0_2 h1)), (h1, .inr (9, o_Section I1)), (h2, .inl (cA2, n2, .inl f2))] H := hP.sub [1, 0, 2] rfl
      have hD : va_D A [(h0, .inr (8, o_Reader I0 h2 a0_2 h1)), (h1, .inr (9, o_Section I1)), (h2, .inl (cA2, n2, .inl f2))] := hD.sub [1, 0, 2] (by decide) rfl
      exact b_Reader_findKind_25 hc hA hE hk15 (lv_sub hl [0, 1, 2] rfl) hK hP hD hS hv
set_option maxHeartbeats 4000000 in
set_option maxRecDepth 100000 in
theorem b_Reader_findKind_0 {h0 : Nat} {a0_2 : Nat} {h1 : Nat} {h2 : Nat} {cA2 : ClassId} {I0 : Nat → Int32} {I1 : Nat → Int32} {n2 : Nat} {f2 : Nat → Int32} {x1 : Int32} {x2 : Int32}  {Z : (Nat → Int32) × (Nat → Int32) → Prop} {H : Heap} {locs : List Loc} {ls : Array Slot} (hc : zC p s m args meth c prog_9_method_6_code none 6 "NumberDress$Reader") (hA : ∀ q : Nat, s.heap.size ≤ q → A q) (hE : zE gE A s) (hl : lv_has ls 6 [(0, .ref h0), (1, .int x1), (2, .int x2)]) (hK : va_K (dC, dI) zCl [(cA2, .char)] s) (hP : va_P (dC, dI) zCl [(h0, .inr (8, o_Reader I0 h2 a0_2 h1)), (h1, .inr (9, o_Section I1)), (h2, .inl (cA2, n2, .inl f2))] H) (hD : va_D A [(h0, .inr (8, o_Reader I0 h2 a0_2 h1)), (h1, .inr (9, o_Section I1)), (h2, .inl (cA2, n2, .inl f2))]) (hS : va_S A s.heap H locs) (hv : v_Reader_findKind_0 I0 I1 n2 f2 x1 x2  Z) : W p l e (headSpec (Cond.code (⟨"NumberDress$Reader", "findKind", "(II)V"⟩ : MethodName) prog_9_method_6_code 6 none :: zT) { frames := 7, cells := 0, slots := 0, locals := 153 }).room s m args below meth c H locs 0 0 (MQ below (va_Qv Z (zB (dC, dI) zCl [(cA2, .char)] A (fun u : (Nat → Int32) × (Nat → Int32) => [(h0, .inr (8, o_Reader u.1 h2 a0_2 h1)), (h1, .inr (9, o_Section u.2)), (h2, .inl (cA2, n2, .inl f2))])) A) args s 0 0 A) (F0 m 0 ls []) := by
  obtain ⟨hx, hb, hr, hml, hown, ht, hlocks⟩ := id hc
  unfold v_Reader_findKind_0 at hv
  refine lv_aload_n hx hb d_Reader_findKind_0 rfl (lv_at hl 0 rfl) ?_
  refine va_get (D := (dC, dI)) (ci := 8) (v := .ref h1) (C := "NumberDress$Reader") (T := T_Reader) (N := 5) hx hb ht zin_Reader hown hK hP 0 rfl rfl 3 (by decide) (ht _ zw_274) (fun _ h9 => h9) rfl d_Reader_findKind_1 ?_
  refine lv_iconst (v := (1 : Int32)) hx hb d_Reader_findKind_4 (by decide) ?_
  refine va_put (D := (dC, dI)) (ci := 9) (v := .int (1 : Int32)) (ty := .int) (C := "NumberDress$Section") (T := T_Section) (N := 15) hx hb ht zin_Section ty_Section tyok_Section nm_Section hown hK hP hD hS 1 rfl rfl 0 (by decide) (ht _ zw_159) (fun _ h9 => h9) rfl (by decide +kernel) rfl rfl (Nat.le_of_ble_eq_true rfl) d_Reader_findKind_5 (fun H locs hP hD hS => ?_)
  have hP : va_P (dC, dI) zCl [(h0, .inr (8, o_Reader I0 h2 a0_2 h1)), (h1, .inr (9, o_Section (zu I1 0 (1 : Int32)))), (h2, .inl (cA2, n2, .inl f2))] H := hP
  have hD : va_D A [(h0, .inr (8, o_Reader I0 h2 a0_2 h1)), (h1, .inr (9, o_Section (zu I1 0 (1 : Int32)))), (h2, .inl (cA2, n2, .inl f2))] := hD
  refine lv_aload_n hx hb d_Reader_findKind_8 rfl (lv_at hl 0 rfl) ?_
  refine lv_iload_n hx hb d_Reader_findKind_9 rfl (lv_at hl 2 rfl) ?_
  refine va_put (D := (dC, dI)) (ci := 8) (v := .int x2) (ty := .int) (C := "NumberDress$Reader") (T := T_Reader) (N := 5) hx hb ht zin_Reader ty_Reader tyok_Reader nm_Reader hown hK hP hD hS 0 rfl rfl 4 (by decide) (ht _ zw_275) (fun _ h9 => h9) rfl (by decide +kernel) rfl rfl (Nat.le_of_ble_eq_true rfl) d_Reader_findKind_10 (fun H locs hP hD hS => ?_)
  have hP : va_P (dC, dI) zCl [(h0, .inr (8, o_Reader (zu I0 4 x2) h2 a0_2 h1)), (h1, .inr (9, o_Section (zu I1 0 (1 : Int32)))), (h2, .inl (cA2, n2, .inl f2))] H := hP
  have hD : va_D A [(h0, .inr (8, o_Reader (zu I0 4 x2) h2 a0_2 h1)), (h1, .inr (9, o_Section (zu I1 0 (1 : Int32)))), (h2, .inl (cA2, n2, .inl f2))] := hD
  refine lv_iload_n hx hb d_Reader_findKind_13 rfl (lv_at hl 1 rfl) ?_
  refine lv_istore_n (lv' := [(3, .int x1), (0, .ref h0), (1, .int x1), (2, .int x2)]) hx hb d_Reader_findKind_14 rfl hl (by decide) rfl (fun ls hl => ?_)
  obtain ⟨Nx, hv⟩ := hv
  exact b_Reader_findKind_15 hc hA hE  Nx (zu I0 4 x2) (zu I1 0 (1 : Int32)) x1 _ _ _ (lv_sub hl [1, 3, 0] rfl) hK hP hD hS hv
theorem zi_Reader_findKind : Cond.code (⟨"NumberDress$Reader", "findKind", "(II)V"⟩ : MethodName) prog_9_method_6_code 6 none ∈ zT := zw_673
theorem zh_Reader_findKind : (((⟨"NumberDress$Reader", "findKind", "(II)V"⟩ : MethodName)).cls ≠ "java/lang/invoke/MethodHandle" ∧ ((⟨"NumberDress$Reader", "findKind", "(II)V"⟩ : MethodName)).cls ≠ "java/lang/invoke/VarHandle" ∧ (parseMethodDescriptor ((⟨"NumberDress$Reader", "findKind", "(II)V"⟩ : MethodName)).desc).map (fun d => d.parameters.length) = some 2) := by decide +kernel
set_option maxHeartbeats 4000000 in
set_option maxRecDepth 100000 in
theorem m_Reader_findKind (l : Launch) (dC : Nat → ClassId) (dI : Nat → Nat → Nat) {gE : zG} {h0 : Nat} {a0_2 : Nat} {h1 : Nat} {h2 : Nat} {cA2 : ClassId} {I0 : Nat → Int32} {I1 : Nat → Int32} {n2 : Nat} {f2 : Nat → Int32} {x1 : Int32} {x2 : Int32} {sz : Nat} {Z : (Nat → Int32) × (Nat → Int32) → Prop} (hv : v_Reader_findKind_0 I0 I1 n2 f2 x1 x2 Z) : Met l (⟨"NumberDress$Reader", "findKind", "(II)V"⟩ : MethodName) (Cond.code (⟨"NumberDress$Reader", "findKind", "(II)V"⟩ : MethodName) prog_9_method_6_code 6 none :: zT) { frames := 7, cells := 0, slots := 0, locals := 153 } (zPc gE (dC, dI) zCl [(cA2, .char)] [.ref h0, .int x1, .int x2] sz [(h0, .inr (8, o_Reader I0 h2 a0_2 h1)), (h1, .inr (9, o_Section I1)), (h2, .inl (cA2, n2, .inl f2))]) (va_Qv Z (zB (dC, dI) zCl [(cA2, .char)] (va_A [(h0, .inr (8, o_Reader I0 h2 a0_2 h1)), (h1, .inr (9, o_Section I1)), (h2, .inl (cA2, n2, .inl f2))] sz) (fun u : (Nat → Int32) × (Nat → Int32) => [(h0, .inr (8, o_Reader u.1 h2 a0_2 h1)), (h1, .inr (9, o_Section u.2)), (h2, .inl (cA2, n2, .inl f2))])) (va_A [(h0, .inr (8, o_Reader I0 h2 a0_2 h1)), (h1, .inr (9, o_Section I1)), (h2, .inl (cA2, n2, .inl f2))] sz)) 0 0 (va_A [(h0, .inr (8, o_Reader I0 h2 a0_2 h1)), (h1, .inr (9, o_Section I1)), (h2, .inl (cA2, n2, .inl f2))] sz) := by
  refine Met.ofW (cc := prog_9_method_6_code) (maxL := 6) (ret := none) (by decide +kernel) rfl ?_
  intro p e s m args below meth c s₁ B hml hp
  obtain ⟨rfl, hsz, hP, hK, hD0, hE⟩ := hp
  have hts := atoms_spec (ws := (Cond.code (⟨"NumberDress$Reader", "findKind", "(II)V"⟩ : MethodName) prog_9_method_6_code 6 none :: zT)) B.pre
  have hown : s.vm.findClass "NumberDress$Reader" = some m.cls := findClass_of_methodNamed B.named
  have hc : zC p s m _ meth c prog_9_method_6_code none 6 "NumberDress$Reader" := ⟨B.exec, B.bytes, B.returns, hml, hown, fun w h => hts w (List.mem_cons_of_mem _ h), B.notSynchronized⟩
  subst hsz
  have hD := hD0.self (sz := s.heap.size)
  generalize hAe : va_A [(h0, .inr (8, o_Reader I0 h2 a0_2 h1)), (h1, .inr (9, o_Section I1)), (h2, .inl (cA2, n2, .inl f2))] s.heap.size = A at hD hE ⊢
  have hA : ∀ q : Nat, s.heap.size ≤ q → A q := fun q h => by rw [← hAe]; exact Or.inr h
  have hl := lv_entry ([.ref h0, .int x1, .int x2]) (n := 6) (Nat.le_of_ble_eq_true rfl)
  rw [lg_entry_eq]
  exact b_Reader_findKind_0 hc hA hE hl hK hP hD va_S.rf hv
end
