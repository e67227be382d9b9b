section
variable {p : Program} {l : Launch} {e : Env} {s : State} {m : MethodId} {args : Array Value} {below : List Frame} {meth : Method} {c : Code} {dC : Nat → ClassId} {dI : Nat → Nat → Nat} {A : Nat → Prop} {gE : zG}
theorem d_Reader_isPlace_0 : decode prog_9_method_40_code 0 = .ok (.iload_n 0, 1) := by decide +kernel
theorem d_Reader_isPlace_1 : decode prog_9_method_40_code 1 = .ok (.bipush 48, 2) := by decide +kernel
theorem d_Reader_isPlace_3 : decode prog_9_method_40_code 3 = .ok (.if_icmp .eq 15, 3) := by decide +kernel
theorem d_Reader_isPlace_6 : decode prog_9_method_40_code 6 = .ok (.iload_n 0, 1) := by decide +kernel
theorem d_Reader_isPlace_7 : decode prog_9_method_40_code 7 = .ok (.bipush 35, 2) := by decide +kernel
theorem d_Reader_isPlace_9 : decode prog_9_method_40_code 9 = .ok (.if_icmp .eq 9, 3) := by decide +kernel
theorem d_Reader_isPlace_12 : decode prog_9_method_40_code 12 = .ok (.iload_n 0, 1) := by decide +kernel
theorem d_Reader_isPlace_13 : decode prog_9_method_40_code 13 = .ok (.bipush 63, 2) := by decide +kernel
theorem d_Reader_isPlace_15 : decode prog_9_method_40_code 15 = .ok (.if_icmp .ne 7, 3) := by decide +kernel
theorem d_Reader_isPlace_18 : decode prog_9_method_40_code 18 = .ok (.iconst 1, 1) := by decide +kernel
theorem d_Reader_isPlace_19 : decode prog_9_method_40_code 19 = .ok (.goto 4, 3) := by decide +kernel
theorem d_Reader_isPlace_22 : decode prog_9_method_40_code 22 = .ok (.iconst 0, 1) := by decide +kernel
theorem d_Reader_isPlace_23 : decode prog_9_method_40_code 23 = .ok (.ireturn, 1) := by decide +kernel
def v_Reader_isPlace_0 (x0 : Int32)  (Z : Int32 → Unit → Prop) : Prop :=
  ((x0 = (48 : Int32) → (Z (1 : Int32) ())) ∧ (¬ x0 = (48 : Int32) → ((x0 = (35 : Int32) → (Z (1 : Int32) ())) ∧ (¬ x0 = (35 : Int32) → ((¬ x0 = (63 : Int32) → (Z (0 : Int32) ())) ∧ (x0 = (63 : Int32) → (Z (1 : Int32) ())))))))
set_option maxHeartbeats 4000000 in
set_option maxRecDepth 100000 in
theorem b_Reader_isPlace_0  {x0 : Int32}  {Z : Int32 → Unit → Prop} {H : Heap} {locs : List Loc} {ls : Array Slot} (hc : zC p s m args meth c prog_9_method_40_code (some .boolean) 1 "NumberDress$Reader") (hA : ∀ q : Nat, s.heap.size ≤ q → A q) (hE : zE gE A s) (hl : lv_has ls 1 [(0, .int x0)]) (hK : va_K (dC, dI) zCl [] s) (hP : va_P (dC, dI) zCl [] H) (hD : va_D A []) (hS : va_S A s.heap H locs) (hv : v_Reader_isPlace_0 x0  Z) : W p l e (headSpec (Cond.code (⟨"NumberDress$Reader", "isPlace", "(C)Z"⟩ : MethodName) prog_9_method_40_code 1 (some .boolean) :: zT) { frames := 0, cells := 0, slots := 0, locals := 0 }).room s m args below meth c H locs 0 0 (MQ below (va_Qi Z (zB (dC, dI) zCl [] A (fun u : Unit => [])) A) args s 0 0 A) (F0 m 0 ls []) := by
  obtain ⟨hx, hb, hr, hml, hown, ht, hlocks⟩ := id hc
  unfold v_Reader_isPlace_0 at hv
  refine lv_iload_n hx hb d_Reader_isPlace_0 rfl (lv_at hl 0 rfl) ?_
  refine lv_bipush (v := (48 : Int32)) hx hb d_Reader_isPlace_1 (by decide) ?_
  refine lv_icmp_eq (tgt := 18) hx hb d_Reader_isPlace_3 (by decide) (fun c_1 => ?_) (fun c_1 => ?_)
  · have hv := hv.1 c_1
    refine lv_iconst (v := (1 : Int32)) hx hb d_Reader_isPlace_18 (by decide) ?_
    refine lv_goto (tgt := 23) hx hb d_Reader_isPlace_19 (by decide) ?_
    exact W.zret (v := (1 : Int32)) hx hb hr (by decide) (fun t ht hW => ⟨⟨_, (), rfl, hv, ⟨by rw [ht]; exact hP, va_K.moved hW.alike hK, hD⟩⟩, hS.F ht⟩) hS.2.2 d_Reader_isPlace_23
  · have hv := hv.2 c_1
    refine lv_iload_n hx hb d_Reader_isPlace_6 rfl (lv_at hl 0 rfl) ?_
    refine lv_bipush (v := (35 : Int32)) hx hb d_Reader_isPlace_7 (by decide) ?_
    refine lv_icmp_eq (tgt := 18) hx hb d_Reader_isPlace_9 (by decide) (fun c_2 => ?_) (fun c_2 => ?_)
    · have hv := hv.1 c_2
      refine lv_iconst (v := (1 : Int32)) hx hb d_Reader_isPlace_18 (by decide) ?_
      refine lv_goto (tgt := 23) hx hb d_Reader_isPlace_19 (by decide) ?_
      exact W.zret (v := (1 : Int32)) hx hb hr (by decide) (fun t ht hW => ⟨⟨_, (), rfl, hv, ⟨by rw [ht]; exact hP, va_K.moved hW.alike hK, hD⟩⟩, hS.F ht⟩) hS.2.2 d_Reader_isPlace_23
    · have hv := hv.2 c_2
      refine lv_iload_n hx hb d_Reader_isPlace_12 rfl (lv_at hl 0 rfl) ?_
      refine lv_bipush (v := (63 : Int32)) hx hb d_Reader_isPlace_13 (by decide) ?_
      refine lv_icmp_ne (tgt := 22) hx hb d_Reader_isPlace_15 (by decide) (fun c_3 => ?_) (fun c_3 => ?_)
      · have hv := hv.1 c_3
        refine lv_iconst (v := (0 : Int32)) hx hb d_Reader_isPlace_22 (by decide) ?_
        exact W.zret (v := (0 : Int32)) hx hb hr (by decide) (fun t ht hW => ⟨⟨_, (), rfl, hv, ⟨by rw [ht]; exact hP, va_K.moved hW.alike hK, hD⟩⟩, hS.F ht⟩) hS.2.2 d_Reader_isPlace_23
      · have hv := hv.2 c_3
        refine lv_iconst (v := (1 : Int32)) hx hb d_Reader_isPlace_18 (by decide) ?_
        refine lv_goto (tgt := 23) hx hb d_Reader_isPlace_19 (by decide) ?_
        exact W.zret (v := (1 : Int32)) hx hb hr (by decide) (fun t ht hW => ⟨⟨_, (), rfl, hv, ⟨by rw [ht]; exact hP, va_K.moved hW.alike hK, hD⟩⟩, hS.F ht⟩) hS.2.2 d_Reader_isPlace_23
theorem zi_Reader_isPlace : Cond.code (⟨"NumberDress$Reader", "isPlace", "(C)Z"⟩ : MethodName) prog_9_method_40_code 1 (some .boolean) ∈ zT := zw_680
theorem zh_Reader_isPlace : (((⟨"NumberDress$Reader", "isPlace", "(C)Z"⟩ : MethodName)).cls ≠ "java/lang/invoke/MethodHandle" ∧ ((⟨"NumberDress$Reader", "isPlace", "(C)Z"⟩ : MethodName)).cls ≠ "java/lang/invoke/VarHandle" ∧ (parseMethodDescriptor ((⟨"NumberDress$Reader", "isPlace", "(C)Z"⟩ : MethodName)).desc).map (fun d => d.parameters.length) = some 1) := by decide +kernel
set_option maxHeartbeats 4000000 in
set_option maxRecDepth 100000 in
theorem m_Reader_isPlace (l : Launch) (dC : Nat → ClassId) (dI : Nat → Nat → Nat) {gE : zG}  {x0 : Int32} {sz : Nat} {Z : Int32 → Unit → Prop} (hv : v_Reader_isPlace_0 x0 Z) : Met l (⟨"NumberDress$Reader", "isPlace", "(C)Z"⟩ : MethodName) (Cond.code (⟨"NumberDress$Reader", "isPlace", "(C)Z"⟩ : MethodName) prog_9_method_40_code 1 (some .boolean) :: zT) { frames := 0, cells := 0, slots := 0, locals := 0 } (zPc gE (dC, dI) zCl [] [.int x0] sz []) (va_Qi Z (zB (dC, dI) zCl [] (va_A [] sz) (fun u : Unit => [])) (va_A [] sz)) 0 0 (va_A [] sz) := by
  refine Met.ofW (cc := prog_9_method_40_code) (maxL := 1) (ret := (some .boolean)) (by decide) rfl ?_
  intro p e s m args below meth c s₁ B hml hp
  obtain ⟨rfl, hsz, hP, hK, hD0, hE⟩ := hp
  have hts := atoms_spec (ws := (Cond.code (⟨"NumberDress$Reader", "isPlace", "(C)Z"⟩ : MethodName) prog_9_method_40_code 1 (some .boolean) :: zT)) B.pre
  have hown : s.vm.findClass "NumberDress$Reader" = some m.cls := findClass_of_methodNamed B.named
  have hc : zC p s m _ meth c prog_9_method_40_code (some .boolean) 1 "NumberDress$Reader" := ⟨B.exec, B.bytes, B.returns, hml, hown, fun w h => hts w (List.mem_cons_of_mem _ h), B.notSynchronized⟩
  subst hsz
  have hD := hD0.self (sz := s.heap.size)
  generalize hAe : va_A [] s.heap.size = A at hD hE ⊢
  have hA : ∀ q : Nat, s.heap.size ≤ q → A q := fun q h => by rw [← hAe]; exact Or.inr h
  have hl := lv_entry ([.int x0]) (n := 1) (Nat.le_of_ble_eq_true rfl)
  rw [lg_entry_eq]
  exact b_Reader_isPlace_0 hc hA hE hl hK hP hD va_S.rf hv
theorem d_Reader_sign_0 : decode prog_9_method_34_code 0 = .ok (.iload_n 1, 1) := by decide +kernel
theorem d_Reader_sign_1 : decode prog_9_method_34_code 1 = .ok (.ifCond .lt 29, 3) := by decide +kernel
theorem d_Reader_sign_4 : decode prog_9_method_34_code 4 = .ok (.iload_n 1, 1) := by decide +kernel
theorem d_Reader_sign_5 : decode prog_9_method_34_code 5 = .ok (.aload_n 0, 1) := by decide +kernel
theorem d_Reader_sign_6 : decode prog_9_method_34_code 6 = .ok (.getfield 35, 3) := by decide +kernel
theorem d_Reader_sign_9 : decode prog_9_method_34_code 9 = .ok (.if_icmp .ge 21, 3) := by decide +kernel
theorem d_Reader_sign_12 : decode prog_9_method_34_code 12 = .ok (.iload_n 1, 1) := by decide +kernel
theorem d_Reader_sign_13 : decode prog_9_method_34_code 13 = .ok (.aload_n 0, 1) := by decide +kernel
theorem d_Reader_sign_14 : decode prog_9_method_34_code 14 = .ok (.getfield 9, 3) := by decide +kernel
theorem d_Reader_sign_17 : decode prog_9_method_34_code 17 = .ok (.arraylength, 1) := by decide +kernel
theorem d_Reader_sign_18 : decode prog_9_method_34_code 18 = .ok (.if_icmp .ge 12, 3) := by decide +kernel
theorem d_Reader_sign_21 : decode prog_9_method_34_code 21 = .ok (.aload_n 0, 1) := by decide +kernel
theorem d_Reader_sign_22 : decode prog_9_method_34_code 22 = .ok (.getfield 9, 3) := by decide +kernel
theorem d_Reader_sign_25 : decode prog_9_method_34_code 25 = .ok (.iload_n 1, 1) := by decide +kernel
theorem d_Reader_sign_26 : decode prog_9_method_34_code 26 = .ok (.caload, 1) := by decide +kernel
theorem d_Reader_sign_27 : decode prog_9_method_34_code 27 = .ok (.goto 4, 3) := by decide +kernel
theorem d_Reader_sign_30 : decode prog_9_method_34_code 30 = .ok (.iconst 0, 1) := by decide +kernel
theorem d_Reader_sign_31 : decode prog_9_method_34_code 31 = .ok (.ireturn, 1) := by decide +kernel
def v_Reader_sign_0 (I0 : Nat → Int32) (n1 : Nat) (f1 : Nat → Int32) (x1 : Int32)  (Z : Int32 → Unit → Prop) : Prop :=
  ((x1 < 0 → (zc (0 : Int32) ∧ Z (0 : Int32) ())) ∧ (¬ x1 < 0 → (((I0 1) ≤ x1 → (zc (0 : Int32) ∧ Z (0 : Int32) ())) ∧ (¬ (I0 1) ≤ x1 → (((nI n1) ≤ x1 → (zc (0 : Int32) ∧ Z (0 : Int32) ())) ∧ (¬ (nI n1) ≤ x1 → (vp_in x1 n1 ∧ (zc (f1 x1.toNatClampNeg) ∧ Z (f1 x1.toNatClampNeg) ()))))))))
set_option maxHeartbeats 4000000 in
set_option maxRecDepth 100000 in
theorem b_Reader_sign_0 {h0 : Nat} {a0_2 : Nat} {a0_3 : Nat} {h1 : Nat} {cA1 : ClassId} {I0 : Nat → Int32} {n1 : Nat} {f1 : Nat → Int32} {x1 : Int32}  {Z : Int32 → Unit → Prop} {H : Heap} {locs : List Loc} {ls : Array Slot} (hc : zC p s m args meth c prog_9_method_34_code (some .char) 2 "NumberDress$Reader") (hA : ∀ q : Nat, s.heap.size ≤ q → A q) (hE : zE gE A s) (hl : lv_has ls 2 [(0, .ref h0), (1, .int x1)]) (hK : va_K (dC, dI) zCl [(cA1, .char)] s) (hP : va_P (dC, dI) zCl [(h0, .inr (8, [.ref h1, .int (I0 1), .ref a0_2, .ref a0_3, .int (I0 4)])), (h1, .inl (cA1, n1, .inl f1))] H) (hD : va_D A [(h0, .inr (8, [.ref h1, .int (I0 1), .ref a0_2, .ref a0_3, .int (I0 4)])), (h1, .inl (cA1, n1, .inl f1))]) (hS : va_S A s.heap H locs) (hv : v_Reader_sign_0 I0 n1 f1 x1  Z) : W p l e (headSpec (Cond.code (⟨"NumberDress$Reader", "sign", "(I)C"⟩ : MethodName) prog_9_method_34_code 2 (some .char) :: zT) { frames := 0, cells := 0, slots := 0, locals := 0 }).room s m args below meth c H locs 0 0 (MQ below (va_Qi Z (zB (dC, dI) zCl [(cA1, .char)] A (fun u : Unit => [(h0, .inr (8, [.ref h1, .int (I0 1), .ref a0_2, .ref a0_3, .int (I0 4)])), (h1, .inl (cA1, n1, .inl f1))])) A) args s 0 0 A) (F0 m 0 ls []) := by
  obtain ⟨hx, hb, hr, hml, hown, ht, hlocks⟩ := id hc
  unfold v_Reader_sign_0 at hv
  refine lv_iload_n hx hb d_Reader_sign_0 rfl (lv_at hl 1 rfl) ?_
  refine lv_if_lt (tgt := 30) hx hb d_Reader_sign_1 (by decide) (fun c_1 => ?_) (fun c_1 => ?_)
  · have hv := hv.1 c_1
    refine lv_iconst (v := (0 : Int32)) hx hb d_Reader_sign_30 (by decide) ?_
    exact W.zret (v := (0 : Int32)) hx hb hr (zc_n hv.1) (fun t ht hW => ⟨⟨_, (), rfl, hv.2, ⟨by rw [ht]; exact hP, va_K.moved hW.alike hK, hD⟩⟩, hS.F ht⟩) hS.2.2 d_Reader_sign_31
  · have hv := hv.2 c_1
    refine lv_iload_n hx hb d_Reader_sign_4 rfl (lv_at hl 1 rfl) ?_
    refine lv_aload_n hx hb d_Reader_sign_5 rfl (lv_at hl 0 rfl) ?_
    refine va_get (D := (dC, dI)) (ci := 8) (v := .int (I0 1)) (C := "NumberDress$Reader") (T := T_Reader) (N := 5) hx hb ht zin_Reader hown hK hP 0 rfl rfl 1 (by decide) (ht _ zw_272) (fun _ h9 => h9) rfl d_Reader_sign_6 ?_
    refine lv_icmp_ge (tgt := 30) hx hb d_Reader_sign_9 (by decide) (fun c_2 => ?_) (fun c_2 => ?_)
    · have hv := hv.1 c_2
      refine lv_iconst (v := (0 : Int32)) hx hb d_Reader_sign_30 (by decide) ?_
      exact W.zret (v := (0 : Int32)) hx hb hr (zc_n hv.1) (fun t ht hW => ⟨⟨_, (), rfl, hv.2, ⟨by rw [ht]; exact hP, va_K.moved hW.alike hK, hD⟩⟩, hS.F ht⟩) hS.2.2 d_Reader_sign_31
    · have hv := hv.2 c_2
      refine lv_iload_n hx hb d_Reader_sign_12 rfl (lv_at hl 1 rfl) ?_
      refine lv_aload_n hx hb d_Reader_sign_13 rfl (lv_at hl 0 rfl) ?_
      refine va_get (D := (dC, dI)) (ci := 8) (v := .ref h1) (C := "NumberDress$Reader") (T := T_Reader) (N := 5) hx hb ht zin_Reader hown hK hP 0 rfl rfl 0 (by decide) (ht _ zw_271) (fun _ h9 => h9) rfl d_Reader_sign_14 ?_
      refine va_alen (v := (nI n1)) hx hb hK hP 1 0 rfl rfl rfl d_Reader_sign_17 ?_
      refine lv_icmp_ge (tgt := 30) hx hb d_Reader_sign_18 (by decide) (fun c_3 => ?_) (fun c_3 => ?_)
      · have hv := hv.1 c_3
        refine lv_iconst (v := (0 : Int32)) hx hb d_Reader_sign_30 (by decide) ?_
        exact W.zret (v := (0 : Int32)) hx hb hr (zc_n hv.1) (fun t ht hW => ⟨⟨_, (), rfl, hv.2, ⟨by rw [ht]; exact hP, va_K.moved hW.alike hK, hD⟩⟩, hS.F ht⟩) hS.2.2 d_Reader_sign_31
      · have hv := hv.2 c_3
        refine lv_aload_n hx hb d_Reader_sign_21 rfl (lv_at hl 0 rfl) ?_
        refine va_get (D := (dC, dI)) (ci := 8) (v := .ref h1) (C := "NumberDress$Reader") (T := T_Reader) (N := 5) hx hb ht zin_Reader hown hK hP 0 rfl rfl 0 (by decide) (ht _ zw_271) (fun _ h9 => h9) rfl d_Reader_sign_22 ?_
        refine lv_iload_n hx hb d_Reader_sign_25 rfl (lv_at hl 1 rfl) ?_
        obtain ⟨q_4, hv⟩ := hv
        refine va_cald hx hb hK hP 1 0 rfl rfl q_4 d_Reader_sign_26 ?_
        refine lv_goto (tgt := 31) hx hb d_Reader_sign_27 (by decide) ?_
        exact W.zret (v := (f1 x1.toNatClampNeg)) hx hb hr (zc_n hv.1) (fun t ht hW => ⟨⟨_, (), rfl, hv.2, ⟨by rw [ht]; exact hP, va_K.moved hW.alike hK, hD⟩⟩, hS.F ht⟩) hS.2.2 d_Reader_sign_31
theorem zi_Reader_sign : Cond.code (⟨"NumberDress$Reader", "sign", "(I)C"⟩ : MethodName) prog_9_method_34_code 2 (some .char) ∈ zT := zw_515
theorem zh_Reader_sign : (((⟨"NumberDress$Reader", "sign", "(I)C"⟩ : MethodName)).cls ≠ "java/lang/invoke/MethodHandle" ∧ ((⟨"NumberDress$Reader", "sign", "(I)C"⟩ : MethodName)).cls ≠ "java/lang/invoke/VarHandle" ∧ (parseMethodDescriptor ((⟨"NumberDress$Reader", "sign", "(I)C"⟩ : MethodName)).desc).map (fun d => d.parameters.length) = some 1) := by decide +kernel
set_option maxHeartbeats 4000000 in
set_option maxRecDepth 100000 in
theorem m_Reader_sign (l : Launch) (dC : Nat → ClassId) (dI : Nat → Nat → Nat) {gE : zG} {h0 : Nat} {a0_2 : Nat} {a0_3 : Nat} {h1 : Nat} {cA1 : ClassId} {I0 : Nat → Int32} {n1 : Nat} {f1 : Nat → Int32} {x1 : Int32} {sz : Nat} {Z : Int32 → Unit → Prop} (hv : v_Reader_sign_0 I0 n1 f1 x1 Z) : Met l (⟨"NumberDress$Reader", "sign", "(I)C"⟩ : MethodName) (Cond.code (⟨"NumberDress$Reader", "sign", "(I)C"⟩ : MethodName) prog_9_method_34_code 2 (some .char) :: zT) { frames := 0, cells := 0, slots := 0, locals := 0 } (zPc gE (dC, dI) zCl [(cA1, .char)] [.ref h0, .int x1] sz [(h0, .inr (8, [.ref h1, .int (I0 1), .ref a0_2, .ref a0_3, .int (I0 4)])), (h1, .inl (cA1, n1, .inl f1))]) (va_Qi Z (zB (dC, dI) zCl [(cA1, .char)] (va_A [(h0, .inr (8, [.ref h1, .int (I0 1), .ref a0_2, .ref a0_3, .int (I0 4)])), (h1, .inl (cA1, n1, .inl f1))] sz) (fun u : Unit => [(h0, .inr (8, [.ref h1, .int (I0 1), .ref a0_2, .ref a0_3, .int (I0 4)])), (h1, .inl (cA1, n1, .inl f1))])) (va_A [(h0, .inr (8, [.ref h1, .int (I0 1), .ref a0_2, .ref a0_3, .int (I0 4)])), (h1, .inl (cA1, n1, .inl f1))] sz)) 0 0 (va_A [(h0, .inr (8, [.ref h1, .int (I0 1), .ref a0_2, .ref a0_3, .int (I0 4)])), (h1, .inl (cA1, n1, .inl f1))] sz) := by
  refine Met.ofW (cc := prog_9_method_34_code) (maxL := 2) (ret := (some .char)) (by decide) rfl ?_
  intro p e s m args below meth c s₁ B hml hp
  obtain ⟨rfl, hsz, hP, hK, hD0, hE⟩ := hp
  have hts := atoms_spec (ws := (Cond.code (⟨"NumberDress$Reader", "sign", "(I)C"⟩ : MethodName) prog_9_method_34_code 2 (some .char) :: zT)) B.pre
  have hown : s.vm.findClass "NumberDress$Reader" = some m.cls := findClass_of_methodNamed B.named
  have hc : zC p s m _ meth c prog_9_method_34_code (some .char) 2 "NumberDress$Reader" := ⟨B.exec, B.bytes, B.returns, hml, hown, fun w h => hts w (List.mem_cons_of_mem _ h), B.notSynchronized⟩
  subst hsz
  have hD := hD0.self (sz := s.heap.size)
  generalize hAe : va_A [(h0, .inr (8, [.ref h1, .int (I0 1), .ref a0_2, .ref a0_3, .int (I0 4)])), (h1, .inl (cA1, n1, .inl f1))] s.heap.size = A at hD hE ⊢
  have hA : ∀ q : Nat, s.heap.size ≤ q → A q := fun q h => by rw [← hAe]; exact Or.inr h
  have hl := lv_entry ([.ref h0, .int x1]) (n := 2) (Nat.le_of_ble_eq_true rfl)
  rw [lg_entry_eq]
  exact b_Reader_sign_0 hc hA hE hl hK hP hD va_S.rf hv
theorem d_Reader_placesFrom_0 : decode prog_9_method_22_code 0 = .ok (.iconst 0, 1) := by decide +kernel
theorem d_Reader_placesFrom_1 : decode prog_9_method_22_code 1 = .ok (.istore_n 2, 1) := by decide +kernel
theorem d_Reader_placesFrom_2 : decode prog_9_method_22_code 2 = .ok (.iload_n 2, 1) := by decide +kernel
theorem d_Reader_placesFrom_3 : decode prog_9_method_22_code 3 = .ok (.iconst 3, 1) := by decide +kernel
theorem d_Reader_placesFrom_4 : decode prog_9_method_22_code 4 = .ok (.if_icmp .ge 22, 3) := by decide +kernel
theorem d_Reader_placesFrom_7 : decode prog_9_method_22_code 7 = .ok (.aload_n 0, 1) := by decide +kernel
theorem d_Reader_placesFrom_8 : decode prog_9_method_22_code 8 = .ok (.iload_n 1, 1) := by decide +kernel
theorem d_Reader_placesFrom_9 : decode prog_9_method_22_code 9 = .ok (.iload_n 2, 1) := by decide +kernel
theorem d_Reader_placesFrom_10 : decode prog_9_method_22_code 10 = .ok (.iadd, 1) := by decide +kernel
theorem d_Reader_placesFrom_11 : decode prog_9_method_22_code 11 = .ok (.invokevirtual 86, 3) := by decide +kernel
theorem d_Reader_placesFrom_14 : decode prog_9_method_22_code 14 = .ok (.invokestatic 102, 3) := by decide +kernel
theorem d_Reader_placesFrom_17 : decode prog_9_method_22_code 17 = .ok (.ifCond .eq 9, 3) := by decide +kernel
theorem d_Reader_placesFrom_20 : decode prog_9_method_22_code 20 = .ok (.iinc 2 1, 3) := by decide +kernel
theorem d_Reader_placesFrom_23 : decode prog_9_method_22_code 23 = .ok (.goto (-21), 3) := by decide +kernel
theorem d_Reader_placesFrom_26 : decode prog_9_method_22_code 26 = .ok (.iload_n 2, 1) := by decide +kernel
theorem d_Reader_placesFrom_27 : decode prog_9_method_22_code 27 = .ok (.ireturn, 1) := by decide +kernel
def v_Reader_placesFrom_17 (I0 : Nat → Int32) (n1 : Nat) (f1 : Nat → Int32) (x1 : Int32) (x2 : Int32) (s0 : Int32) (k2 : Int32 → Prop) (Z : Int32 → Unit → Prop) : Prop :=
  ((s0 = 0 → (Z x2 ())) ∧ (¬ s0 = 0 → (k2 (x2 + (1 : Int32)))))
def v_Reader_placesFrom_14 (I0 : Nat → Int32) (n1 : Nat) (f1 : Nat → Int32) (x1 : Int32) (x2 : Int32) (s0 : Int32) (k2 : Int32 → Prop) (Z : Int32 → Unit → Prop) : Prop :=
  (v_Reader_isPlace_0 s0 (fun r u => (v_Reader_placesFrom_17 I0 n1 f1 x1 x2 r k2 Z)))
def v_Reader_placesFrom_2 (I0 : Nat → Int32) (n1 : Nat) (f1 : Nat → Int32) (x1 : Int32)  (Z : Int32 → Unit → Prop) : Nat → Int32 → Prop
  | 0 => fun _ => False
  | N + 1 => fun x2 => (((3 : Int32) ≤ x2 → (Z x2 ())) ∧ (¬ (3 : Int32) ≤ x2 → (v_Reader_sign_0 I0 n1 f1 (x1 + x2) (fun r u => (v_Reader_placesFrom_14 I0 n1 f1 x1 x2 r (v_Reader_placesFrom_2 I0 n1 f1 x1  Z N) Z)))))
def v_Reader_placesFrom_0 (I0 : Nat → Int32) (n1 : Nat) (f1 : Nat → Int32) (x1 : Int32)  (Z : Int32 → Unit → Prop) : Prop :=
  (∃ N, v_Reader_placesFrom_2 I0 n1 f1 x1  Z N (0 : Int32))
set_option maxHeartbeats 4000000 in
set_option maxRecDepth 100000 in
theorem b_Reader_placesFrom_17 {h0 : Nat} {a0_2 : Nat} {a0_3 : Nat} {h1 : Nat} {cA1 : ClassId} {I0 : Nat → Int32} {n1 : Nat} {f1 : Nat → Int32} {x1 : Int32} {x2 : Int32} {s0 : Int32} {k2 : Int32 → Prop} {Z : Int32 → Unit → Prop} {H : Heap} {locs : List Loc} {ls : Array Slot} (hc : zC p s m args meth c prog_9_method_22_code (some .int) 3 "NumberDress$Reader") (hA : ∀ q : Nat, s.heap.size ≤ q → A q) (hE : zE gE A s) (hk2 : ∀ (x2 : Int32) (H : Heap) (locs : List Loc) (ls : Array Slot), lv_has ls 3 [(0, .ref h0), (1, .int x1), (2, .int x2)] → va_K (dC, dI) zCl [(cA1, .char)] s → va_P (dC, dI) zCl [(h0, .inr (8, [.ref h1, .int (I0 1), .ref a0_2, .ref a0_3, .int (I0 4)])), (h1, .inl (cA1, n1, .inl f1))] H → va_D A [(h0, .inr (8, [.ref h1, .int (I0 1), .ref a0_2, .ref a0_3, .int (I0 4)])), (h1, .inl (cA1, n1, .inl f1))] → va_S A s.heap H locs → k2 x2 → W p l e (headSpec (Cond.code (⟨"NumberDress$Reader", "placesFrom", "(I)I"⟩ : MethodName) prog_9_method_22_code 3 (some .int) :: zT) { frames := 1, cells := 0, slots := 0, locals := 21 }).room s m args below meth c H locs 0 0 (MQ below (va_Qi Z (zB (dC, dI) zCl [(cA1, .char)] A (fun u : Unit => [(h0, .inr (8, [.ref h1, .int (I0 1), .ref a0_2, .ref a0_3, .int (I0 4)])), (h1, .inl (cA1, n1, .inl f1))])) A) args s 0 0 A) (F0 m 2 ls [])) (hl : lv_has ls 3 [(0, .ref h0), (1, .int x1), (2, .int x2)]) (hK : va_K (dC, dI) zCl [(cA1, .char)] s) (hP : va_P (dC, dI) zCl [(h0, .inr (8, [.ref h1, .int (I0 1), .ref a0_2, .ref a0_3, .int (I0 4)])), (h1, .inl (cA1, n1, .inl f1))] H) (hD : va_D A [(h0, .inr (8, [.ref h1, .int (I0 1), .ref a0_2, .ref a0_3, .int (I0 4)])), (h1, .inl (cA1, n1, .inl f1))]) (hS : va_S A s.heap H locs) (hv : v_Reader_placesFrom_17 I0 n1 f1 x1 x2 s0 k2 Z) : W p l e (headSpec (Cond.code (⟨"NumberDress$Reader", "placesFrom", "(I)I"⟩ : MethodName) prog_9_method_22_code 3 (some .int) :: zT) { frames := 1, cells := 0, slots := 0, locals := 21 }).room s m args below meth c H locs 0 0 (MQ below (va_Qi Z (zB (dC, dI) zCl [(cA1, .char)] A (fun u : Unit => [(h0, .inr (8, [.ref h1, .int (I0 1), .ref a0_2, .ref a0_3, .int (I0 4)])), (h1, .inl (cA1, n1, .inl f1))])) A) args s 0 0 A) (F0 m 17 ls [.int s0]) := by
  obtain ⟨hx, hb, hr, hml, hown, ht, hlocks⟩ := id hc
  unfold v_Reader_placesFrom_17 at hv
  refine lv_if_eq (tgt := 26) hx hb d_Reader_placesFrom_17 (by decide) (fun c_1 => ?_) (fun c_1 => ?_)
  · have hv := hv.1 c_1
    refine lv_iload_n hx hb d_Reader_placesFrom_26 rfl (lv_at hl 2 rfl) ?_
    exact W.iret (v := x2) hx hb hr (fun t ht hW => ⟨⟨_, (), rfl, hv, ⟨by rw [ht]; exact hP, va_K.moved hW.alike hK, hD⟩⟩, hS.F ht⟩) hS.2.2 d_Reader_placesFrom_27
  · have hv := hv.2 c_1
    refine lv_iinc (v := (x2 + (1 : Int32))) (lv' := [(2, .int (x2 + (1 : Int32))), (0, .ref h0), (1, .int x1)]) hx hb d_Reader_placesFrom_20 hl (k := 2) rfl rfl (by decide) rfl (fun ls hl => ?_)
    refine lv_goto (tgt := 2) hx hb d_Reader_placesFrom_23 (by decide) ?_
    exact hk2 (x2 + (1 : Int32)) _ _ _ (lv_sub hl [1, 2, 0] rfl) hK hP hD hS hv
set_option maxHeartbeats 4000000 in
set_option maxRecDepth 100000 in
theorem b_Reader_placesFrom_14 {h0 : Nat} {a0_2 : Nat} {a0_3 : Nat} {h1 : Nat} {cA1 : ClassId} {I0 : Nat → Int32} {n1 : Nat} {f1 : Nat → Int32} {x1 : Int32} {x2 : Int32} {s0 : Int32} {k2 : Int32 → Prop} {Z : Int32 → Unit → Prop} {H : Heap} {locs : List Loc} {ls : Array Slot} (hc : zC p s m args meth c prog_9_method_22_code (some .int) 3 "NumberDress$Reader") (hA : ∀ q : Nat, s.heap.size ≤ q → A q) (hE : zE gE A s) (hk2 : ∀ (x2 : Int32) (H : Heap) (locs : List Loc) (ls : Array Slot), lv_has ls 3 [(0, .ref h0), (1, .int x1), (2, .int x2)] → va_K (dC, dI) zCl [(cA1, .char)] s → va_P (dC, dI) zCl [(h0, .inr (8, [.ref h1, .int (I0 1), .ref a0_2, .ref a0_3, .int (I0 4)])), (h1, .inl (cA1, n1, .inl f1))] H → va_D A [(h0, .inr (8, [.ref h1, .int (I0 1), .ref a0_2, .ref a0_3, .int (I0 4)])), (h1, .inl (cA1, n1, .inl f1))] → va_S A s.heap H locs → k2 x2 → W p l e (headSpec (Cond.code (⟨"NumberDress$Reader", "placesFrom", "(I)I"⟩ : MethodName) prog_9_method_22_code 3 (some .int) :: zT) { frames := 1, cells := 0, slots := 0, locals := 21 }).room s m args below meth c H locs 0 0 (MQ below (va_Qi Z (zB (dC, dI) zCl [(cA1, .char)] A (fun u : Unit => [(h0, .inr (8, [.ref h1, .int (I0 1), .ref a0_2, .ref a0_3, .int (I0 4)])), (h1, .inl (cA1, n1, .inl f1))])) A) args s 0 0 A) (F0 m 2 ls [])) (hl : lv_has ls 3 [(0, .ref h0), (1, .int x1), (2, .int x2)]) (hK : va_K (dC, dI) zCl [(cA1, .char)] s) (hP : va_P (dC, dI) zCl [(h0, .inr (8, [.ref h1, .int (I0 1), .ref a0_2, .ref a0_3, .int (I0 4)])), (h1, .inl (cA1, n1, .inl f1))] H) (hD : va_D A [(h0, .inr (8, [.ref h1, .int (I0 1), .ref a0_2, .ref a0_3, .int (I0 4)])), (h1, .inl (cA1, n1, .inl f1))]) (hS : va_S A s.heap H locs) (hv : v_Reader_placesFrom_14 I0 n1 f1 x1 x2 s0 k2 Z) : W p l e (headSpec (Cond.code (⟨"NumberDress$Reader", "placesFrom", "(I)I"⟩ : MethodName) prog_9_method_22_code 3 (some .int) :: zT) { frames := 1, cells := 0, slots := 0, locals := 21 }).room s m args below meth c H locs 0 0 (MQ below (va_Qi Z (zB (dC, dI) zCl [(cA1, .char)] A (fun u : Unit => [(h0, .inr (8, [.ref h1, .int (I0 1), .ref a0_2, .ref a0_3, .int (I0 4)])), (h1, .inl (cA1, n1, .inl f1))])) A) args s 0 0 A) (F0 m 14 ls [.int s0]) := by
  obtain ⟨hx, hb, hr, hml, hown, ht, hlocks⟩ := id hc
  unfold v_Reader_placesFrom_14 at hv
  refine z_calli (wc := []) (wr := [(h0, .inr (8, [.ref h1, .int (I0 1), .ref a0_2, .ref a0_3, .int (I0 4)])), (h1, .inl (cA1, n1, .inl f1))]) [] [0, 1] (va_runS (As := [.int s0]) (rest := []) ⟨hx, hb, hml, hown, ht⟩ (m_Reader_isPlace l dC dI hv) ⟨(callB_of 1 ht (zG_in zi_Reader_isPlace) rfl rfl rfl (ht _ zw_113) (ht _ zw_678) zh_Reader_isPlace ⟨Nat.le_of_ble_eq_true rfl, Nat.le_of_ble_eq_true rfl⟩), (ht _ zw_679)⟩ ⟨zPc_blind, zPc_pre hP hK hD hS hA hE [] [] rfl rfl (by decide) rfl⟩ rfl rfl hl.1 rfl (lv_room (Nat.le_of_ble_eq_true rfl)) d_Reader_placesFrom_14 ⟨Nat.le_of_ble_eq_true rfl, Nat.le_of_ble_eq_true rfl⟩) hP hD hS hA rfl rfl (by decide) (by decide) (fun r u H locs hv hP hD hS => ?_)
  have hP : va_P (dC, dI) zCl [(h0, .inr (8, [.ref h1, .int (I0 1), .ref a0_2, .ref a0_3, .int (I0 4)])), (h1, .inl (cA1, n1, .inl f1))] H := hP.sub [0, 1] rfl
  have hD : va_D A [(h0, .inr (8, [.ref h1, .int (I0 1), .ref a0_2, .ref a0_3, .int (I0 4)])), (h1, .inl (cA1, n1, .inl f1))] := hD.sub [0, 1] (by decide) rfl
  exact b_Reader_placesFrom_17 hc hA hE hk2 (lv_sub hl [0, 1, 2] rfl) hK hP hD hS hv
set_option maxHeartbeats 4000000 in
set_option maxRecDepth 100000 in
theorem b_Reader_placesFrom_2 {h0 : Nat} {a0_2 : Nat} {a0_3 : Nat} {h1 : Nat} {cA1 : ClassId} {I0 : Nat → Int32} {n1 : Nat} {f1 : Nat → Int32} {x1 : Int32}  {Z : Int32 → Unit → Prop} (hc : zC p s m args meth c prog_9_method_22_code (some .int) 3 "NumberDress$Reader") (hA : ∀ q : Nat, s.heap.size ≤ q → A q) (hE : zE gE A s) : ∀ (N : Nat) (x2 : Int32) (H : Heap) (locs : List Loc) (ls : Array Slot), lv_has ls 3 [(0, .ref h0), (1, .int x1), (2, .int x2)] → va_K (dC, dI) zCl [(cA1, .char)] s → va_P (dC, dI) zCl [(h0, .inr (8, [.ref h1, .int (I0 1), .ref a0_2, .ref a0_3, .int (I0 4)])), (h1, .inl (cA1, n1, .inl f1))] H → va_D A [(h0, .inr (8, [.ref h1, .int (I0 1), .ref a0_2, .ref a0_3, .int (I0 4)])), (h1, .inl (cA1, n1, .inl f1))] → va_S A s.heap H locs → v_Reader_placesFrom_2 I0 n1 f1 x1  Z N x2 → W p l e (headSpec (Cond.code (⟨"NumberDress$Reader", "placesFrom", "(I)I"⟩ : MethodName) prog_9_method_22_code 3 (some .int) :: zT) { frames := 1, cells := 0, slots := 0, locals := 21 }).room s m args below meth c H locs 0 0 (MQ below (va_Qi Z (zB (dC, dI) zCl [(cA1, .char)] A (fun u : Unit => [(h0, .inr (8, [.ref h1, .int (I0 1), .ref a0_2, .ref a0_3, .int (I0 4)])), (h1, .inl (cA1, n1, .inl f1))])) A) args s 0 0 A) (F0 m 2 ls []) := by
  obtain ⟨hx, hb, hr, hml, hown, ht, hlocks⟩ := id hc
  intro N
  induction N with
  | zero => intro x2 H locs ls hl hK hP hD hS hv; exact hv.elim
  | succ N hk2 =>
    intro x2 H locs ls hl hK hP hD hS hv
    unfold v_Reader_placesFrom_2 at hv
    refine lv_iload_n hx hb d_Reader_placesFrom_2 rfl (lv_at hl 2 rfl) ?_
    refine lv_iconst (v := (3 : Int32)) hx hb d_Reader_placesFrom_3 (by decide) ?_
    refine lv_icmp_ge (tgt := 26) hx hb d_Reader_placesFrom_4 (by decide) (fun c_1 => ?_) (fun c_1 => ?_)
    · have hv := hv.1 c_1
      refine lv_iload_n hx hb d_Reader_placesFrom_26 rfl (lv_at hl 2 rfl) ?_
      exact W.iret (v := x2) hx hb hr (fun t ht hW => ⟨⟨_, (), rfl, hv, ⟨by rw [ht]; exact hP, va_K.moved hW.alike hK, hD⟩⟩, hS.F ht⟩) hS.2.2 d_Reader_placesFrom_27
    · have hv := hv.2 c_1
      refine lv_aload_n hx hb d_Reader_placesFrom_7 rfl (lv_at hl 0 rfl) ?_
      refine lv_iload_n hx hb d_Reader_placesFrom_8 rfl (lv_at hl 1 rfl) ?_
      refine lv_iload_n hx hb d_Reader_placesFrom_9 rfl (lv_at hl 2 rfl) ?_
      refine lv_iadd hx hb d_Reader_placesFrom_10 ?_
      refine z_calli (wc := [(h0, .inr (8, [.ref h1, .int (I0 1), .ref a0_2, .ref a0_3, .int (I0 4)])), (h1, .inl (cA1, n1, .inl f1))]) (wr := []) [0, 1] [] (va_runV (As := [.int (x1 + x2)]) (rest := []) ⟨hx, hb, hml, hown, ht⟩ (m_Reader_sign l dC dI hv) ⟨(callB_of 1 ht (zG_in zi_Reader_sign) rfl rfl rfl (ht _ zw_113) (ht _ zw_512) zh_Reader_sign ⟨Nat.le_of_ble_eq_true rfl, Nat.le_of_ble_eq_true rfl⟩), (ht _ zw_514), (ht _ zw_1)⟩ ⟨zPc_blind, va_recv hK hP (ci := 8) (q0 := 0) rfl rfl, zPc_pre hP hK hD hS hA hE [0, 1] [0] rfl rfl (by decide) rfl⟩ rfl rfl hl.1 rfl (lv_room (Nat.le_of_ble_eq_true rfl)) d_Reader_placesFrom_11 ⟨Nat.le_of_ble_eq_true rfl, Nat.le_of_ble_eq_true rfl⟩) hP hD hS hA rfl rfl (by decide) (by decide) (fun r u H locs hv hP hD hS => ?_)
      have hP : va_P (dC, dI) zCl [(h0, .inr (8, [.ref h1, .int (I0 1), .ref a0_2, .ref a0_3, .int (I0 4)])), (h1, .inl (cA1, n1, .inl f1))] H := hP.sub [0, 1] rfl
      have hD : va_D A [(h0, .inr (8, [.ref h1, .int (I0 1), .ref a0_2, .ref a0_3, .int (I0 4)])), (h1, .inl (cA1, n1, .inl f1))] := hD.sub [0, 1] (by decide) rfl
      exact b_Reader_placesFrom_14 hc hA hE hk2 (lv_sub hl [0, 1, 2] rfl) hK hP hD hS hv
set_option maxHeartbeats 4000000 in
set_option maxRecDepth 100000 in
theorem b_Reader_placesFrom_0 {h0 : Nat} {a0_2 : Nat} {a0_3 : Nat} {h1 : Nat} {cA1 : ClassId} {I0 : Nat → Int32} {n1 : Nat} {f1 : Nat → Int32} {x1 : Int32}  {Z : Int32 → Unit → Prop} {H : Heap} {locs : List Loc} {ls : Array Slot} (hc : zC p s m args meth c prog_9_method_22_code (some .int) 3 "NumberDress$Reader") (hA : ∀ q : Nat, s.heap.size ≤ q → A q) (hE : zE gE A s) (hl : lv_has ls 3 [(0, .ref h0), (1, .int x1)]) (hK : va_K (dC, dI) zCl [(cA1, .char)] s) (hP : va_P (dC, dI) zCl [(h0, .inr (8, [.ref h1, .int (I0 1), .ref a0_2, .ref a0_3, .int (I0 4)])), (h1, .inl (cA1, n1, .inl f1))] H) (hD : va_D A [(h0, .inr (8, [.ref h1, .int (I0 1), .ref a0_2, .ref a0_3, .int (I0 4)])), (h1, .inl (cA1, n1, .inl f1))]) (hS : va_S A s.heap H locs) (hv : v_Reader_placesFrom_0 I0 n1 f1 x1  Z) : W p l e (headSpec (Cond.code (⟨"NumberDress$Reader", "placesFrom", "(I)I"⟩ : MethodName) prog_9_method_22_code 3 (some .int) :: zT) { frames := 1, cells := 0, slots := 0, locals := 21 }).room s m args below meth c H locs 0 0 (MQ below (va_Qi Z (zB (dC, dI) zCl [(cA1, .char)] A (fun u : Unit => [(h0, .inr (8, [.ref h1, .int (I0 1), .ref a0_2, .ref a0_3, .int (I0 4)])), (h1, .inl (cA1, n1, .inl f1))])) A) args s 0 0 A) (F0 m 0 ls []) := by
  obtain ⟨hx, hb, hr, hml, hown, ht, hlocks⟩ := id hc
  unfold v_Reader_placesFrom_0 at hv
  refine lv_iconst (v := (0 : Int32)) hx hb d_Reader_placesFrom_0 (by decide) ?_
  refine lv_istore_n (lv' := [(2, .int (0 : Int32)), (0, .ref h0), (1, .int x1)]) hx hb d_Reader_placesFrom_1 rfl hl (by decide) rfl (fun ls hl => ?_)
  obtain ⟨N, hv⟩ := hv
  exact b_Reader_placesFrom_2 hc hA hE  N (0 : Int32) _ _ _ (lv_sub hl [1, 2, 0] rfl) hK hP hD hS hv
theorem zi_Reader_placesFrom : Cond.code (⟨"NumberDress$Reader", "placesFrom", "(I)I"⟩ : MethodName) prog_9_method_22_code 3 (some .int) ∈ zT := zw_749
theorem zh_Reader_placesFrom : (((⟨"NumberDress$Reader", "placesFrom", "(I)I"⟩ : MethodName)).cls ≠ "java/lang/invoke/MethodHandle" ∧ ((⟨"NumberDress$Reader", "placesFrom", "(I)I"⟩ : MethodName)).cls ≠ "java/lang/invoke/VarHandle" ∧ (parseMethodDescriptor ((⟨"NumberDress$Reader", "placesFrom", "(I)I"⟩ : MethodName)).desc).map (fun d => d.parameters.length) = some 1) := by decide +kernel
set_option maxHeartbeats 4000000 in
set_option maxRecDepth 100000 in
theorem m_Reader_placesFrom (l : Launch) (dC : Nat → ClassId) (dI : Nat → Nat → Nat) {gE : zG} {h0 : Nat} {a0_2 : Nat} {a0_3 : Nat} {h1 : Nat} {cA1 : ClassId} {I0 : Nat → Int32} {n1 : Nat} {f1 : Nat → Int32} {x1 : Int32} {sz : Nat} {Z : Int32 → Unit → Prop} (hv : v_Reader_placesFrom_0 I0 n1 f1 x1 Z) : Met l (⟨"NumberDress$Reader", "placesFrom", "(I)I"⟩ : MethodName) (Cond.code (⟨"NumberDress$Reader", "placesFrom", "(I)I"⟩ : MethodName) prog_9_method_22_code 3 (some .int) :: zT) { frames := 1, cells := 0, slots := 0, locals := 21 } (zPc gE (dC, dI) zCl [(cA1, .char)] [.ref h0, .int x1] sz [(h0, .inr (8, [.ref h1, .int (I0 1), .ref a0_2, .ref a0_3, .int (I0 4)])), (h1, .inl (cA1, n1, .inl f1))]) (va_Qi Z (zB (dC, dI) zCl [(cA1, .char)] (va_A [(h0, .inr (8, [.ref h1, .int (I0 1), .ref a0_2, .ref a0_3, .int (I0 4)])), (h1, .inl (cA1, n1, .inl f1))] sz) (fun u : Unit => [(h0, .inr (8, [.ref h1, .int (I0 1), .ref a0_2, .ref a0_3, .int (I0 4)])), (h1, .inl (cA1, n1, .inl f1))])) (va_A [(h0, .inr (8, [.ref h1, .int (I0 1), .ref a0_2, .ref a0_3, .int (I0 4)])), (h1, .inl (cA1, n1, .inl f1))] sz)) 0 0 (va_A [(h0, .inr (8, [.ref h1, .int (I0 1), .ref a0_2, .ref a0_3, .int (I0 4)])), (h1, .inl (cA1, n1, .inl f1))] sz) := by
  refine Met.ofW (cc := prog_9_method_22_code) (maxL := 3) (ret := (some .int)) (by decide) rfl ?_
  intro p e s m args below meth c s₁ B hml hp
  obtain ⟨rfl, hsz, hP, hK, hD0, hE⟩ := hp
  have hts := atoms_spec (ws := (Cond.code (⟨"NumberDress$Reader", "placesFrom", "(I)I"⟩ : MethodName) prog_9_method_22_code 3 (some .int) :: zT)) B.pre
  have hown : s.vm.findClass "NumberDress$Reader" = some m.cls := findClass_of_methodNamed B.named
  have hc : zC p s m _ meth c prog_9_method_22_code (some .int) 3 "NumberDress$Reader" := ⟨B.exec, B.bytes, B.returns, hml, hown, fun w h => hts w (List.mem_cons_of_mem _ h), B.notSynchronized⟩
  subst hsz
  have hD := hD0.self (sz := s.heap.size)
  generalize hAe : va_A [(h0, .inr (8, [.ref h1, .int (I0 1), .ref a0_2, .ref a0_3, .int (I0 4)])), (h1, .inl (cA1, n1, .inl f1))] s.heap.size = A at hD hE ⊢
  have hA : ∀ q : Nat, s.heap.size ≤ q → A q := fun q h => by rw [← hAe]; exact Or.inr h
  have hl := lv_entry ([.ref h0, .int x1]) (n := 3) (Nat.le_of_ble_eq_true rfl)
  rw [lg_entry_eq]
  exact b_Reader_placesFrom_0 hc hA hE hl hK hP hD va_S.rf hv
theorem d_Code_add_0 : decode prog_2_method_5_code 0 = .ok (.aload_n 0, 1) := by decide +kernel
theorem d_Code_add_1 : decode prog_2_method_5_code 1 = .ok (.getfield 29, 3) := by decide +kernel
theorem d_Code_add_4 : decode prog_2_method_5_code 4 = .ok (.ifCond .lt 57, 3) := by decide +kernel
theorem d_Code_add_7 : decode prog_2_method_5_code 7 = .ok (.aload_n 0, 1) := by decide +kernel
theorem d_Code_add_8 : decode prog_2_method_5_code 8 = .ok (.getfield 29, 3) := by decide +kernel
theorem d_Code_add_11 : decode prog_2_method_5_code 11 = .ok (.aload_n 0, 1) := by decide +kernel
theorem d_Code_add_12 : decode prog_2_method_5_code 12 = .ok (.getfield 21, 3) := by decide +kernel
theorem d_Code_add_15 : decode prog_2_method_5_code 15 = .ok (.arraylength, 1) := by decide +kernel
theorem d_Code_add_16 : decode prog_2_method_5_code 16 = .ok (.if_icmp .ge 45, 3) := by decide +kernel
theorem d_Code_add_19 : decode prog_2_method_5_code 19 = .ok (.aload_n 0, 1) := by decide +kernel
theorem d_Code_add_20 : decode prog_2_method_5_code 20 = .ok (.getfield 29, 3) := by decide +kernel
theorem d_Code_add_23 : decode prog_2_method_5_code 23 = .ok (.aload_n 0, 1) := by decide +kernel
theorem d_Code_add_24 : decode prog_2_method_5_code 24 = .ok (.getfield 25, 3) := by decide +kernel
theorem d_Code_add_27 : decode prog_2_method_5_code 27 = .ok (.arraylength, 1) := by decide +kernel
theorem d_Code_add_28 : decode prog_2_method_5_code 28 = .ok (.if_icmp .ge 33, 3) := by decide +kernel
theorem d_Code_add_31 : decode prog_2_method_5_code 31 = .ok (.aload_n 0, 1) := by decide +kernel
theorem d_Code_add_32 : decode prog_2_method_5_code 32 = .ok (.getfield 21, 3) := by decide +kernel
theorem d_Code_add_35 : decode prog_2_method_5_code 35 = .ok (.aload_n 0, 1) := by decide +kernel
theorem d_Code_add_36 : decode prog_2_method_5_code 36 = .ok (.getfield 29, 3) := by decide +kernel
theorem d_Code_add_39 : decode prog_2_method_5_code 39 = .ok (.iload_n 1, 1) := by decide +kernel
theorem d_Code_add_40 : decode prog_2_method_5_code 40 = .ok (.iastore, 1) := by decide +kernel
theorem d_Code_add_41 : decode prog_2_method_5_code 41 = .ok (.aload_n 0, 1) := by decide +kernel
theorem d_Code_add_42 : decode prog_2_method_5_code 42 = .ok (.getfield 25, 3) := by decide +kernel
theorem d_Code_add_45 : decode prog_2_method_5_code 45 = .ok (.aload_n 0, 1) := by decide +kernel
theorem d_Code_add_46 : decode prog_2_method_5_code 46 = .ok (.getfield 29, 3) := by decide +kernel
theorem d_Code_add_49 : decode prog_2_method_5_code 49 = .ok (.iload_n 2, 1) := by decide +kernel
theorem d_Code_add_50 : decode prog_2_method_5_code 50 = .ok (.iastore, 1) := by decide +kernel
theorem d_Code_add_51 : decode prog_2_method_5_code 51 = .ok (.aload_n 0, 1) := by decide +kernel
theorem d_Code_add_52 : decode prog_2_method_5_code 52 = .ok (.dup, 1) := by decide +kernel
theorem d_Code_add_53 : decode prog_2_method_5_code 53 = .ok (.getfield 29, 3) := by decide +kernel
theorem d_Code_add_56 : decode prog_2_method_5_code 56 = .ok (.iconst 1, 1) := by decide +kernel
theorem d_Code_add_57 : decode prog_2_method_5_code 57 = .ok (.iadd, 1) := by decide +kernel
theorem d_Code_add_58 : decode prog_2_method_5_code 58 = .ok (.putfield 29, 3) := by decide +kernel
theorem d_Code_add_61 : decode prog_2_method_5_code 61 = .ok (.return_, 1) := by decide +kernel
def v_Code_add_0 (I0 : Nat → Int32) (n1 : Nat) (f1 : Nat → Int32) (n2 : Nat) (f2 : Nat → Int32) (x1 : Int32) (x2 : Int32)  (Z : (Nat → Int32) × (Nat → Int32) × (Nat → Int32) → Prop) : Prop :=
  (((I0 4) < 0 → (Z (I0, f1, f2))) ∧ (¬ (I0 4) < 0 → (((nI n1) ≤ (I0 4) → (Z (I0, f1, f2))) ∧ (¬ (nI n1) ≤ (I0 4) → (((nI n2) ≤ (I0 4) → (Z (I0, f1, f2))) ∧ (¬ (nI n2) ≤ (I0 4) → (vp_in (I0 4) n1 ∧ (vp_in (I0 4) n2 ∧ (Z ((zu I0 4 ((I0 4) + (1 : Int32))), (upd f1 (I0 4).toNatClampNeg x1), (upd f2 (I0 4).toNatClampNeg x2)))))))))))
set_option maxHeartbeats 4000000 in
set_option maxRecDepth 100000 in
theorem b_Code_add_0 {h0 : Nat} {a0_0 : Nat} {h1 : Nat} {cA1 : ClassId} {h2 : Nat} {cA2 : ClassId} {I0 : Nat → Int32} {n1 : Nat} {f1 : Nat → Int32} {n2 : Nat} {f2 : Nat → Int32} {x1 : Int32} {x2 : Int32}  {Z : (Nat → Int32) × (Nat → Int32) × (Nat → Int32) → Prop} {H : Heap} {locs : List Loc} {ls : Array Slot} (hc : zC p s m args meth c prog_2_method_5_code none 3 "NumberDress$Code") (hA : ∀ q : Nat, s.heap.size ≤ q → A q) (hE : zE gE A s) (hl : lv_has ls 3 [(0, .ref h0), (1, .int x1), (2, .int x2)]) (hK : va_K (dC, dI) zCl [(cA1, .int), (cA2, .int)] s) (hP : va_P (dC, dI) zCl [(h0, .inr (1, [.ref a0_0, .int (I0 1), .ref h1, .ref h2, .int (I0 4)])), (h1, .inl (cA1, n1, .inl f1)), (h2, .inl (cA2, n2, .inl f2))] H) (hD : va_D A [(h0, .inr (1, [.ref a0_0, .int (I0 1), .ref h1, .ref h2, .int (I0 4)])), (h1, .inl (cA1, n1, .inl f1)), (h2, .inl (cA2, n2, .inl f2))]) (hS : va_S A s.heap H locs) (hv : v_Code_add_0 I0 n1 f1 n2 f2 x1 x2  Z) : W p l e (headSpec (Cond.code (⟨"NumberDress$Code", "add", "(II)V"⟩ : MethodName) prog_2_method_5_code 3 none :: zT) { frames := 0, cells := 0, slots := 0, locals := 0 }).room s m args below meth c H locs 0 0 (MQ below (va_Qv Z (zB (dC, dI) zCl [(cA1, .int), (cA2, .int)] A (fun u : (Nat → Int32) × (Nat → Int32) × (Nat → Int32) => [(h0, .inr (1, [.ref a0_0, .int (u.1 1), .ref h1, .ref h2, .int (u.1 4)])), (h1, .inl (cA1, n1, .inl u.2.1)), (h2, .inl (cA2, n2, .inl u.2.2))])) A) args s 0 0 A) (F0 m 0 ls []) := by
  obtain ⟨hx, hb, hr, hml, hown, ht, hlocks⟩ := id hc
  unfold v_Code_add_0 at hv
  refine lv_aload_n hx hb d_Code_add_0 rfl (lv_at hl 0 rfl) ?_
  refine va_get (D := (dC, dI)) (ci := 1) (v := .int (I0 4)) (C := "NumberDress$Code") (T := T_Code) (N := 5) hx hb ht zin_Code hown hK hP 0 rfl rfl 4 (by decide) (ht _ zw_248) (fun _ h9 => h9) rfl d_Code_add_1 ?_
  refine lv_if_lt (tgt := 61) hx hb d_Code_add_4 (by decide) (fun c_1 => ?_) (fun c_1 => ?_)
  · have hv := hv.1 c_1
    exact W.vret hx hb hr (fun t ht hW => ⟨⟨(I0, f1, f2), rfl, hv, ⟨by rw [ht]; exact hP, va_K.moved hW.alike hK, hD⟩⟩, hS.F ht⟩) hS.2.2 d_Code_add_61
  · have hv := hv.2 c_1
    refine lv_aload_n hx hb d_Code_add_7 rfl (lv_at hl 0 rfl) ?_
    refine va_get (D := (dC, dI)) (ci := 1) (v := .int (I0 4)) (C := "NumberDress$Code") (T := T_Code) (N := 5) hx hb ht zin_Code hown hK hP 0 rfl rfl 4 (by decide) (ht _ zw_248) (fun _ h9 => h9) rfl d_Code_add_8 ?_
    refine lv_aload_n hx hb d_Code_add_11 rfl (lv_at hl 0 rfl) ?_
    refine va_get (D := (dC, dI)) (ci := 1) (v := .ref h1) (C := "NumberDress$Code") (T := T_Code) (N := 5) hx hb ht zin_Code hown hK hP 0 rfl rfl 2 (by decide) (ht _ zw_246) (fun _ h9 => h9) rfl d_Code_add_12 ?_
    refine va_alen (v := (nI n1)) hx hb hK hP 1 0 rfl rfl rfl d_Code_add_15 ?_
    refine lv_icmp_ge (tgt := 61) hx hb d_Code_add_16 (by decide) (fun c_2 => ?_) (fun c_2 => ?_)
    · have hv := hv.1 c_2
      exact W.vret hx hb hr (fun t ht hW => ⟨⟨(I0, f1, f2), rfl, hv, ⟨by rw [ht]; exact hP, va_K.moved hW.alike hK, hD⟩⟩, hS.F ht⟩) hS.2.2 d_Code_add_61
    · have hv := hv.2 c_2
      refine lv_aload_n hx hb d_Code_add_19 rfl (lv_at hl 0 rfl) ?_
      refine va_get (D := (dC, dI)) (ci := 1) (v := .int (I0 4)) (C := "NumberDress$Code") (T := T_Code) (N := 5) hx hb ht zin_Code hown hK hP 0 rfl rfl 4 (by decide) (ht _ zw_248) (fun _ h9 => h9) rfl d_Code_add_20 ?_
      refine lv_aload_n hx hb d_Code_add_23 rfl (lv_at hl 0 rfl) ?_
      refine va_get (D := (dC, dI)) (ci := 1) (v := .ref h2) (C := "NumberDress$Code") (T := T_Code) (N := 5) hx hb ht zin_Code hown hK hP 0 rfl rfl 3 (by decide) (ht _ zw_247) (fun _ h9 => h9) rfl d_Code_add_24 ?_
      refine va_alen (v := (nI n2)) hx hb hK hP 2 1 rfl rfl rfl d_Code_add_27 ?_
      refine lv_icmp_ge (tgt := 61) hx hb d_Code_add_28 (by decide) (fun c_3 => ?_) (fun c_3 => ?_)
      · have hv := hv.1 c_3
        exact W.vret hx hb hr (fun t ht hW => ⟨⟨(I0, f1, f2), rfl, hv, ⟨by rw [ht]; exact hP, va_K.moved hW.alike hK, hD⟩⟩, hS.F ht⟩) hS.2.2 d_Code_add_61
      · have hv := hv.2 c_3
        refine lv_aload_n hx hb d_Code_add_31 rfl (lv_at hl 0 rfl) ?_
        refine va_get (D := (dC, dI)) (ci := 1) (v := .ref h1) (C := "NumberDress$Code") (T := T_Code) (N := 5) hx hb ht zin_Code hown hK hP 0 rfl rfl 2 (by decide) (ht _ zw_246) (fun _ h9 => h9) rfl d_Code_add_32 ?_
        refine lv_aload_n hx hb d_Code_add_35 rfl (lv_at hl 0 rfl) ?_
        refine va_get (D := (dC, dI)) (ci := 1) (v := .int (I0 4)) (C := "NumberDress$Code") (T := T_Code) (N := 5) hx hb ht zin_Code hown hK hP 0 rfl rfl 4 (by decide) (ht _ zw_248) (fun _ h9 => h9) rfl d_Code_add_36 ?_
        refine lv_iload_n hx hb d_Code_add_39 rfl (lv_at hl 1 rfl) ?_
        obtain ⟨q_4, hv⟩ := hv
        refine va_iast hx hb hK hP hD hS 1 0 rfl rfl q_4 d_Code_add_40 (fun H locs hP hD hS => ?_)
        have hP : va_P (dC, dI) zCl [(h0, .inr (1, [.ref a0_0, .int (I0 1), .ref h1, .ref h2, .int (I0 4)])), (h1, .inl (cA1, n1, .inl (upd f1 (I0 4).toNatClampNeg x1))), (h2, .inl (cA2, n2, .inl f2))] H := hP
        have hD : va_D A [(h0, .inr (1, [.ref a0_0, .int (I0 1), .ref h1, .ref h2, .int (I0 4)])), (h1, .inl (cA1, n1, .inl (upd f1 (I0 4).toNatClampNeg x1))), (h2, .inl (cA2, n2, .inl f2))] := hD
        refine lv_aload_n hx hb d_Code_add_41 rfl (lv_at hl 0 rfl) ?_
        refine va_get (D := (dC, dI)) (ci := 1) (v := .ref h2) (C := "NumberDress$Code") (T := T_Code) (N := 5) hx hb ht zin_Code hown hK hP 0 rfl rfl 3 (by decide) (ht _ zw_247) (fun _ h9 => h9) rfl d_Code_add_42 ?_
        refine lv_aload_n hx hb d_Code_add_45 rfl (lv_at hl 0 rfl) ?_
        refine va_get (D := (dC, dI)) (ci := 1) (v := .int (I0 4)) (C := "NumberDress$Code") (T := T_Code) (N := 5) hx hb ht zin_Code hown hK hP 0 rfl rfl 4 (by decide) (ht _ zw_248) (fun _ h9 => h9) rfl d_Code_add_46 ?_
        refine lv_iload_n hx hb d_Code_add_49 rfl (lv_at hl 2 rfl) ?_
        obtain ⟨q_5, hv⟩ := hv
        refine va_iast hx hb hK hP hD hS 2 1 rfl rfl q_5 d_Code_add_50 (fun H locs hP hD hS => ?_)
        have hP : va_P (dC, dI) zCl [(h0, .inr (1, [.ref a0_0, .int (I0 1), .ref h1, .ref h2, .int (I0 4)])), (h1, .inl (cA1, n1, .inl (upd f1 (I0 4).toNatClampNeg x1))), (h2, .inl (cA2, n2, .inl (upd f2 (I0 4).toNatClampNeg x2)))] H := hP
        have hD : va_D A [(h0, .inr (1, [.ref a0_0, .int (I0 1), .ref h1, .ref h2, .int (I0 4)])), (h1, .inl (cA1, n1, .inl (upd f1 (I0 4).toNatClampNeg x1))), (h2, .inl (cA2, n2, .inl (upd f2 (I0 4).toNatClampNeg x2)))] := hD
        refine lv_aload_n hx hb d_Code_add_51 rfl (lv_at hl 0 rfl) ?_
        refine lv_dup hx hb d_Code_add_52 rfl ?_
        refine va_get (D := (dC, dI)) (ci := 1) (v := .int (I0 4)) (C := "NumberDress$Code") (T := T_Code) (N := 5) hx hb ht zin_Code hown hK hP 0 rfl rfl 4 (by decide) (ht _ zw_248) (fun _ h9 => h9) rfl d_Code_add_53 ?_
        refine lv_iconst (v := (1 : Int32)) hx hb d_Code_add_56 (by decide) ?_
        refine lv_iadd hx hb d_Code_add_57 ?_
        refine va_put (D := (dC, dI)) (ci := 1) (v := .int ((I0 4) + (1 : Int32))) (ty := .int) (C := "NumberDress$Code") (T := T_Code) (N := 5) hx hb ht zin_Code ty_Code tyok_Code nm_Code hown hK hP hD hS 0 rfl rfl 4 (by decide) (ht _ zw_248) (fun _ h9 => h9) rfl (by decide +kernel) rfl rfl (Nat.le_of_ble_eq_true rfl) d_Code_add_58 (fun H locs hP hD hS => ?_)
        have hP : va_P (dC, dI) zCl [(h0, .inr (1, [.ref a0_0, .int (I0 1), .ref h1, .ref h2, .int ((I0 4) + (1 : Int32))])), (h1, .inl (cA1, n1, .inl (upd f1 (I0 4).toNatClampNeg x1))), (h2, .inl (cA2, n2, .inl (upd f2 (I0 4).toNatClampNeg x2)))] H := hP
        have hD : va_D A [(h0, .inr (1, [.ref a0_0, .int (I0 1), .ref h1, .ref h2, .int ((I0 4) + (1 : Int32))])), (h1, .inl (cA1, n1, .inl (upd f1 (I0 4).toNatClampNeg x1))), (h2, .inl (cA2, n2, .inl (upd f2 (I0 4).toNatClampNeg x2)))] := hD
        exact W.vret hx hb hr (fun t ht hW => ⟨⟨((zu I0 4 ((I0 4) + (1 : Int32))), (upd f1 (I0 4).toNatClampNeg x1), (upd f2 (I0 4).toNatClampNeg x2)), rfl, hv, ⟨by rw [ht]; exact hP, va_K.moved hW.alike hK, hD⟩⟩, hS.F ht⟩) hS.2.2 d_Code_add_61
theorem zi_Code_add : Cond.code (⟨"NumberDress$Code", "add", "(II)V"⟩ : MethodName) prog_2_method_5_code 3 none ∈ zT := zw_713
theorem zh_Code_add : (((⟨"NumberDress$Code", "add", "(II)V"⟩ : MethodName)).cls ≠ "java/lang/invoke/MethodHandle" ∧ ((⟨"NumberDress$Code", "add", "(II)V"⟩ : MethodName)).cls ≠ "java/lang/invoke/VarHandle" ∧ (parseMethodDescriptor ((⟨"NumberDress$Code", "add", "(II)V"⟩ : MethodName)).desc).map (fun d => d.parameters.length) = some 2) := by decide +kernel
set_option maxHeartbeats 4000000 in
set_option maxRecDepth 100000 in
theorem m_Code_add (l : Launch) (dC : Nat → ClassId) (dI : Nat → Nat → Nat) {gE : zG} {h0 : Nat} {a0_0 : Nat} {h1 : Nat} {cA1 : ClassId} {h2 : Nat} {cA2 : ClassId} {I0 : Nat → Int32} {n1 : Nat} {f1 : Nat → Int32} {n2 : Nat} {f2 : Nat → Int32} {x1 : Int32} {x2 : Int32} {sz : Nat} {Z : (Nat → Int32) × (Nat → Int32) × (Nat → Int32) → Prop} (hv : v_Code_add_0 I0 n1 f1 n2 f2 x1 x2 Z) : Met l (⟨"NumberDress$Code", "add", "(II)V"⟩ : MethodName) (Cond.code (⟨"NumberDress$Code", "add", "(II)V"⟩ : MethodName) prog_2_method_5_code 3 none :: zT) { frames := 0, cells := 0, slots := 0, locals := 0 } (zPc gE (dC, dI) zCl [(cA1, .int), (cA2, .int)] [.ref h0, .int x1, .int x2] sz [(h0, .inr (1, [.ref a0_0, .int (I0 1), .ref h1, .ref h2, .int (I0 4)])), (h1, .inl (cA1, n1, .inl f1)), (h2, .inl (cA2, n2, .inl f2))]) (va_Qv Z (zB (dC, dI) zCl [(cA1, .int), (cA2, .int)] (va_A [(h0, .inr (1, [.ref a0_0, .int (I0 1), .ref h1, .ref h2, .int (I0 4)])), (h1, .inl (cA1, n1, .inl f1)), (h2, .inl (cA2, n2, .inl f2))] sz) (fun u : (Nat → Int32) × (Nat → Int32) × (Nat → Int32) => [(h0, .inr (1, [.ref a0_0, .int (u.1 1), .ref h1, .ref h2, .int (u.1 4)])), (h1, .inl (cA1, n1, .inl u.2.1)), (h2, .inl (cA2, n2, .inl u.2.2))])) (va_A [(h0, .inr (1, [.ref a0_0, .int (I0 1), .ref h1, .ref h2, .int (I0 4)])), (h1, .inl (cA1, n1, .inl f1)), (h2, .inl (cA2, n2, .inl f2))] sz)) 0 0 (va_A [(h0, .inr (1, [.ref a0_0, .int (I0 1), .ref h1, .ref h2, .int (I0 4)])), (h1, .inl (cA1, n1, .inl f1)), (h2, .inl (cA2, n2, .inl f2))] sz) := by
  refine Met.ofW (cc := prog_2_method_5_code) (maxL := 3) (ret := none) (by decide) rfl ?_
  intro p e s m args below meth c s₁ B hml hp
  obtain ⟨rfl, hsz, hP, hK, hD0, hE⟩ := hp
  have hts := atoms_spec (ws := (Cond.code (⟨"NumberDress$Code", "add", "(II)V"⟩ : MethodName) prog_2_method_5_code 3 none :: zT)) B.pre
  have hown : s.vm.findClass "NumberDress$Code" = some m.cls := findClass_of_methodNamed B.named
  have hc : zC p s m _ meth c prog_2_method_5_code none 3 "NumberDress$Code" := ⟨B.exec, B.bytes, B.returns, hml, hown, fun w h => hts w (List.mem_cons_of_mem _ h), B.notSynchronized⟩
  subst hsz
  have hD := hD0.self (sz := s.heap.size)
  generalize hAe : va_A [(h0, .inr (1, [.ref a0_0, .int (I0 1), .ref h1, .ref h2, .int (I0 4)])), (h1, .inl (cA1, n1, .inl f1)), (h2, .inl (cA2, n2, .inl f2))] s.heap.size = A at hD hE ⊢
  have hA : ∀ q : Nat, s.heap.size ≤ q → A q := fun q h => by rw [← hAe]; exact Or.inr h
  have hl := lv_entry ([.ref h0, .int x1, .int x2]) (n := 3) (Nat.le_of_ble_eq_true rfl)
  rw [lg_entry_eq]
  exact b_Code_add_0 hc hA hE hl hK hP hD va_S.rf hv
theorem d_ND_tenTo_0 : decode prog_1_method_10_code 0 = .ok (.iload_n 0, 1) := by decide +kernel
theorem d_ND_tenTo_1 : decode prog_1_method_10_code 1 = .ok (.ifCond .lt 19, 3) := by decide +kernel
theorem d_ND_tenTo_4 : decode prog_1_method_10_code 4 = .ok (.iload_n 0, 1) := by decide +kernel
theorem d_ND_tenTo_5 : decode prog_1_method_10_code 5 = .ok (.getstatic 119, 3) := by decide +kernel
theorem d_ND_tenTo_8 : decode prog_1_method_10_code 8 = .ok (.arraylength, 1) := by decide +kernel
theorem d_ND_tenTo_9 : decode prog_1_method_10_code 9 = .ok (.if_icmp .ge 11, 3) := by decide +kernel
theorem d_ND_tenTo_12 : decode prog_1_method_10_code 12 = .ok (.getstatic 119, 3) := by decide +kernel
theorem d_ND_tenTo_15 : decode prog_1_method_10_code 15 = .ok (.iload_n 0, 1) := by decide +kernel
theorem d_ND_tenTo_16 : decode prog_1_method_10_code 16 = .ok (.laload, 1) := by decide +kernel
theorem d_ND_tenTo_17 : decode prog_1_method_10_code 17 = .ok (.goto 4, 3) := by decide +kernel
theorem d_ND_tenTo_20 : decode prog_1_method_10_code 20 = .ok (.lconst 1, 1) := by decide +kernel
theorem d_ND_tenTo_21 : decode prog_1_method_10_code 21 = .ok (.lreturn, 1) := by decide +kernel
def v_ND_tenTo_0 (x0 : Int32)  (Z : Int64 → Unit → Prop) : Prop :=
  ((x0 < 0 → (Z (1 : Int64) ())) ∧ (¬ x0 < 0 → (((19 : Int32) ≤ x0 → (Z (1 : Int64) ())) ∧ (¬ (19 : Int32) ≤ x0 → (vp_in x0 19 ∧ (Z (zTens x0.toNatClampNeg) ()))))))
set_option maxHeartbeats 4000000 in
set_option maxRecDepth 100000 in
theorem b_ND_tenTo_0  {x0 : Int32}  {Z : Int64 → Unit → Prop} {H : Heap} {locs : List Loc} {ls : Array Slot} (hc : zC p s m args meth c prog_1_method_10_code (some .long) 1 "NumberDress") (hA : ∀ q : Nat, s.heap.size ≤ q → A q) (hE : zE gE A s) (hl : lv_has ls 1 [(0, .int x0)]) (hK : va_K (dC, dI) zCl [] s) (hP : va_P (dC, dI) zCl [] H) (hD : va_D A []) (hS : va_S A s.heap H locs) (hv : v_ND_tenTo_0 x0  Z) : W p l e (headSpec (Cond.code (⟨"NumberDress", "tenTo", "(I)J"⟩ : MethodName) prog_1_method_10_code 1 (some .long) :: zT) { frames := 0, cells := 0, slots := 0, locals := 0 }).room s m args below meth c H locs 0 0 (MQ below (va_Ql Z (zB (dC, dI) zCl [] A (fun u : Unit => [])) A) args s 0 0 A) (F0 m 0 ls []) := by
  obtain ⟨hx, hb, hr, hml, hown, ht, hlocks⟩ := id hc
  unfold v_ND_tenTo_0 at hv
  refine lv_iload_n hx hb d_ND_tenTo_0 rfl (lv_at hl 0 rfl) ?_
  refine lv_if_lt (tgt := 20) hx hb d_ND_tenTo_1 (by decide) (fun c_1 => ?_) (fun c_1 => ?_)
  · have hv := hv.1 c_1
    refine lv_lconst (v := (1 : Int64)) hx hb d_ND_tenTo_20 (by decide) ?_
    exact W.lret (v := (1 : Int64)) hx hb hr (fun t ht hW => ⟨⟨_, (), rfl, hv, ⟨by rw [ht]; exact hP, va_K.moved hW.alike hK, hD⟩⟩, hS.F ht⟩) hS.2.2 d_ND_tenTo_21
  · have hv := hv.2 c_1
    refine lv_iload_n hx hb d_ND_tenTo_4 rfl (lv_at hl 0 rfl) ?_
    refine va_gets hx hb hE.tens.1 hS hown (ht _ zw_881) (fun _ h9 => h9) d_ND_tenTo_5 ?_
    refine va_tlen (v := (19 : Int32)) hx hb hE.tens.2 hS (by decide) d_ND_tenTo_8 ?_
    refine lv_icmp_ge (tgt := 20) hx hb d_ND_tenTo_9 (by decide) (fun c_2 => ?_) (fun c_2 => ?_)
    · have hv := hv.1 c_2
      refine lv_lconst (v := (1 : Int64)) hx hb d_ND_tenTo_20 (by decide) ?_
      exact W.lret (v := (1 : Int64)) hx hb hr (fun t ht hW => ⟨⟨_, (), rfl, hv, ⟨by rw [ht]; exact hP, va_K.moved hW.alike hK, hD⟩⟩, hS.F ht⟩) hS.2.2 d_ND_tenTo_21
    · have hv := hv.2 c_2
      refine va_gets hx hb hE.tens.1 hS hown (ht _ zw_881) (fun _ h9 => h9) d_ND_tenTo_12 ?_
      refine lv_iload_n hx hb d_ND_tenTo_15 rfl (lv_at hl 0 rfl) ?_
      obtain ⟨q_3, hv⟩ := hv
      refine va_tl hx hb hE.tens.2 hS q_3 rfl d_ND_tenTo_16 ?_
      refine lv_goto (tgt := 21) hx hb d_ND_tenTo_17 (by decide) ?_
      exact W.lret (v := (zTens x0.toNatClampNeg)) hx hb hr (fun t ht hW => ⟨⟨_, (), rfl, hv, ⟨by rw [ht]; exact hP, va_K.moved hW.alike hK, hD⟩⟩, hS.F ht⟩) hS.2.2 d_ND_tenTo_21
theorem zi_ND_tenTo : Cond.code (⟨"NumberDress", "tenTo", "(I)J"⟩ : MethodName) prog_1_method_10_code 1 (some .long) ∈ zT := zw_884
theorem zh_ND_tenTo : (((⟨"NumberDress", "tenTo", "(I)J"⟩ : MethodName)).cls ≠ "java/lang/invoke/MethodHandle" ∧ ((⟨"NumberDress", "tenTo", "(I)J"⟩ : MethodName)).cls ≠ "java/lang/invoke/VarHandle" ∧ (parseMethodDescriptor ((⟨"NumberDress", "tenTo", "(I)J"⟩ : MethodName)).desc).map (fun d => d.parameters.length) = some 1) := by decide +kernel
set_option maxHeartbeats 4000000 in
set_option maxRecDepth 100000 in
theorem m_ND_tenTo (l : Launch) (dC : Nat → ClassId) (dI : Nat → Nat → Nat) {gE : zG}  {x0 : Int32} {sz : Nat} {Z : Int64 → Unit → Prop} (hv : v_ND_tenTo_0 x0 Z) : Met l (⟨"NumberDress", "tenTo", "(I)J"⟩ : MethodName) (Cond.code (⟨"NumberDress", "tenTo", "(I)J"⟩ : MethodName) prog_1_method_10_code 1 (some .long) :: zT) { frames := 0, cells := 0, slots := 0, locals := 0 } (zPc gE (dC, dI) zCl [] [.int x0] sz []) (va_Ql Z (zB (dC, dI) zCl [] (va_A [] sz) (fun u : Unit => [])) (va_A [] sz)) 0 0 (va_A [] sz) := by
  refine Met.ofW (cc := prog_1_method_10_code) (maxL := 1) (ret := (some .long)) (by decide) rfl ?_
  intro p e s m args below meth c s₁ B hml hp
  obtain ⟨rfl, hsz, hP, hK, hD0, hE⟩ := hp
  have hts := atoms_spec (ws := (Cond.code (⟨"NumberDress", "tenTo", "(I)J"⟩ : MethodName) prog_1_method_10_code 1 (some .long) :: zT)) B.pre
  have hown : s.vm.findClass "NumberDress" = some m.cls := findClass_of_methodNamed B.named
  have hc : zC p s m _ meth c prog_1_method_10_code (some .long) 1 "NumberDress" := ⟨B.exec, B.bytes, B.returns, hml, hown, fun w h => hts w (List.mem_cons_of_mem _ h), B.notSynchronized⟩
  subst hsz
  have hD := hD0.self (sz := s.heap.size)
  generalize hAe : va_A [] s.heap.size = A at hD hE ⊢
  have hA : ∀ q : Nat, s.heap.size ≤ q → A q := fun q h => by rw [← hAe]; exact Or.inr h
  have hl := lv_entry ([.int x0]) (n := 1) (Nat.le_of_ble_eq_true rfl)
  rw [lg_entry_eq]
  exact b_ND_tenTo_0 hc hA hE hl hK hP hD va_S.rf hv
theorem d_ND_digitsOf_0 : decode prog_1_method_11_code 0 = .ok (.iconst 0, 1) := by decide +kernel
theorem d_ND_digitsOf_1 : decode prog_1_method_11_code 1 = .ok (.istore_n 2, 1) := by decide +kernel
theorem d_ND_digitsOf_2 : decode prog_1_method_11_code 2 = .ok (.iload_n 2, 1) := by decide +kernel
theorem d_ND_digitsOf_3 : decode prog_1_method_11_code 3 = .ok (.getstatic 119, 3) := by decide +kernel
theorem d_ND_digitsOf_6 : decode prog_1_method_11_code 6 = .ok (.arraylength, 1) := by decide +kernel
theorem d_ND_digitsOf_7 : decode prog_1_method_11_code 7 = .ok (.if_icmp .ge 18, 3) := by decide +kernel
theorem d_ND_digitsOf_10 : decode prog_1_method_11_code 10 = .ok (.lload_n 0, 1) := by decide +kernel
theorem d_ND_digitsOf_11 : decode prog_1_method_11_code 11 = .ok (.iload_n 2, 1) := by decide +kernel
theorem d_ND_digitsOf_12 : decode prog_1_method_11_code 12 = .ok (.invokestatic 123, 3) := by decide +kernel
theorem d_ND_digitsOf_15 : decode prog_1_method_11_code 15 = .ok (.lcmp, 1) := by decide +kernel
theorem d_ND_digitsOf_16 : decode prog_1_method_11_code 16 = .ok (.ifCond .lt 9, 3) := by decide +kernel
theorem d_ND_digitsOf_19 : decode prog_1_method_11_code 19 = .ok (.iinc 2 1, 3) := by decide +kernel
theorem d_ND_digitsOf_22 : decode prog_1_method_11_code 22 = .ok (.goto (-20), 3) := by decide +kernel
theorem d_ND_digitsOf_25 : decode prog_1_method_11_code 25 = .ok (.iload_n 2, 1) := by decide +kernel
theorem d_ND_digitsOf_26 : decode prog_1_method_11_code 26 = .ok (.ireturn, 1) := by decide +kernel
def v_ND_digitsOf_15 (x0 : Int64) (x2 : Int32) (s0 : Int64) (s1 : Int64) (k2 : Int32 → Prop) (Z : Int32 → Unit → Prop) : Prop :=
  ((s0 < s1 → (Z x2 ())) ∧ (¬ s0 < s1 → (k2 (x2 + (1 : Int32)))))
def v_ND_digitsOf_2 (x0 : Int64)  (Z : Int32 → Unit → Prop) : Nat → Int32 → Prop
  | 0 => fun _ => False
  | N + 1 => fun x2 => (((19 : Int32) ≤ x2 → (Z x2 ())) ∧ (¬ (19 : Int32) ≤ x2 → (v_ND_tenTo_0 x2 (fun r u => (v_ND_digitsOf_15 x0 x2 x0 r (v_ND_digitsOf_2 x0  Z N) Z)))))
def v_ND_digitsOf_0 (x0 : Int64)  (Z : Int32 → Unit → Prop) : Prop :=
  (∃ N, v_ND_digitsOf_2 x0  Z N (0 : Int32))
set_option maxHeartbeats 4000000 in
set_option maxRecDepth 100000 in
theorem b_ND_digitsOf_15  {x0 : Int64} {x2 : Int32} {s0 : Int64} {s1 : Int64} {k2 : Int32 → Prop} {Z : Int32 → Unit → Prop} {H : Heap} {locs : List Loc} {ls : Array Slot} (hc : zC p s m args meth c prog_1_method_11_code (some .int) 3 "NumberDress") (hA : ∀ q : Nat, s.heap.size ≤ q → A q) (hE : zE gE A s) (hk2 : ∀ (x2 : Int32) (H : Heap) (locs : List Loc) (ls : Array Slot), lv_has ls 3 [(0, .long x0), (2, .int x2)] → va_K (dC, dI) zCl [] s → va_P (dC, dI) zCl [] H → va_D A [] → va_S A s.heap H locs → k2 x2 → W p l e (headSpec (Cond.code (⟨"NumberDress", "digitsOf", "(J)I"⟩ : MethodName) prog_1_method_11_code 3 (some .int) :: zT) { frames := 1, cells := 0, slots := 0, locals := 20 }).room s m args below meth c H locs 0 0 (MQ below (va_Qi Z (zB (dC, dI) zCl [] A (fun u : Unit => [])) A) args s 0 0 A) (F0 m 2 ls [])) (hl : lv_has ls 3 [(0, .long x0), (2, .int x2)]) (hK : va_K (dC, dI) zCl [] s) (hP : va_P (dC, dI) zCl [] H) (hD : va_D A []) (hS : va_S A s.heap H locs) (hv : v_ND_digitsOf_15 x0 x2 s0 s1 k2 Z) : W p l e (headSpec (Cond.code (⟨"NumberDress", "digitsOf", "(J)I"⟩ : MethodName) prog_1_method_11_code 3 (some .int) :: zT) { frames := 1, cells := 0, slots := 0, locals := 20 }).room s m args below meth c H locs 0 0 (MQ below (va_Qi Z (zB (dC, dI) zCl [] A (fun u : Unit => [])) A) args s 0 0 A) (F0 m 15 ls [.long s1, .long s0]) := by
  obtain ⟨hx, hb, hr, hml, hown, ht, hlocks⟩ := id hc
  unfold v_ND_digitsOf_15 at hv
  refine z_lcmp_lt (tgt := 25) hx hb d_ND_digitsOf_15 d_ND_digitsOf_16 (by decide) (fun c_1 => ?_) (fun c_1 => ?_)
  · have hv := hv.1 c_1
    refine lv_iload_n hx hb d_ND_digitsOf_25 rfl (lv_at hl 1 rfl) ?_
    exact W.iret (v := x2) hx hb hr (fun t ht hW => ⟨⟨_, (), rfl, hv, ⟨by rw [ht]; exact hP, va_K.moved hW.alike hK, hD⟩⟩, hS.F ht⟩) hS.2.2 d_ND_digitsOf_26
  · have hv := hv.2 c_1
    refine lv_iinc (v := (x2 + (1 : Int32))) (lv' := [(2, .int (x2 + (1 : Int32))), (0, .long x0)]) hx hb d_ND_digitsOf_19 hl (k := 1) rfl rfl (by decide) rfl (fun ls hl => ?_)
    refine lv_goto (tgt := 2) hx hb d_ND_digitsOf_22 (by decide) ?_
    exact hk2 (x2 + (1 : Int32)) _ _ _ (lv_sub hl [1, 0] rfl) hK hP hD hS hv
set_option maxHeartbeats 4000000 in
set_option maxRecDepth 100000 in
theorem b_ND_digitsOf_2  {x0 : Int64}  {Z : Int32 → Unit → Prop} (hc : zC p s m args meth c prog_1_method_11_code (some .int) 3 "NumberDress") (hA : ∀ q : Nat, s.heap.size ≤ q → A q) (hE : zE gE A s) : ∀ (N : Nat) (x2 : Int32) (H : Heap) (locs : List Loc) (ls : Array Slot), lv_has ls 3 [(0, .long x0), (2, .int x2)] → va_K (dC, dI) zCl [] s → va_P (dC, dI) zCl [] H → va_D A [] → va_S A s.heap H locs → v_ND_digitsOf_2 x0  Z N x2 → W p l e (headSpec (Cond.code (⟨"NumberDress", "digitsOf", "(J)I"⟩ : MethodName) prog_1_method_11_code 3 (some .int) :: zT) { frames := 1, cells := 0, slots := 0, locals := 20 }).room s m args below meth c H locs 0 0 (MQ below (va_Qi Z (zB (dC, dI) zCl [] A (fun u : Unit => [])) A) args s 0 0 A) (F0 m 2 ls []) := by
  obtain ⟨hx, hb, hr, hml, hown, ht, hlocks⟩ := id hc
  intro N
  induction N with
  | zero => intro x2 H locs ls hl hK hP hD hS hv; exact hv.elim
  | succ N hk2 =>
    intro x2 H locs ls hl hK hP hD hS hv
    unfold v_ND_digitsOf_2 at hv
    refine lv_iload_n hx hb d_ND_digitsOf_2 rfl (lv_at hl 1 rfl) ?_
    refine va_gets hx hb hE.tens.1 hS hown (ht _ zw_881) (fun _ h9 => h9) d_ND_digitsOf_3 ?_
    refine va_tlen (v := (19 : Int32)) hx hb hE.tens.2 hS (by decide) d_ND_digitsOf_6 ?_
    refine lv_icmp_ge (tgt := 25) hx hb d_ND_digitsOf_7 (by decide) (fun c_1 => ?_) (fun c_1 => ?_)
    · have hv := hv.1 c_1
      refine lv_iload_n hx hb d_ND_digitsOf_25 rfl (lv_at hl 1 rfl) ?_
      exact W.iret (v := x2) hx hb hr (fun t ht hW => ⟨⟨_, (), rfl, hv, ⟨by rw [ht]; exact hP, va_K.moved hW.alike hK, hD⟩⟩, hS.F ht⟩) hS.2.2 d_ND_digitsOf_26
    · have hv := hv.2 c_1
      refine lv_lload_n hx hb d_ND_digitsOf_10 rfl (lv_at hl 0 rfl) ?_
      refine lv_iload_n hx hb d_ND_digitsOf_11 rfl (lv_at hl 1 rfl) ?_
      refine z_calll (wc := []) (wr := []) [] [] (va_runS (As := [.int x2]) (rest := [.long x0]) ⟨hx, hb, hml, hown, ht⟩ (m_ND_tenTo l dC dI hv) ⟨(callB_of 1 ht (zG_in zi_ND_tenTo) rfl rfl rfl (ht _ zw_110) (ht _ zw_882) zh_ND_tenTo ⟨Nat.le_of_ble_eq_true rfl, Nat.le_of_ble_eq_true rfl⟩), (ht _ zw_883)⟩ ⟨zPc_blind, zPc_pre hP hK hD hS hA hE [] [] rfl rfl (by decide) rfl⟩ rfl rfl hl.1 rfl (lv_room (Nat.le_of_ble_eq_true rfl)) d_ND_digitsOf_12 ⟨Nat.le_of_ble_eq_true rfl, Nat.le_of_ble_eq_true rfl⟩) hP hD hS hA rfl rfl (by decide) (by decide) (fun r u H locs hv hP hD hS => ?_)
      have hP : va_P (dC, dI) zCl [] H := hP.sub [] rfl
      have hD : va_D A [] := hD.sub [] (by decide) rfl
      exact b_ND_digitsOf_15 hc hA hE hk2 (lv_sub hl [0, 1] rfl) hK hP hD hS hv
set_option maxHeartbeats 4000000 in
set_option maxRecDepth 100000 in
theorem b_ND_digitsOf_0  {x0 : Int64}  {Z : Int32 → Unit → Prop} {H : Heap} {locs : List Loc} {ls : Array Slot} (hc : zC p s m args meth c prog_1_method_11_code (some .int) 3 "NumberDress") (hA : ∀ q : Nat, s.heap.size ≤ q → A q) (hE : zE gE A s) (hl : lv_has ls 3 [(0, .long x0)]) (hK : va_K (dC, dI) zCl [] s) (hP : va_P (dC, dI) zCl [] H) (hD : va_D A []) (hS : va_S A s.heap H locs) (hv : v_ND_digitsOf_0 x0  Z) : W p l e (headSpec (Cond.code (⟨"NumberDress", "digitsOf", "(J)I"⟩ : MethodName) prog_1_method_11_code 3 (some .int) :: zT) { frames := 1, cells := 0, slots := 0, locals := 20 }).room s m args below meth c H locs 0 0 (MQ below (va_Qi Z (zB (dC, dI) zCl [] A (fun u : Unit => [])) A) args s 0 0 A) (F0 m 0 ls []) := by
  obtain ⟨hx, hb, hr, hml, hown, ht, hlocks⟩ := id hc
  unfold v_ND_digitsOf_0 at hv
  refine lv_iconst (v := (0 : Int32)) hx hb d_ND_digitsOf_0 (by decide) ?_
  refine lv_istore_n (lv' := [(2, .int (0 : Int32)), (0, .long x0)]) hx hb d_ND_digitsOf_1 rfl hl (by decide) rfl (fun ls hl => ?_)
  obtain ⟨N, hv⟩ := hv
  exact b_ND_digitsOf_2 hc hA hE  N (0 : Int32) _ _ _ (lv_sub hl [1, 0] rfl) hK hP hD hS hv
theorem zi_ND_digitsOf : Cond.code (⟨"NumberDress", "digitsOf", "(J)I"⟩ : MethodName) prog_1_method_11_code 3 (some .int) ∈ zT := zw_880
theorem zh_ND_digitsOf : (((⟨"NumberDress", "digitsOf", "(J)I"⟩ : MethodName)).cls ≠ "java/lang/invoke/MethodHandle" ∧ ((⟨"NumberDress", "digitsOf", "(J)I"⟩ : MethodName)).cls ≠ "java/lang/invoke/VarHandle" ∧ (parseMethodDescriptor ((⟨"NumberDress", "digitsOf", "(J)I"⟩ : MethodName)).desc).map (fun d => d.parameters.length) = some 1) := by decide +kernel
set_option maxHeartbeats 4000000 in
set_option maxRecDepth 100000 in
theorem m_ND_digitsOf (l : Launch) (dC : Nat → ClassId) (dI : Nat → Nat → Nat) {gE : zG}  {x0 : Int64} {sz : Nat} {Z : Int32 → Unit → Prop} (hv : v_ND_digitsOf_0 x0 Z) : Met l (⟨"NumberDress", "digitsOf", "(J)I"⟩ : MethodName) (Cond.code (⟨"NumberDress", "digitsOf", "(J)I"⟩ : MethodName) prog_1_method_11_code 3 (some .int) :: zT) { frames := 1, cells := 0, slots := 0, locals := 20 } (zPc gE (dC, dI) zCl [] [.long x0] sz []) (va_Qi Z (zB (dC, dI) zCl [] (va_A [] sz) (fun u : Unit => [])) (va_A [] sz)) 0 0 (va_A [] sz) := by
  refine Met.ofW (cc := prog_1_method_11_code) (maxL := 3) (ret := (some .int)) (by decide) rfl ?_
  intro p e s m args below meth c s₁ B hml hp
  obtain ⟨rfl, hsz, hP, hK, hD0, hE⟩ := hp
  have hts := atoms_spec (ws := (Cond.code (⟨"NumberDress", "digitsOf", "(J)I"⟩ : MethodName) prog_1_method_11_code 3 (some .int) :: zT)) B.pre
  have hown : s.vm.findClass "NumberDress" = some m.cls := findClass_of_methodNamed B.named
  have hc : zC p s m _ meth c prog_1_method_11_code (some .int) 3 "NumberDress" := ⟨B.exec, B.bytes, B.returns, hml, hown, fun w h => hts w (List.mem_cons_of_mem _ h), B.notSynchronized⟩
  subst hsz
  have hD := hD0.self (sz := s.heap.size)
  generalize hAe : va_A [] s.heap.size = A at hD hE ⊢
  have hA : ∀ q : Nat, s.heap.size ≤ q → A q := fun q h => by rw [← hAe]; exact Or.inr h
  have hl := lv_entry ([.long x0]) (n := 3) (Nat.le_of_ble_eq_true rfl)
  rw [lg_entry_eq]
  exact b_ND_digitsOf_0 hc hA hE hl hK hP hD va_S.rf hv
theorem d_Digits_wholes_0 : decode prog_4_method_5_code 0 = .ok (.iconst 0, 1) := by decide +kernel
theorem d_Digits_wholes_1 : decode prog_4_method_5_code 1 = .ok (.aload_n 0, 1) := by decide +kernel
theorem d_Digits_wholes_2 : decode prog_4_method_5_code 2 = .ok (.getfield 23, 3) := by decide +kernel
theorem d_Digits_wholes_5 : decode prog_4_method_5_code 5 = .ok (.aload_n 0, 1) := by decide +kernel
theorem d_Digits_wholes_6 : decode prog_4_method_5_code 6 = .ok (.getfield 26, 3) := by decide +kernel
theorem d_Digits_wholes_9 : decode prog_4_method_5_code 9 = .ok (.isub, 1) := by decide +kernel
theorem d_Digits_wholes_10 : decode prog_4_method_5_code 10 = .ok (.invokestatic 37, 3) := by decide +kernel
theorem d_Digits_wholes_13 : decode prog_4_method_5_code 13 = .ok (.ireturn, 1) := by decide +kernel
def v_Digits_wholes_0 (I0 : Nat → Int32) (J0 : Nat → Int64)  (Z : Int32 → Unit → Prop) : Prop :=
  (Z (zmax (0 : Int32) ((I0 2) - (I0 3))) ())
set_option maxHeartbeats 4000000 in
set_option maxRecDepth 100000 in
theorem b_Digits_wholes_0 {h0 : Nat} {I0 : Nat → Int32} {J0 : Nat → Int64}  {Z : Int32 → Unit → Prop} {H : Heap} {locs : List Loc} {ls : Array Slot} (hc : zC p s m args meth c prog_4_method_5_code (some .int) 1 "NumberDress$Digits") (hA : ∀ q : Nat, s.heap.size ≤ q → A q) (hE : zE gE A s) (hl : lv_has ls 1 [(0, .ref h0)]) (hK : va_K (dC, dI) zCl [] s) (hP : va_P (dC, dI) zCl [(h0, .inr (3, [.long (J0 0), .int (I0 1), .int (I0 2), .int (I0 3)]))] H) (hD : va_D A [(h0, .inr (3, [.long (J0 0), .int (I0 1), .int (I0 2), .int (I0 3)]))]) (hS : va_S A s.heap H locs) (hv : v_Digits_wholes_0 I0 J0  Z) : W p l e (headSpec (Cond.code (⟨"NumberDress$Digits", "wholes", "()I"⟩ : MethodName) prog_4_method_5_code 1 (some .int) :: zT) { frames := 1, cells := 0, slots := 0, locals := 21 }).room s m args below meth c H locs 0 0 (MQ below (va_Qi Z (zB (dC, dI) zCl [] A (fun u : Unit => [(h0, .inr (3, [.long (J0 0), .int (I0 1), .int (I0 2), .int (I0 3)]))])) A) args s 0 0 A) (F0 m 0 ls []) := by
  obtain ⟨hx, hb, hr, hml, hown, ht, hlocks⟩ := id hc
  unfold v_Digits_wholes_0 at hv
  refine lv_iconst (v := (0 : Int32)) hx hb d_Digits_wholes_0 (by decide) ?_
  refine lv_aload_n hx hb d_Digits_wholes_1 rfl (lv_at hl 0 rfl) ?_
  refine va_get (D := (dC, dI)) (ci := 3) (v := .int (I0 2)) (C := "NumberDress$Digits") (T := T_Digits) (N := 4) hx hb ht zin_Digits hown hK hP 0 rfl rfl 2 (by decide) (ht _ zw_345) (fun _ h9 => h9) rfl d_Digits_wholes_2 ?_
  refine lv_aload_n hx hb d_Digits_wholes_5 rfl (lv_at hl 0 rfl) ?_
  refine va_get (D := (dC, dI)) (ci := 3) (v := .int (I0 3)) (C := "NumberDress$Digits") (T := T_Digits) (N := 4) hx hb ht zin_Digits hown hK hP 0 rfl rfl 3 (by decide) (ht _ zw_346) (fun _ h9 => h9) rfl d_Digits_wholes_6 ?_
  refine lv_isub hx hb d_Digits_wholes_9 ?_
  refine z_mmax hx hb (hml.trans hl.1.symm) hown (ht _ zw_946) (ht _ zw_615) (ht _ zw_128) (ht _ zw_616) (Nat.le_of_ble_eq_true rfl) (Nat.le_of_ble_eq_true rfl) (Nat.zero_le _) (Nat.zero_le _) d_Digits_wholes_10 ?_
  exact W.iret (v := (zmax (0 : Int32) ((I0 2) - (I0 3)))) hx hb hr (fun t ht hW => ⟨⟨_, (), rfl, hv, ⟨by rw [ht]; exact hP, va_K.moved hW.alike hK, hD⟩⟩, hS.F ht⟩) hS.2.2 d_Digits_wholes_13
theorem zi_Digits_wholes : Cond.code (⟨"NumberDress$Digits", "wholes", "()I"⟩ : MethodName) prog_4_method_5_code 1 (some .int) ∈ zT := zw_945
theorem zh_Digits_wholes : (((⟨"NumberDress$Digits", "wholes", "()I"⟩ : MethodName)).cls ≠ "java/lang/invoke/MethodHandle" ∧ ((⟨"NumberDress$Digits", "wholes", "()I"⟩ : MethodName)).cls ≠ "java/lang/invoke/VarHandle" ∧ (parseMethodDescriptor ((⟨"NumberDress$Digits", "wholes", "()I"⟩ : MethodName)).desc).map (fun d => d.parameters.length) = some 0) := by decide +kernel
set_option maxHeartbeats 4000000 in
set_option maxRecDepth 100000 in
theorem m_Digits_wholes (l : Launch) (dC : Nat → ClassId) (dI : Nat → Nat → Nat) {gE : zG} {h0 : Nat} {I0 : Nat → Int32} {J0 : Nat → Int64} {sz : Nat} {Z : Int32 → Unit → Prop} (hv : v_Digits_wholes_0 I0 J0 Z) : Met l (⟨"NumberDress$Digits", "wholes", "()I"⟩ : MethodName) (Cond.code (⟨"NumberDress$Digits", "wholes", "()I"⟩ : MethodName) prog_4_method_5_code 1 (some .int) :: zT) { frames := 1, cells := 0, slots := 0, locals := 21 } (zPc gE (dC, dI) zCl [] [.ref h0] sz [(h0, .inr (3, [.long (J0 0), .int (I0 1), .int (I0 2), .int (I0 3)]))]) (va_Qi Z (zB (dC, dI) zCl [] (va_A [(h0, .inr (3, [.long (J0 0), .int (I0 1), .int (I0 2), .int (I0 3)]))] sz) (fun u : Unit => [(h0, .inr (3, [.long (J0 0), .int (I0 1), .int (I0 2), .int (I0 3)]))])) (va_A [(h0, .inr (3, [.long (J0 0), .int (I0 1), .int (I0 2), .int (I0 3)]))] sz)) 0 0 (va_A [(h0, .inr (3, [.long (J0 0), .int (I0 1), .int (I0 2), .int (I0 3)]))] sz) := by
  refine Met.ofW (cc := prog_4_method_5_code) (maxL := 1) (ret := (some .int)) (by decide) rfl ?_
  intro p e s m args below meth c s₁ B hml hp
  obtain ⟨rfl, hsz, hP, hK, hD0, hE⟩ := hp
  have hts := atoms_spec (ws := (Cond.code (⟨"NumberDress$Digits", "wholes", "()I"⟩ : MethodName) prog_4_method_5_code 1 (some .int) :: zT)) B.pre
  have hown : s.vm.findClass "NumberDress$Digits" = some m.cls := findClass_of_methodNamed B.named
  have hc : zC p s m _ meth c prog_4_method_5_code (some .int) 1 "NumberDress$Digits" := ⟨B.exec, B.bytes, B.returns, hml, hown, fun w h => hts w (List.mem_cons_of_mem _ h), B.notSynchronized⟩
  subst hsz
  have hD := hD0.self (sz := s.heap.size)
  generalize hAe : va_A [(h0, .inr (3, [.long (J0 0), .int (I0 1), .int (I0 2), .int (I0 3)]))] s.heap.size = A at hD hE ⊢
  have hA : ∀ q : Nat, s.heap.size ≤ q → A q := fun q h => by rw [← hAe]; exact Or.inr h
  have hl := lv_entry ([.ref h0]) (n := 1) (Nat.le_of_ble_eq_true rfl)
  rw [lg_entry_eq]
  exact b_Digits_wholes_0 hc hA hE hl hK hP hD va_S.rf hv
theorem d_Section_clear_0 : decode prog_10_method_2_code 0 = .ok (.aload_n 0, 1) := by decide +kernel
theorem d_Section_clear_1 : decode prog_10_method_2_code 1 = .ok (.iconst 1, 1) := by decide +kernel
theorem d_Section_clear_2 : decode prog_10_method_2_code 2 = .ok (.putfield 9, 3) := by decide +kernel
theorem d_Section_clear_5 : decode prog_10_method_2_code 5 = .ok (.aload_n 0, 1) := by decide +kernel
theorem d_Section_clear_6 : decode prog_10_method_2_code 6 = .ok (.iload_n 1, 1) := by decide +kernel
theorem d_Section_clear_7 : decode prog_10_method_2_code 7 = .ok (.putfield 15, 3) := by decide +kernel
theorem d_Section_clear_10 : decode prog_10_method_2_code 10 = .ok (.aload_n 0, 1) := by decide +kernel
theorem d_Section_clear_11 : decode prog_10_method_2_code 11 = .ok (.iload_n 1, 1) := by decide +kernel
theorem d_Section_clear_12 : decode prog_10_method_2_code 12 = .ok (.putfield 18, 3) := by decide +kernel
theorem d_Section_clear_15 : decode prog_10_method_2_code 15 = .ok (.aload_n 0, 1) := by decide +kernel
theorem d_Section_clear_16 : decode prog_10_method_2_code 16 = .ok (.iconst 0, 1) := by decide +kernel
theorem d_Section_clear_17 : decode prog_10_method_2_code 17 = .ok (.putfield 21, 3) := by decide +kernel
theorem d_Section_clear_20 : decode prog_10_method_2_code 20 = .ok (.aload_n 0, 1) := by decide +kernel
theorem d_Section_clear_21 : decode prog_10_method_2_code 21 = .ok (.iconst 0, 1) := by decide +kernel
theorem d_Section_clear_22 : decode prog_10_method_2_code 22 = .ok (.putfield 24, 3) := by decide +kernel
theorem d_Section_clear_25 : decode prog_10_method_2_code 25 = .ok (.aload_n 0, 1) := by decide +kernel
theorem d_Section_clear_26 : decode prog_10_method_2_code 26 = .ok (.iconst 0, 1) := by decide +kernel
theorem d_Section_clear_27 : decode prog_10_method_2_code 27 = .ok (.putfield 27, 3) := by decide +kernel
theorem d_Section_clear_30 : decode prog_10_method_2_code 30 = .ok (.aload_n 0, 1) := by decide +kernel
theorem d_Section_clear_31 : decode prog_10_method_2_code 31 = .ok (.iconst 0, 1) := by decide +kernel
theorem d_Section_clear_32 : decode prog_10_method_2_code 32 = .ok (.putfield 31, 3) := by decide +kernel
theorem d_Section_clear_35 : decode prog_10_method_2_code 35 = .ok (.aload_n 0, 1) := by decide +kernel
theorem d_Section_clear_36 : decode prog_10_method_2_code 36 = .ok (.iconst 0, 1) := by decide +kernel
theorem d_Section_clear_37 : decode prog_10_method_2_code 37 = .ok (.putfield 34, 3) := by decide +kernel
theorem d_Section_clear_40 : decode prog_10_method_2_code 40 = .ok (.aload_n 0, 1) := by decide +kernel
theorem d_Section_clear_41 : decode prog_10_method_2_code 41 = .ok (.iconst 0, 1) := by decide +kernel
theorem d_Section_clear_42 : decode prog_10_method_2_code 42 = .ok (.putfield 37, 3) := by decide +kernel
theorem d_Section_clear_45 : decode prog_10_method_2_code 45 = .ok (.aload_n 0, 1) := by decide +kernel
theorem d_Section_clear_46 : decode prog_10_method_2_code 46 = .ok (.iconst 0, 1) := by decide +kernel
theorem d_Section_clear_47 : decode prog_10_method_2_code 47 = .ok (.putfield 40, 3) := by decide +kernel
theorem d_Section_clear_50 : decode prog_10_method_2_code 50 = .ok (.aload_n 0, 1) := by decide +kernel
theorem d_Section_clear_51 : decode prog_10_method_2_code 51 = .ok (.iconst 0, 1) := by decide +kernel
theorem d_Section_clear_52 : decode prog_10_method_2_code 52 = .ok (.putfield 43, 3) := by decide +kernel
theorem d_Section_clear_55 : decode prog_10_method_2_code 55 = .ok (.aload_n 0, 1) := by decide +kernel
theorem d_Section_clear_56 : decode prog_10_method_2_code 56 = .ok (.iconst 0, 1) := by decide +kernel
theorem d_Section_clear_57 : decode prog_10_method_2_code 57 = .ok (.putfield 46, 3) := by decide +kernel
theorem d_Section_clear_60 : decode prog_10_method_2_code 60 = .ok (.aload_n 0, 1) := by decide +kernel
theorem d_Section_clear_61 : decode prog_10_method_2_code 61 = .ok (.iconst 0, 1) := by decide +kernel
theorem d_Section_clear_62 : decode prog_10_method_2_code 62 = .ok (.putfield 49, 3) := by decide +kernel
theorem d_Section_clear_65 : decode prog_10_method_2_code 65 = .ok (.aload_n 0, 1) := by decide +kernel
theorem d_Section_clear_66 : decode prog_10_method_2_code 66 = .ok (.iconst 0, 1) := by decide +kernel
theorem d_Section_clear_67 : decode prog_10_method_2_code 67 = .ok (.putfield 52, 3) := by decide +kernel
theorem d_Section_clear_70 : decode prog_10_method_2_code 70 = .ok (.aload_n 0, 1) := by decide +kernel
theorem d_Section_clear_71 : decode prog_10_method_2_code 71 = .ok (.iconst 0, 1) := by decide +kernel
theorem d_Section_clear_72 : decode prog_10_method_2_code 72 = .ok (.putfield 55, 3) := by decide +kernel
theorem d_Section_clear_75 : decode prog_10_method_2_code 75 = .ok (.return_, 1) := by decide +kernel
def v_Section_clear_0 (I0 : Nat → Int32) (x1 : Int32)  (Z : (Nat → Int32) → Prop) : Prop :=
  (Z ((zu (zu (zu (zu (zu (zu (zu (zu (zu (zu (zu (zu (zu (zu (zu I0 0 (1 : Int32)) 1 x1) 2 x1) 3 (0 : Int32)) 4 (0 : Int32)) 5 (0 : Int32)) 6 (0 : Int32)) 7 (0 : Int32)) 8 (0 : Int32)) 9 (0 : Int32)) 10 (0 : Int32)) 11 (0 : Int32)) 12 (0 : Int32)) 13 (0 : Int32)) 14 (0 : Int32))))
set_option maxHeartbeats 4000000 in
set_option maxRecDepth 100000 in
theorem b_Section_clear_0 {h0 : Nat} {I0 : Nat → Int32} {x1 : Int32}  {Z : (Nat → Int32) → Prop} {H : Heap} {locs : List Loc} {ls : Array Slot} (hc : zC p s m args meth c prog_10_method_2_code none 2 "NumberDress$Section") (hA : ∀ q : Nat, s.heap.size ≤ q → A q) (hE : zE gE A s) (hl : lv_has ls 2 [(0, .ref h0), (1, .int x1)]) (hK : va_K (dC, dI) zCl [] s) (hP : va_P (dC, dI) zCl [(h0, .inr (9, [.int (I0 0), .int (I0 1), .int (I0 2), .int (I0 3), .int (I0 4), .int (I0 5), .int (I0 6), .int (I0 7), .int (I0 8), .int (I0 9), .int (I0 10), .int (I0 11), .int (I0 12), .int (I0 13), .int (I0 14)]))] H) (hD : va_D A [(h0, .inr (9, [.int (I0 0), .int (I0 1), .int (I0 2), .int (I0 3), .int (I0 4), .int (I0 5), .int (I0 6), .int (I0 7), .int (I0 8), .int (I0 9), .int (I0 10), .int (I0 11), .int (I0 12), .int (I0 13), .int (I0 14)]))]) (hS : va_S A s.heap H locs) (hv : v_Section_clear_0 I0 x1  Z) : W p l e (headSpec (Cond.code (⟨"NumberDress$Section", "clear", "(I)V"⟩ : MethodName) prog_10_method_2_code 2 none :: zT) { frames := 0, cells := 0, slots := 0, locals := 0 }).room s m args below meth c H locs 0 0 (MQ below (va_Qv Z (zB (dC, dI) zCl [] A (fun u : (Nat → Int32) => [(h0, .inr (9, [.int (u 0), .int (u 1), .int (u 2), .int (u 3), .int (u 4), .int (u 5), .int (u 6), .int (u 7), .int (u 8), .int (u 9), .int (u 10), .int (u 11), .int (u 12), .int (u 13), .int (u 14)]))])) A) args s 0 0 A) (F0 m 0 ls []) := by
  obtain ⟨hx, hb, hr, hml, hown, ht, hlocks⟩ := id hc
  unfold v_Section_clear_0 at hv
  refine lv_aload_n hx hb d_Section_clear_0 rfl (lv_at hl 0 rfl) ?_
  refine lv_iconst (v := (1 : Int32)) hx hb d_Section_clear_1 (by decide) ?_
  refine va_put (D := (dC, dI)) (ci := 9) (v := .int (1 : Int32)) (ty := .int) (C := "NumberDress$Section") (T := T_Section) (N := 15) hx hb ht zin_Section ty_Section tyok_Section nm_Section hown hK hP hD hS 0 rfl rfl 0 (by decide) (ht _ zw_156) (fun _ h9 => h9) rfl (by decide +kernel) rfl rfl (Nat.le_of_ble_eq_true rfl) d_Section_clear_2 (fun H locs hP hD hS => ?_)
  have hP : va_P (dC, dI) zCl [(h0, .inr (9, [.int (1 : Int32), .int (I0 1), .int (I0 2), .int (I0 3), .int (I0 4), .int (I0 5), .int (I0 6), .int (I0 7), .int (I0 8), .int (I0 9), .int (I0 10), .int (I0 11), .int (I0 12), .int (I0 13), .int (I0 14)]))] H := hP
  have hD : va_D A [(h0, .inr (9, [.int (1 : Int32), .int (I0 1), .int (I0 2), .int (I0 3), .int (I0 4), .int (I0 5), .int (I0 6), .int (I0 7), .int (I0 8), .int (I0 9), .int (I0 10), .int (I0 11), .int (I0 12), .int (I0 13), .int (I0 14)]))] := hD
  refine lv_aload_n hx hb d_Section_clear_5 rfl (lv_at hl 0 rfl) ?_
  refine lv_iload_n hx hb d_Section_clear_6 rfl (lv_at hl 1 rfl) ?_
  refine va_put (D := (dC, dI)) (ci := 9) (v := .int x1) (ty := .int) (C := "NumberDress$Section") (T := T_Section) (N := 15) hx hb ht zin_Section ty_Section tyok_Section nm_Section hown hK hP hD hS 0 rfl rfl 1 (by decide) (ht _ zw_162) (fun _ h9 => h9) rfl (by decide +kernel) rfl rfl (Nat.le_of_ble_eq_true rfl) d_Section_clear_7 (fun H locs hP hD hS => ?_)
  have hP : va_P (dC, dI) zCl [(h0, .inr (9, [.int (1 : Int32), .int x1, .int (I0 2), .int (I0 3), .int (I0 4), .int (I0 5), .int (I0 6), .int (I0 7), .int (I0 8), .int (I0 9), .int (I0 10), .int (I0 11), .int (I0 12), .int (I0 13), .int (I0 14)]))] H := hP
  have hD : va_D A [(h0, .inr (9, [.int (1 : Int32), .int x1, .int (I0 2), .int (I0 3), .int (I0 4), .int (I0 5), .int (I0 6), .int (I0 7), .int (I0 8), .int (I0 9), .int (I0 10), .int (I0 11), .int (I0 12), .int (I0 13), .int (I0 14)]))] := hD
  refine lv_aload_n hx hb d_Section_clear_10 rfl (lv_at hl 0 rfl) ?_
  refine lv_iload_n hx hb d_Section_clear_11 rfl (lv_at hl 1 rfl) ?_
  refine va_put (D := (dC, dI)) (ci := 9) (v := .int x1) (ty := .int) (C := "NumberDress$Section") (T := T_Section) (N := 15) hx hb ht zin_Section ty_Section tyok_Section nm_Section hown hK hP hD hS 0 rfl rfl 2 (by decide) (ht _ zw_168) (fun _ h9 => h9) rfl (by decide +kernel) rfl rfl (Nat.le_of_ble_eq_true rfl) d_Section_clear_12 (fun H locs hP hD hS => ?_)
  have hP : va_P (dC, dI) zCl [(h0, .inr (9, [.int (1 : Int32), .int x1, .int x1, .int (I0 3), .int (I0 4), .int (I0 5), .int (I0 6), .int (I0 7), .int (I0 8), .int (I0 9), .int (I0 10), .int (I0 11), .int (I0 12), .int (I0 13), .int (I0 14)]))] H := hP
  have hD : va_D A [(h0, .inr (9, [.int (1 : Int32), .int x1, .int x1, .int (I0 3), .int (I0 4), .int (I0 5), .int (I0 6), .int (I0 7), .int (I0 8), .int (I0 9), .int (I0 10), .int (I0 11), .int (I0 12), .int (I0 13), .int (I0 14)]))] := hD
  refine lv_aload_n hx hb d_Section_clear_15 rfl (lv_at hl 0 rfl) ?_
  refine lv_iconst (v := (0 : Int32)) hx hb d_Section_clear_16 (by decide) ?_
  refine va_put (D := (dC, dI)) (ci := 9) (v := .int (0 : Int32)) (ty := .int) (C := "NumberDress$Section") (T := T_Section) (N := 15) hx hb ht zin_Section ty_Section tyok_Section nm_Section hown hK hP hD hS 0 rfl rfl 3 (by decide) (ht _ zw_175) (fun _ h9 => h9) rfl (by decide +kernel) rfl rfl (Nat.le_of_ble_eq_true rfl) d_Section_clear_17 (fun H locs hP hD hS => ?_)
  have hP : va_P (dC, dI) zCl [(h0, .inr (9, [.int (1 : Int32), .int x1, .int x1, .int (0 : Int32), .int (I0 4), .int (I0 5), .int (I0 6), .int (I0 7), .int (I0 8), .int (I0 9), .int (I0 10), .int (I0 11), .int (I0 12), .int (I0 13), .int (I0 14)]))] H := hP
  have hD : va_D A [(h0, .inr (9, [.int (1 : Int32), .int x1, .int x1, .int (0 : Int32), .int (I0 4), .int (I0 5), .int (I0 6), .int (I0 7), .int (I0 8), .int (I0 9), .int (I0 10), .int (I0 11), .int (I0 12), .int (I0 13), .int (I0 14)]))] := hD
  refine lv_aload_n hx hb d_Section_clear_20 rfl (lv_at hl 0 rfl) ?_
  refine lv_iconst (v := (0 : Int32)) hx hb d_Section_clear_21 (by decide) ?_
  refine va_put (D := (dC, dI)) (ci := 9) (v := .int (0 : Int32)) (ty := .int) (C := "NumberDress$Section") (T := T_Section) (N := 15) hx hb ht zin_Section ty_Section tyok_Section nm_Section hown hK hP hD hS 0 rfl rfl 4 (by decide) (ht _ zw_178) (fun _ h9 => h9) rfl (by decide +kernel) rfl rfl (Nat.le_of_ble_eq_true rfl) d_Section_clear_22 (fun H locs hP hD hS => ?_)
  have hP : va_P (dC, dI) zCl [(h0, .inr (9, [.int (1 : Int32), .int x1, .int x1, .int (0 : Int32), .int (0 : Int32), .int (I0 5), .int (I0 6), .int (I0 7), .int (I0 8), .int (I0 9), .int (I0 10), .int (I0 11), .int (I0 12), .int (I0 13), .int (I0 14)]))] H := hP
  have hD : va_D A [(h0, .inr (9, [.int (1 : Int32), .int x1, .int x1, .int (0 : Int32), .int (0 : Int32), .int (I0 5), .int (I0 6), .int (I0 7), .int (I0 8), .int (I0 9), .int (I0 10), .int (I0 11), .int (I0 12), .int (I0 13), .int (I0 14)]))] := hD
  refine lv_aload_n hx hb d_Section_clear_25 rfl (lv_at hl 0 rfl) ?_
  refine lv_iconst (v := (0 : Int32)) hx hb d_Section_clear_26 (by decide) ?_
  refine va_put (D := (dC, dI)) (ci := 9) (v := .int (0 : Int32)) (ty := .boolean) (C := "NumberDress$Section") (T := T_Section) (N := 15) hx hb ht zin_Section ty_Section tyok_Section nm_Section hown hK hP hD hS 0 rfl rfl 5 (by decide) (ht _ zw_181) (fun _ h9 => h9) rfl (by decide +kernel) (by decide) (by decide) (Nat.le_of_ble_eq_true rfl) d_Section_clear_27 (fun H locs hP hD hS => ?_)
  have hP : va_P (dC, dI) zCl [(h0, .inr (9, [.int (1 : Int32), .int x1, .int x1, .int (0 : Int32), .int (0 : Int32), .int (0 : Int32), .int (I0 6), .int (I0 7), .int (I0 8), .int (I0 9), .int (I0 10), .int (I0 11), .int (I0 12), .int (I0 13), .int (I0 14)]))] H := hP
  have hD : va_D A [(h0, .inr (9, [.int (1 : Int32), .int x1, .int x1, .int (0 : Int32), .int (0 : Int32), .int (0 : Int32), .int (I0 6), .int (I0 7), .int (I0 8), .int (I0 9), .int (I0 10), .int (I0 11), .int (I0 12), .int (I0 13), .int (I0 14)]))] := hD
  refine lv_aload_n hx hb d_Section_clear_30 rfl (lv_at hl 0 rfl) ?_
  refine lv_iconst (v := (0 : Int32)) hx hb d_Section_clear_31 (by decide) ?_
  refine va_put (D := (dC, dI)) (ci := 9) (v := .int (0 : Int32)) (ty := .boolean) (C := "NumberDress$Section") (T := T_Section) (N := 15) hx hb ht zin_Section ty_Section tyok_Section nm_Section hown hK hP hD hS 0 rfl rfl 6 (by decide) (ht _ zw_183) (fun _ h9 => h9) rfl (by decide +kernel) (by decide) (by decide) (Nat.le_of_ble_eq_true rfl) d_Section_clear_32 (fun H locs hP hD hS => ?_)
  have hP : va_P (dC, dI) zCl [(h0, .inr (9, [.int (1 : Int32), .int x1, .int x1, .int (0 : Int32), .int (0 : Int32), .int (0 : Int32), .int (0 : Int32), .int (I0 7), .int (I0 8), .int (I0 9), .int (I0 10), .int (I0 11), .int (I0 12), .int (I0 13), .int (I0 14)]))] H := hP
  have hD : va_D A [(h0, .inr (9, [.int (1 : Int32), .int x1, .int x1, .int (0 : Int32), .int (0 : Int32), .int (0 : Int32), .int (0 : Int32), .int (I0 7), .int (I0 8), .int (I0 9), .int (I0 10), .int (I0 11), .int (I0 12), .int (I0 13), .int (I0 14)]))] := hD
  refine lv_aload_n hx hb d_Section_clear_35 rfl (lv_at hl 0 rfl) ?_
  refine lv_iconst (v := (0 : Int32)) hx hb d_Section_clear_36 (by decide) ?_
  refine va_put (D := (dC, dI)) (ci := 9) (v := .int (0 : Int32)) (ty := .int) (C := "NumberDress$Section") (T := T_Section) (N := 15) hx hb ht zin_Section ty_Section tyok_Section nm_Section hown hK hP hD hS 0 rfl rfl 7 (by decide) (ht _ zw_187) (fun _ h9 => h9) rfl (by decide +kernel) rfl rfl (Nat.le_of_ble_eq_true rfl) d_Section_clear_37 (fun H locs hP hD hS => ?_)
  have hP : va_P (dC, dI) zCl [(h0, .inr (9, [.int (1 : Int32), .int x1, .int x1, .int (0 : Int32), .int (0 : Int32), .int (0 : Int32), .int (0 : Int32), .int (0 : Int32), .int (I0 8), .int (I0 9), .int (I0 10), .int (I0 11), .int (I0 12), .int (I0 13), .int (I0 14)]))] H := hP
  have hD : va_D A [(h0, .inr (9, [.int (1 : Int32), .int x1, .int x1, .int (0 : Int32), .int (0 : Int32), .int (0 : Int32), .int (0 : Int32), .int (0 : Int32), .int (I0 8), .int (I0 9), .int (I0 10), .int (I0 11), .int (I0 12), .int (I0 13), .int (I0 14)]))] := hD
  refine lv_aload_n hx hb d_Section_clear_40 rfl (lv_at hl 0 rfl) ?_
  refine lv_iconst (v := (0 : Int32)) hx hb d_Section_clear_41 (by decide) ?_
  refine va_put (D := (dC, dI)) (ci := 9) (v := .int (0 : Int32)) (ty := .int) (C := "NumberDress$Section") (T := T_Section) (N := 15) hx hb ht zin_Section ty_Section tyok_Section nm_Section hown hK hP hD hS 0 rfl rfl 8 (by decide) (ht _ zw_190) (fun _ h9 => h9) rfl (by decide +kernel) rfl rfl (Nat.le_of_ble_eq_true rfl) d_Section_clear_42 (fun H locs hP hD hS => ?_)
  have hP : va_P (dC, dI) zCl [(h0, .inr (9, [.int (1 : Int32), .int x1, .int x1, .int (0 : Int32), .int (0 : Int32), .int (0 : Int32), .int (0 : Int32), .int (0 : Int32), .int (0 : Int32), .int (I0 9), .int (I0 10), .int (I0 11), .int (I0 12), .int (I0 13), .int (I0 14)]))] H := hP
  have hD : va_D A [(h0, .inr (9, [.int (1 : Int32), .int x1, .int x1, .int (0 : Int32), .int (0 : Int32), .int (0 : Int32), .int (0 : Int32), .int (0 : Int32), .int (0 : Int32), .int (I0 9), .int (I0 10), .int (I0 11), .int (I0 12), .int (I0 13), .int (I0 14)]))] := hD
  refine lv_aload_n hx hb d_Section_clear_45 rfl (lv_at hl 0 rfl) ?_
  refine lv_iconst (v := (0 : Int32)) hx hb d_Section_clear_46 (by decide) ?_
  refine va_put (D := (dC, dI)) (ci := 9) (v := .int (0 : Int32)) (ty := .int) (C := "NumberDress$Section") (T := T_Section) (N := 15) hx hb ht zin_Section ty_Section tyok_Section nm_Section hown hK hP hD hS 0 rfl rfl 9 (by decide) (ht _ zw_192) (fun _ h9 => h9) rfl (by decide +kernel) rfl rfl (Nat.le_of_ble_eq_true rfl) d_Section_clear_47 (fun H locs hP hD hS => ?_)
  have hP : va_P (dC, dI) zCl [(h0, .inr (9, [.int (1 : Int32), .int x1, .int x1, .int (0 : Int32), .int (0 : Int32), .int (0 : Int32), .int (0 : Int32), .int (0 : Int32), .int (0 : Int32), .int (0 : Int32), .int (I0 10), .int (I0 11), .int (I0 12), .int (I0 13), .int (I0 14)]))] H := hP
  have hD : va_D A [(h0, .inr (9, [.int (1 : Int32), .int x1, .int x1, .int (0 : Int32), .int (0 : Int32), .int (0 : Int32), .int (0 : Int32), .int (0 : Int32), .int (0 : Int32), .int (0 : Int32), .int (I0 10), .int (I0 11), .int (I0 12), .int (I0 13), .int (I0 14)]))] := hD
  refine lv_aload_n hx hb d_Section_clear_50 rfl (lv_at hl 0 rfl) ?_
  refine lv_iconst (v := (0 : Int32)) hx hb d_Section_clear_51 (by decide) ?_
  refine va_put (D := (dC, dI)) (ci := 9) (v := .int (0 : Int32)) (ty := .int) (C := "NumberDress$Section") (T := T_Section) (N := 15) hx hb ht zin_Section ty_Section tyok_Section nm_Section hown hK hP hD hS 0 rfl rfl 10 (by decide) (ht _ zw_195) (fun _ h9 => h9) rfl (by decide +kernel) rfl rfl (Nat.le_of_ble_eq_true rfl) d_Section_clear_52 (fun H locs hP hD hS => ?_)
  have hP : va_P (dC, dI) zCl [(h0, .inr (9, [.int (1 : Int32), .int x1, .int x1, .int (0 : Int32), .int (0 : Int32), .int (0 : Int32), .int (0 : Int32), .int (0 : Int32), .int (0 : Int32), .int (0 : Int32), .int (0 : Int32), .int (I0 11), .int (I0 12), .int (I0 13), .int (I0 14)]))] H := hP
  have hD : va_D A [(h0, .inr (9, [.int (1 : Int32), .int x1, .int x1, .int (0 : Int32), .int (0 : Int32), .int (0 : Int32), .int (0 : Int32), .int (0 : Int32), .int (0 : Int32), .int (0 : Int32), .int (0 : Int32), .int (I0 11), .int (I0 12), .int (I0 13), .int (I0 14)]))] := hD
  refine lv_aload_n hx hb d_Section_clear_55 rfl (lv_at hl 0 rfl) ?_
  refine lv_iconst (v := (0 : Int32)) hx hb d_Section_clear_56 (by decide) ?_
  refine va_put (D := (dC, dI)) (ci := 9) (v := .int (0 : Int32)) (ty := .int) (C := "NumberDress$Section") (T := T_Section) (N := 15) hx hb ht zin_Section ty_Section tyok_Section nm_Section hown hK hP hD hS 0 rfl rfl 11 (by decide) (ht _ zw_198) (fun _ h9 => h9) rfl (by decide +kernel) rfl rfl (Nat.le_of_ble_eq_true rfl) d_Section_clear_57 (fun H locs hP hD hS => ?_)
  have hP : va_P (dC, dI) zCl [(h0, .inr (9, [.int (1 : Int32), .int x1, .int x1, .int (0 : Int32), .int (0 : Int32), .int (0 : Int32), .int (0 : Int32), .int (0 : Int32), .int (0 : Int32), .int (0 : Int32), .int (0 : Int32), .int (0 : Int32), .int (I0 12), .int (I0 13), .int (I0 14)]))] H := hP
  have hD : va_D A [(h0, .inr (9, [.int (1 : Int32), .int x1, .int x1, .int (0 : Int32), .int (0 : Int32), .int (0 : Int32), .int (0 : Int32), .int (0 : Int32), .int (0 : Int32), .int (0 : Int32), .int (0 : Int32), .int (0 : Int32), .int (I0 12), .int (I0 13), .int (I0 14)]))] := hD
  refine lv_aload_n hx hb d_Section_clear_60 rfl (lv_at hl 0 rfl) ?_
  refine lv_iconst (v := (0 : Int32)) hx hb d_Section_clear_61 (by decide) ?_
  refine va_put (D := (dC, dI)) (ci := 9) (v := .int (0 : Int32)) (ty := .int) (C := "NumberDress$Section") (T := T_Section) (N := 15) hx hb ht zin_Section ty_Section tyok_Section nm_Section hown hK hP hD hS 0 rfl rfl 12 (by decide) (ht _ zw_201) (fun _ h9 => h9) rfl (by decide +kernel) rfl rfl (Nat.le_of_ble_eq_true rfl) d_Section_clear_62 (fun H locs hP hD hS => ?_)
  have hP : va_P (dC, dI) zCl [(h0, .inr (9, [.int (1 : Int32), .int x1, .int x1, .int (0 : Int32), .int (0 : Int32), .int (0 : Int32), .int (0 : Int32), .int (0 : Int32), .int (0 : Int32), .int (0 : Int32), .int (0 : Int32), .int (0 : Int32), .int (0 : Int32), .int (I0 13), .int (I0 14)]))] H := hP
  have hD : va_D A [(h0, .inr (9, [.int (1 : Int32), .int x1, .int x1, .int (0 : Int32), .int (0 : Int32), .int (0 : Int32), .int (0 : Int32), .int (0 : Int32), .int (0 : Int32), .int (0 : Int32), .int (0 : Int32), .int (0 : Int32), .int (0 : Int32), .int (I0 13), .int (I0 14)]))] := hD
  refine lv_aload_n hx hb d_Section_clear_65 rfl (lv_at hl 0 rfl) ?_
  refine lv_iconst (v := (0 : Int32)) hx hb d_Section_clear_66 (by decide) ?_
  refine va_put (D := (dC, dI)) (ci := 9) (v := .int (0 : Int32)) (ty := .int) (C := "NumberDress$Section") (T := T_Section) (N := 15) hx hb ht zin_Section ty_Section tyok_Section nm_Section hown hK hP hD hS 0 rfl rfl 13 (by decide) (ht _ zw_205) (fun _ h9 => h9) rfl (by decide +kernel) rfl rfl (Nat.le_of_ble_eq_true rfl) d_Section_clear_67 (fun H locs hP hD hS => ?_)
  have hP : va_P (dC, dI) zCl [(h0, .inr (9, [.int (1 : Int32), .int x1, .int x1, .int (0 : Int32), .int (0 : Int32), .int (0 : Int32), .int (0 : Int32), .int (0 : Int32), .int (0 : Int32), .int (0 : Int32), .int (0 : Int32), .int (0 : Int32), .int (0 : Int32), .int (0 : Int32), .int (I0 14)]))] H := hP
  have hD : va_D A [(h0, .inr (9, [.int (1 : Int32), .int x1, .int x1, .int (0 : Int32), .int (0 : Int32), .int (0 : Int32), .int (0 : Int32), .int (0 : Int32), .int (0 : Int32), .int (0 : Int32), .int (0 : Int32), .int (0 : Int32), .int (0 : Int32), .int (0 : Int32), .int (I0 14)]))] := hD
  refine lv_aload_n hx hb d_Section_clear_70 rfl (lv_at hl 0 rfl) ?_
  refine lv_iconst (v := (0 : Int32)) hx hb d_Section_clear_71 (by decide) ?_
  refine va_put (D := (dC, dI)) (ci := 9) (v := .int (0 : Int32)) (ty := .boolean) (C := "NumberDress$Section") (T := T_Section) (N := 15) hx hb ht zin_Section ty_Section tyok_Section nm_Section hown hK hP hD hS 0 rfl rfl 14 (by decide) (ht _ zw_207) (fun _ h9 => h9) rfl (by decide +kernel) (by decide) (by decide) (Nat.le_of_ble_eq_true rfl) d_Section_clear_72 (fun H locs hP hD hS => ?_)
  have hP : va_P (dC, dI) zCl [(h0, .inr (9, [.int (1 : Int32), .int x1, .int x1, .int (0 : Int32), .int (0 : Int32), .int (0 : Int32), .int (0 : Int32), .int (0 : Int32), .int (0 : Int32), .int (0 : Int32), .int (0 : Int32), .int (0 : Int32), .int (0 : Int32), .int (0 : Int32), .int (0 : Int32)]))] H := hP
  have hD : va_D A [(h0, .inr (9, [.int (1 : Int32), .int x1, .int x1, .int (0 : Int32), .int (0 : Int32), .int (0 : Int32), .int (0 : Int32), .int (0 : Int32), .int (0 : Int32), .int (0 : Int32), .int (0 : Int32), .int (0 : Int32), .int (0 : Int32), .int (0 : Int32), .int (0 : Int32)]))] := hD
  exact W.vret hx hb hr (fun t ht hW => ⟨⟨((zu (zu (zu (zu (zu (zu (zu (zu (zu (zu (zu (zu (zu (zu (zu I0 0 (1 : Int32)) 1 x1) 2 x1) 3 (0 : Int32)) 4 (0 : Int32)) 5 (0 : Int32)) 6 (0 : Int32)) 7 (0 : Int32)) 8 (0 : Int32)) 9 (0 : Int32)) 10 (0 : Int32)) 11 (0 : Int32)) 12 (0 : Int32)) 13 (0 : Int32)) 14 (0 : Int32))), rfl, hv, ⟨by rw [ht]; exact hP, va_K.moved hW.alike hK, hD⟩⟩, hS.F ht⟩) hS.2.2 d_Section_clear_75
theorem zi_Section_clear : Cond.code (⟨"NumberDress$Section", "clear", "(I)V"⟩ : MethodName) prog_10_method_2_code 2 none ∈ zT := zw_668
theorem zh_Section_clear : (((⟨"NumberDress$Section", "clear", "(I)V"⟩ : MethodName)).cls ≠ "java/lang/invoke/MethodHandle" ∧ ((⟨"NumberDress$Section", "clear", "(I)V"⟩ : MethodName)).cls ≠ "java/lang/invoke/VarHandle" ∧ (parseMethodDescriptor ((⟨"NumberDress$Section", "clear", "(I)V"⟩ : MethodName)).desc).map (fun d => d.parameters.length) = some 1) := by decide +kernel
set_option maxHeartbeats 4000000 in
set_option maxRecDepth 100000 in
theorem m_Section_clear (l : Launch) (dC : Nat → ClassId) (dI : Nat → Nat → Nat) {gE : zG} {h0 : Nat} {I0 : Nat → Int32} {x1 : Int32} {sz : Nat} {Z : (Nat → Int32) → Prop} (hv : v_Section_clear_0 I0 x1 Z) : Met l (⟨"NumberDress$Section", "clear", "(I)V"⟩ : MethodName) (Cond.code (⟨"NumberDress$Section", "clear", "(I)V"⟩ : MethodName) prog_10_method_2_code 2 none :: zT) { frames := 0, cells := 0, slots := 0, locals := 0 } (zPc gE (dC, dI) zCl [] [.ref h0, .int x1] sz [(h0, .inr (9, [.int (I0 0), .int (I0 1), .int (I0 2), .int (I0 3), .int (I0 4), .int (I0 5), .int (I0 6), .int (I0 7), .int (I0 8), .int (I0 9), .int (I0 10), .int (I0 11), .int (I0 12), .int (I0 13), .int (I0 14)]))]) (va_Qv Z (zB (dC, dI) zCl [] (va_A [(h0, .inr (9, [.int (I0 0), .int (I0 1), .int (I0 2), .int (I0 3), .int (I0 4), .int (I0 5), .int (I0 6), .int (I0 7), .int (I0 8), .int (I0 9), .int (I0 10), .int (I0 11), .int (I0 12), .int (I0 13), .int (I0 14)]))] sz) (fun u : (Nat → Int32) => [(h0, .inr (9, [.int (u 0), .int (u 1), .int (u 2), .int (u 3), .int (u 4), .int (u 5), .int (u 6), .int (u 7), .int (u 8), .int (u 9), .int (u 10), .int (u 11), .int (u 12), .int (u 13), .int (u 14)]))])) (va_A [(h0, .inr (9, [.int (I0 0), .int (I0 1), .int (I0 2), .int (I0 3), .int (I0 4), .int (I0 5), .int (I0 6), .int (I0 7), .int (I0 8), .int (I0 9), .int (I0 10), .int (I0 11), .int (I0 12), .int (I0 13), .int (I0 14)]))] sz)) 0 0 (va_A [(h0, .inr (9, [.int (I0 0), .int (I0 1), .int (I0 2), .int (I0 3), .int (I0 4), .int (I0 5), .int (I0 6), .int (I0 7), .int (I0 8), .int (I0 9), .int (I0 10), .int (I0 11), .int (I0 12), .int (I0 13), .int (I0 14)]))] sz) := by
  refine Met.ofW (cc := prog_10_method_2_code) (maxL := 2) (ret := none) (by decide) rfl ?_
  intro p e s m args below meth c s₁ B hml hp
  obtain ⟨rfl, hsz, hP, hK, hD0, hE⟩ := hp
  have hts := atoms_spec (ws := (Cond.code (⟨"NumberDress$Section", "clear", "(I)V"⟩ : MethodName) prog_10_method_2_code 2 none :: zT)) B.pre
  have hown : s.vm.findClass "NumberDress$Section" = some m.cls := findClass_of_methodNamed B.named
  have hc : zC p s m _ meth c prog_10_method_2_code none 2 "NumberDress$Section" := ⟨B.exec, B.bytes, B.returns, hml, hown, fun w h => hts w (List.mem_cons_of_mem _ h), B.notSynchronized⟩
  subst hsz
  have hD := hD0.self (sz := s.heap.size)
  generalize hAe : va_A [(h0, .inr (9, [.int (I0 0), .int (I0 1), .int (I0 2), .int (I0 3), .int (I0 4), .int (I0 5), .int (I0 6), .int (I0 7), .int (I0 8), .int (I0 9), .int (I0 10), .int (I0 11), .int (I0 12), .int (I0 13), .int (I0 14)]))] s.heap.size = A at hD hE ⊢
  have hA : ∀ q : Nat, s.heap.size ≤ q → A q := fun q h => by rw [← hAe]; exact Or.inr h
  have hl := lv_entry ([.ref h0, .int x1]) (n := 2) (Nat.le_of_ble_eq_true rfl)
  rw [lg_entry_eq]
  exact b_Section_clear_0 hc hA hE hl hK hP hD va_S.rf hv
end
