section
variable {p : Program} {l : Launch} {e : Env} {s : State} {m : MethodId} {args : Array Value} {below : List Frame} {meth : Method} {c : Code} {dC : Nat → ClassId} {dI : Nat → Nat → Nat} {A : Nat → Prop} {gE : zG}
theorem d_M_isLeap_0 : decode prog_14_method_54_code 0 = .ok (.iload_n 0, 1) := by decide +kernel
theorem d_M_isLeap_1 : decode prog_14_method_54_code 1 = .ok (.iconst 4, 1) := by decide +kernel
theorem d_M_isLeap_2 : decode prog_14_method_54_code 2 = .ok (.irem, 1) := by decide +kernel
theorem d_M_isLeap_3 : decode prog_14_method_54_code 3 = .ok (.ifCond .ne 10, 3) := by decide +kernel
theorem d_M_isLeap_6 : decode prog_14_method_54_code 6 = .ok (.iload_n 0, 1) := by decide +kernel
theorem d_M_isLeap_7 : decode prog_14_method_54_code 7 = .ok (.bipush 100, 2) := by decide +kernel
theorem d_M_isLeap_9 : decode prog_14_method_54_code 9 = .ok (.irem, 1) := by decide +kernel
theorem d_M_isLeap_10 : decode prog_14_method_54_code 10 = .ok (.ifCond .ne 11, 3) := by decide +kernel
theorem d_M_isLeap_13 : decode prog_14_method_54_code 13 = .ok (.iload_n 0, 1) := by decide +kernel
theorem d_M_isLeap_14 : decode prog_14_method_54_code 14 = .ok (.sipush 400, 3) := by decide +kernel
theorem d_M_isLeap_17 : decode prog_14_method_54_code 17 = .ok (.irem, 1) := by decide +kernel
theorem d_M_isLeap_18 : decode prog_14_method_54_code 18 = .ok (.ifCond .ne 7, 3) := by decide +kernel
theorem d_M_isLeap_21 : decode prog_14_method_54_code 21 = .ok (.iconst 1, 1) := by decide +kernel
theorem d_M_isLeap_22 : decode prog_14_method_54_code 22 = .ok (.goto 4, 3) := by decide +kernel
theorem d_M_isLeap_25 : decode prog_14_method_54_code 25 = .ok (.iconst 0, 1) := by decide +kernel
theorem d_M_isLeap_26 : decode prog_14_method_54_code 26 = .ok (.ireturn, 1) := by decide +kernel
set_option maxHeartbeats 4000000 in
set_option maxRecDepth 100000 in
theorem b_M_isLeap_13  {x0 : Int32}  {Z : Int32 → Unit → Prop} {H : Heap} {locs : List Loc} {ls : Array Slot} (hc : zC p s m args meth c prog_14_method_54_code (some .boolean) 1 "NumberDressModel") (hA : ∀ q : Nat, s.heap.size ≤ q → A q) (hE : zE gE A s) (hl : lv_has ls 1 [(0, .int x0)]) (hK : va_K (dC, dI) zCl [] s) (hP : va_P (dC, dI) zCl [] H) (hD : va_D A []) (hS : va_S A s.heap H locs) (hv : v_M_isLeap_13 x0  Z) : W p l e (headSpec (Cond.code (⟨"NumberDressModel", "isLeap", "(I)Z"⟩ : MethodName) prog_14_method_54_code 1 (some .boolean) :: zT) { frames := 0, cells := 0, slots := 0, locals := 0 }).room s m args below meth c H locs 0 0 (MQ below (va_Qi Z (zB (dC, dI) zCl [] A (fun u : Unit => [])) A) args s 0 0 A) (F0 m 13 ls []) := by
  obtain ⟨hx, hb, hr, hml, hown, ht, hlocks⟩ := id hc
  unfold v_M_isLeap_13 at hv
  refine lv_iload_n hx hb d_M_isLeap_13 rfl (lv_at hl 0 rfl) ?_
  refine lv_sipush (v := (400 : Int32)) hx hb d_M_isLeap_14 (by decide) ?_
  refine lv_irem hx hb d_M_isLeap_17 (by decide) ?_
  refine lv_if_ne (tgt := 25) hx hb d_M_isLeap_18 (by decide) (fun c_1 => ?_) (fun c_1 => ?_)
  · have hv := hv.1 c_1
    refine lv_iconst (v := (0 : Int32)) hx hb d_M_isLeap_25 (by decide) ?_
    exact W.zret (v := (0 : Int32)) hx hb hr (by decide) (fun t ht hW => ⟨⟨_, (), rfl, hv, ⟨by rw [ht]; exact hP, va_K.moved hW.alike hK, hD⟩⟩, hS.F ht⟩) hS.2.2 d_M_isLeap_26
  · have hv := hv.2 c_1
    refine lv_iconst (v := (1 : Int32)) hx hb d_M_isLeap_21 (by decide) ?_
    refine lv_goto (tgt := 26) hx hb d_M_isLeap_22 (by decide) ?_
    exact W.zret (v := (1 : Int32)) hx hb hr (by decide) (fun t ht hW => ⟨⟨_, (), rfl, hv, ⟨by rw [ht]; exact hP, va_K.moved hW.alike hK, hD⟩⟩, hS.F ht⟩) hS.2.2 d_M_isLeap_26
set_option maxHeartbeats 4000000 in
set_option maxRecDepth 100000 in
theorem b_M_isLeap_0  {x0 : Int32}  {Z : Int32 → Unit → Prop} {H : Heap} {locs : List Loc} {ls : Array Slot} (hc : zC p s m args meth c prog_14_method_54_code (some .boolean) 1 "NumberDressModel") (hA : ∀ q : Nat, s.heap.size ≤ q → A q) (hE : zE gE A s) (hl : lv_has ls 1 [(0, .int x0)]) (hK : va_K (dC, dI) zCl [] s) (hP : va_P (dC, dI) zCl [] H) (hD : va_D A []) (hS : va_S A s.heap H locs) (hv : v_M_isLeap_0 x0  Z) : W p l e (headSpec (Cond.code (⟨"NumberDressModel", "isLeap", "(I)Z"⟩ : MethodName) prog_14_method_54_code 1 (some .boolean) :: zT) { frames := 0, cells := 0, slots := 0, locals := 0 }).room s m args below meth c H locs 0 0 (MQ below (va_Qi Z (zB (dC, dI) zCl [] A (fun u : Unit => [])) A) args s 0 0 A) (F0 m 0 ls []) := by
  obtain ⟨hx, hb, hr, hml, hown, ht, hlocks⟩ := id hc
  unfold v_M_isLeap_0 at hv
  refine lv_iload_n hx hb d_M_isLeap_0 rfl (lv_at hl 0 rfl) ?_
  refine lv_iconst (v := (4 : Int32)) hx hb d_M_isLeap_1 (by decide) ?_
  refine lv_irem hx hb d_M_isLeap_2 (by decide) ?_
  refine lv_if_ne (tgt := 13) hx hb d_M_isLeap_3 (by decide) (fun c_1 => ?_) (fun c_1 => ?_)
  · have hv := hv.1 c_1
    exact b_M_isLeap_13 hc hA hE  (lv_sub hl [0] rfl) hK hP hD hS hv
  · have hv := hv.2 c_1
    refine lv_iload_n hx hb d_M_isLeap_6 rfl (lv_at hl 0 rfl) ?_
    refine lv_bipush (v := (100 : Int32)) hx hb d_M_isLeap_7 (by decide) ?_
    refine lv_irem hx hb d_M_isLeap_9 (by decide) ?_
    refine lv_if_ne (tgt := 21) hx hb d_M_isLeap_10 (by decide) (fun c_2 => ?_) (fun c_2 => ?_)
    · have hv := hv.1 c_2
      refine lv_iconst (v := (1 : Int32)) hx hb d_M_isLeap_21 (by decide) ?_
      refine lv_goto (tgt := 26) hx hb d_M_isLeap_22 (by decide) ?_
      exact W.zret (v := (1 : Int32)) hx hb hr (by decide) (fun t ht hW => ⟨⟨_, (), rfl, hv, ⟨by rw [ht]; exact hP, va_K.moved hW.alike hK, hD⟩⟩, hS.F ht⟩) hS.2.2 d_M_isLeap_26
    · have hv := hv.2 c_2
      exact b_M_isLeap_13 hc hA hE  (lv_sub hl [0] rfl) hK hP hD hS hv
theorem zi_M_isLeap : Cond.code (⟨"NumberDressModel", "isLeap", "(I)Z"⟩ : MethodName) prog_14_method_54_code 1 (some .boolean) ∈ zT := zw_1633
theorem zh_M_isLeap : (((⟨"NumberDressModel", "isLeap", "(I)Z"⟩ : MethodName)).cls ≠ "java/lang/invoke/MethodHandle" ∧ ((⟨"NumberDressModel", "isLeap", "(I)Z"⟩ : MethodName)).cls ≠ "java/lang/invoke/VarHandle" ∧ (parseMethodDescriptor ((⟨"NumberDressModel", "isLeap", "(I)Z"⟩ : MethodName)).desc).map (fun d => d.parameters.length) = some 1) := by decide +kernel
set_option maxHeartbeats 4000000 in
set_option maxRecDepth 100000 in
theorem m_M_isLeap (l : Launch) (dC : Nat → ClassId) (dI : Nat → Nat → Nat) {gE : zG}  {x0 : Int32} {sz : Nat} {Z : Int32 → Unit → Prop} (hv : v_M_isLeap_0 x0 Z) : Met l (⟨"NumberDressModel", "isLeap", "(I)Z"⟩ : MethodName) (Cond.code (⟨"NumberDressModel", "isLeap", "(I)Z"⟩ : MethodName) prog_14_method_54_code 1 (some .boolean) :: zT) { frames := 0, cells := 0, slots := 0, locals := 0 } (zPc gE (dC, dI) zCl [] [.int x0] sz []) (va_Qi Z (zB (dC, dI) zCl [] (va_A [] sz) (fun u : Unit => [])) (va_A [] sz)) 0 0 (va_A [] sz) := by
  refine Met.ofW (cc := prog_14_method_54_code) (maxL := 1) (ret := (some .boolean)) (by decide +kernel) rfl ?_
  intro p e s m args below meth c s₁ B hml hp
  obtain ⟨rfl, hsz, hP, hK, hD0, hE⟩ := hp
  have hts := atoms_spec (ws := (Cond.code (⟨"NumberDressModel", "isLeap", "(I)Z"⟩ : MethodName) prog_14_method_54_code 1 (some .boolean) :: zT)) B.pre
  have hown : s.vm.findClass "NumberDressModel" = some m.cls := findClass_of_methodNamed B.named
  have hc : zC p s m _ meth c prog_14_method_54_code (some .boolean) 1 "NumberDressModel" := ⟨B.exec, B.bytes, B.returns, hml, hown, fun w h => hts w (List.mem_cons_of_mem _ h), B.notSynchronized⟩
  subst hsz
  have hD := hD0.self (sz := s.heap.size)
  generalize hAe : va_A [] s.heap.size = A at hD hE ⊢
  have hA : ∀ q : Nat, s.heap.size ≤ q → A q := fun q h => by rw [← hAe]; exact Or.inr h
  have hl := lv_entry ([.int x0]) (n := 1) (Nat.le_of_ble_eq_true rfl)
  rw [lg_entry_eq]
  exact b_M_isLeap_0 hc hA hE hl hK hP hD va_S.rf hv
theorem d_M_daysIn_0 : decode prog_14_method_55_code 0 = .ok (.iload_n 1, 1) := by decide +kernel
theorem d_M_daysIn_1 : decode prog_14_method_55_code 1 = .ok (.iconst 2, 1) := by decide +kernel
theorem d_M_daysIn_2 : decode prog_14_method_55_code 2 = .ok (.if_icmp .ne 20, 3) := by decide +kernel
theorem d_M_daysIn_5 : decode prog_14_method_55_code 5 = .ok (.iload_n 0, 1) := by decide +kernel
theorem d_M_daysIn_6 : decode prog_14_method_55_code 6 = .ok (.invokestatic 292, 3) := by decide +kernel
theorem d_M_daysIn_9 : decode prog_14_method_55_code 9 = .ok (.ifCond .eq 8, 3) := by decide +kernel
theorem d_M_daysIn_12 : decode prog_14_method_55_code 12 = .ok (.bipush 29, 2) := by decide +kernel
theorem d_M_daysIn_14 : decode prog_14_method_55_code 14 = .ok (.goto 38, 3) := by decide +kernel
theorem d_M_daysIn_17 : decode prog_14_method_55_code 17 = .ok (.bipush 28, 2) := by decide +kernel
theorem d_M_daysIn_19 : decode prog_14_method_55_code 19 = .ok (.goto 33, 3) := by decide +kernel
theorem d_M_daysIn_22 : decode prog_14_method_55_code 22 = .ok (.iload_n 1, 1) := by decide +kernel
theorem d_M_daysIn_23 : decode prog_14_method_55_code 23 = .ok (.iconst 4, 1) := by decide +kernel
theorem d_M_daysIn_24 : decode prog_14_method_55_code 24 = .ok (.if_icmp .eq 21, 3) := by decide +kernel
theorem d_M_daysIn_27 : decode prog_14_method_55_code 27 = .ok (.iload_n 1, 1) := by decide +kernel
theorem d_M_daysIn_28 : decode prog_14_method_55_code 28 = .ok (.bipush 6, 2) := by decide +kernel
theorem d_M_daysIn_30 : decode prog_14_method_55_code 30 = .ok (.if_icmp .eq 15, 3) := by decide +kernel
theorem d_M_daysIn_33 : decode prog_14_method_55_code 33 = .ok (.iload_n 1, 1) := by decide +kernel
theorem d_M_daysIn_34 : decode prog_14_method_55_code 34 = .ok (.bipush 9, 2) := by decide +kernel
theorem d_M_daysIn_36 : decode prog_14_method_55_code 36 = .ok (.if_icmp .eq 9, 3) := by decide +kernel
theorem d_M_daysIn_39 : decode prog_14_method_55_code 39 = .ok (.iload_n 1, 1) := by decide +kernel
theorem d_M_daysIn_40 : decode prog_14_method_55_code 40 = .ok (.bipush 11, 2) := by decide +kernel
theorem d_M_daysIn_42 : decode prog_14_method_55_code 42 = .ok (.if_icmp .ne 8, 3) := by decide +kernel
theorem d_M_daysIn_45 : decode prog_14_method_55_code 45 = .ok (.bipush 30, 2) := by decide +kernel
theorem d_M_daysIn_47 : decode prog_14_method_55_code 47 = .ok (.goto 5, 3) := by decide +kernel
theorem d_M_daysIn_50 : decode prog_14_method_55_code 50 = .ok (.bipush 31, 2) := by decide +kernel
theorem d_M_daysIn_52 : decode prog_14_method_55_code 52 = .ok (.ireturn, 1) := by decide +kernel
set_option maxHeartbeats 4000000 in
set_option maxRecDepth 100000 in
theorem b_M_daysIn_9  {s0 : Int32}  {Z : Int32 → Unit → Prop} {H : Heap} {locs : List Loc} {ls : Array Slot} (hc : zC p s m args meth c prog_14_method_55_code (some .int) 2 "NumberDressModel") (hA : ∀ q : Nat, s.heap.size ≤ q → A q) (hE : zE gE A s) (hl : lv_has ls 2 []) (hK : va_K (dC, dI) zCl [] s) (hP : va_P (dC, dI) zCl [] H) (hD : va_D A []) (hS : va_S A s.heap H locs) (hv : v_M_daysIn_9 s0  Z) : W p l e (headSpec (Cond.code (⟨"NumberDressModel", "daysIn", "(II)I"⟩ : MethodName) prog_14_method_55_code 2 (some .int) :: zT) { frames := 1, cells := 0, slots := 0, locals := 20 }).room s m args below meth c H locs 0 0 (MQ below (va_Qi Z (zB (dC, dI) zCl [] A (fun u : Unit => [])) A) args s 0 0 A) (F0 m 9 ls [.int s0]) := by
  obtain ⟨hx, hb, hr, hml, hown, ht, hlocks⟩ := id hc
  unfold v_M_daysIn_9 at hv
  refine lv_if_eq (tgt := 17) hx hb d_M_daysIn_9 (by decide) (fun c_1 => ?_) (fun c_1 => ?_)
  · have hv := hv.1 c_1
    refine lv_bipush (v := (28 : Int32)) hx hb d_M_daysIn_17 (by decide) ?_
    refine lv_goto (tgt := 52) hx hb d_M_daysIn_19 (by decide) ?_
    exact W.iret (v := (28 : Int32)) hx hb hr (fun t ht hW => ⟨⟨_, (), rfl, hv, ⟨by rw [ht]; exact hP, va_K.moved hW.alike hK, hD⟩⟩, hS.F ht⟩) hS.2.2 d_M_daysIn_52
  · have hv := hv.2 c_1
    refine lv_bipush (v := (29 : Int32)) hx hb d_M_daysIn_12 (by decide) ?_
    refine lv_goto (tgt := 52) hx hb d_M_daysIn_14 (by decide) ?_
    exact W.iret (v := (29 : Int32)) hx hb hr (fun t ht hW => ⟨⟨_, (), rfl, hv, ⟨by rw [ht]; exact hP, va_K.moved hW.alike hK, hD⟩⟩, hS.F ht⟩) hS.2.2 d_M_daysIn_52
set_option maxHeartbeats 4000000 in
set_option maxRecDepth 100000 in
theorem b_M_daysIn_0  {x0 : Int32} {x1 : Int32}  {Z : Int32 → Unit → Prop} {H : Heap} {locs : List Loc} {ls : Array Slot} (hc : zC p s m args meth c prog_14_method_55_code (some .int) 2 "NumberDressModel") (hA : ∀ q : Nat, s.heap.size ≤ q → A q) (hE : zE gE A s) (hl : lv_has ls 2 [(0, .int x0), (1, .int x1)]) (hK : va_K (dC, dI) zCl [] s) (hP : va_P (dC, dI) zCl [] H) (hD : va_D A []) (hS : va_S A s.heap H locs) (hv : v_M_daysIn_0 x0 x1  Z) : W p l e (headSpec (Cond.code (⟨"NumberDressModel", "daysIn", "(II)I"⟩ : MethodName) prog_14_method_55_code 2 (some .int) :: zT) { frames := 1, cells := 0, slots := 0, locals := 20 }).room s m args below meth c H locs 0 0 (MQ below (va_Qi Z (zB (dC, dI) zCl [] A (fun u : Unit => [])) A) args s 0 0 A) (F0 m 0 ls []) := by
  obtain ⟨hx, hb, hr, hml, hown, ht, hlocks⟩ := id hc
  unfold v_M_daysIn_0 at hv
  refine lv_iload_n hx hb d_M_daysIn_0 rfl (lv_at hl 1 rfl) ?_
  refine lv_iconst (v := (2 : Int32)) hx hb d_M_daysIn_1 (by decide) ?_
  refine lv_icmp_ne (tgt := 22) hx hb d_M_daysIn_2 (by decide) (fun c_1 => ?_) (fun c_1 => ?_)
  · have hv := hv.1 c_1
    refine lv_iload_n hx hb d_M_daysIn_22 rfl (lv_at hl 1 rfl) ?_
    refine lv_iconst (v := (4 : Int32)) hx hb d_M_daysIn_23 (by decide) ?_
    refine lv_icmp_eq (tgt := 45) hx hb d_M_daysIn_24 (by decide) (fun c_2 => ?_) (fun c_2 => ?_)
    · have hv := hv.1 c_2
      refine lv_bipush (v := (30 : Int32)) hx hb d_M_daysIn_45 (by decide) ?_
      refine lv_goto (tgt := 52) hx hb d_M_daysIn_47 (by decide) ?_
      exact W.iret (v := (30 : Int32)) hx hb hr (fun t ht hW => ⟨⟨_, (), rfl, hv, ⟨by rw [ht]; exact hP, va_K.moved hW.alike hK, hD⟩⟩, hS.F ht⟩) hS.2.2 d_M_daysIn_52
    · have hv := hv.2 c_2
      refine lv_iload_n hx hb d_M_daysIn_27 rfl (lv_at hl 1 rfl) ?_
      refine lv_bipush (v := (6 : Int32)) hx hb d_M_daysIn_28 (by decide) ?_
      refine lv_icmp_eq (tgt := 45) hx hb d_M_daysIn_30 (by decide) (fun c_3 => ?_) (fun c_3 => ?_)
      · have hv := hv.1 c_3
        refine lv_bipush (v := (30 : Int32)) hx hb d_M_daysIn_45 (by decide) ?_
        refine lv_goto (tgt := 52) hx hb d_M_daysIn_47 (by decide) ?_
        exact W.iret (v := (30 : Int32)) hx hb hr (fun t ht hW => ⟨⟨_, (), rfl, hv, ⟨by rw [ht]; exact hP, va_K.moved hW.alike hK, hD⟩⟩, hS.F ht⟩) hS.2.2 d_M_daysIn_52
      · have hv := hv.2 c_3
        refine lv_iload_n hx hb d_M_daysIn_33 rfl (lv_at hl 1 rfl) ?_
        refine lv_bipush (v := (9 : Int32)) hx hb d_M_daysIn_34 (by decide) ?_
        refine lv_icmp_eq (tgt := 45) hx hb d_M_daysIn_36 (by decide) (fun c_4 => ?_) (fun c_4 => ?_)
        · have hv := hv.1 c_4
          refine lv_bipush (v := (30 : Int32)) hx hb d_M_daysIn_45 (by decide) ?_
          refine lv_goto (tgt := 52) hx hb d_M_daysIn_47 (by decide) ?_
          exact W.iret (v := (30 : Int32)) hx hb hr (fun t ht hW => ⟨⟨_, (), rfl, hv, ⟨by rw [ht]; exact hP, va_K.moved hW.alike hK, hD⟩⟩, hS.F ht⟩) hS.2.2 d_M_daysIn_52
        · have hv := hv.2 c_4
          refine lv_iload_n hx hb d_M_daysIn_39 rfl (lv_at hl 1 rfl) ?_
          refine lv_bipush (v := (11 : Int32)) hx hb d_M_daysIn_40 (by decide) ?_
          refine lv_icmp_ne (tgt := 50) hx hb d_M_daysIn_42 (by decide) (fun c_5 => ?_) (fun c_5 => ?_)
          · have hv := hv.1 c_5
            refine lv_bipush (v := (31 : Int32)) hx hb d_M_daysIn_50 (by decide) ?_
            exact W.iret (v := (31 : Int32)) hx hb hr (fun t ht hW => ⟨⟨_, (), rfl, hv, ⟨by rw [ht]; exact hP, va_K.moved hW.alike hK, hD⟩⟩, hS.F ht⟩) hS.2.2 d_M_daysIn_52
          · have hv := hv.2 c_5
            refine lv_bipush (v := (30 : Int32)) hx hb d_M_daysIn_45 (by decide) ?_
            refine lv_goto (tgt := 52) hx hb d_M_daysIn_47 (by decide) ?_
            exact W.iret (v := (30 : Int32)) hx hb hr (fun t ht hW => ⟨⟨_, (), rfl, hv, ⟨by rw [ht]; exact hP, va_K.moved hW.alike hK, hD⟩⟩, hS.F ht⟩) hS.2.2 d_M_daysIn_52
  · have hv := hv.2 c_1
    refine lv_iload_n hx hb d_M_daysIn_5 rfl (lv_at hl 0 rfl) ?_
    refine z_calli (wc := []) (wr := []) [] [] (va_runS (As := [.int x0]) (rest := []) ⟨hx, hb, hml, hown, ht⟩ (m_M_isLeap l dC dI hv) ⟨(callB_of 1 ht (zG_in zi_M_isLeap) rfl rfl rfl (ht _ zw_122) (ht _ zw_1631) zh_M_isLeap ⟨Nat.le_of_ble_eq_true rfl, Nat.le_of_ble_eq_true rfl⟩), (ht _ zw_1632)⟩ ⟨zPc_blind, zPc_pre hP hK hD hS hA hE [] [] rfl rfl (by decide) rfl⟩ rfl rfl hl.1 rfl (lv_room (Nat.le_of_ble_eq_true rfl)) d_M_daysIn_6 ⟨Nat.le_of_ble_eq_true rfl, Nat.le_of_ble_eq_true rfl⟩) hP hD hS hA rfl rfl (by decide) (by decide) (fun r u H locs hv hP hD hS => ?_)
    have hP : va_P (dC, dI) zCl [] H := hP.sub [] rfl
    have hD : va_D A [] := hD.sub [] (by decide) rfl
    exact b_M_daysIn_9 hc hA hE  (lv_sub hl [] rfl) hK hP hD hS hv
theorem zi_M_daysIn : Cond.code (⟨"NumberDressModel", "daysIn", "(II)I"⟩ : MethodName) prog_14_method_55_code 2 (some .int) ∈ zT := zw_1636
theorem zh_M_daysIn : (((⟨"NumberDressModel", "daysIn", "(II)I"⟩ : MethodName)).cls ≠ "java/lang/invoke/MethodHandle" ∧ ((⟨"NumberDressModel", "daysIn", "(II)I"⟩ : MethodName)).cls ≠ "java/lang/invoke/VarHandle" ∧ (parseMethodDescriptor ((⟨"NumberDressModel", "daysIn", "(II)I"⟩ : MethodName)).desc).map (fun d => d.parameters.length) = some 2) := by decide +kernel
set_option maxHeartbeats 4000000 in
set_option maxRecDepth 100000 in
theorem m_M_daysIn (l : Launch) (dC : Nat → ClassId) (dI : Nat → Nat → Nat) {gE : zG}  {x0 : Int32} {x1 : Int32} {sz : Nat} {Z : Int32 → Unit → Prop} (hv : v_M_daysIn_0 x0 x1 Z) : Met l (⟨"NumberDressModel", "daysIn", "(II)I"⟩ : MethodName) (Cond.code (⟨"NumberDressModel", "daysIn", "(II)I"⟩ : MethodName) prog_14_method_55_code 2 (some .int) :: zT) { frames := 1, cells := 0, slots := 0, locals := 20 } (zPc gE (dC, dI) zCl [] [.int x0, .int x1] sz []) (va_Qi Z (zB (dC, dI) zCl [] (va_A [] sz) (fun u : Unit => [])) (va_A [] sz)) 0 0 (va_A [] sz) := by
  refine Met.ofW (cc := prog_14_method_55_code) (maxL := 2) (ret := (some .int)) (by decide +kernel) rfl ?_
  intro p e s m args below meth c s₁ B hml hp
  obtain ⟨rfl, hsz, hP, hK, hD0, hE⟩ := hp
  have hts := atoms_spec (ws := (Cond.code (⟨"NumberDressModel", "daysIn", "(II)I"⟩ : MethodName) prog_14_method_55_code 2 (some .int) :: zT)) B.pre
  have hown : s.vm.findClass "NumberDressModel" = some m.cls := findClass_of_methodNamed B.named
  have hc : zC p s m _ meth c prog_14_method_55_code (some .int) 2 "NumberDressModel" := ⟨B.exec, B.bytes, B.returns, hml, hown, fun w h => hts w (List.mem_cons_of_mem _ h), B.notSynchronized⟩
  subst hsz
  have hD := hD0.self (sz := s.heap.size)
  generalize hAe : va_A [] s.heap.size = A at hD hE ⊢
  have hA : ∀ q : Nat, s.heap.size ≤ q → A q := fun q h => by rw [← hAe]; exact Or.inr h
  have hl := lv_entry ([.int x0, .int x1]) (n := 2) (Nat.le_of_ble_eq_true rfl)
  rw [lg_entry_eq]
  exact b_M_daysIn_0 hc hA hE hl hK hP hD va_S.rf hv
theorem d_M_tenTo_0 : decode prog_14_method_56_code 0 = .ok (.iload_n 0, 1) := by decide +kernel
theorem d_M_tenTo_1 : decode prog_14_method_56_code 1 = .ok (.ifCond .ne 7, 3) := by decide +kernel
theorem d_M_tenTo_4 : decode prog_14_method_56_code 4 = .ok (.iconst 1, 1) := by decide +kernel
theorem d_M_tenTo_5 : decode prog_14_method_56_code 5 = .ok (.goto 26, 3) := by decide +kernel
theorem d_M_tenTo_8 : decode prog_14_method_56_code 8 = .ok (.iload_n 0, 1) := by decide +kernel
theorem d_M_tenTo_9 : decode prog_14_method_56_code 9 = .ok (.iconst 1, 1) := by decide +kernel
theorem d_M_tenTo_10 : decode prog_14_method_56_code 10 = .ok (.if_icmp .ne 8, 3) := by decide +kernel
theorem d_M_tenTo_13 : decode prog_14_method_56_code 13 = .ok (.bipush 10, 2) := by decide +kernel
theorem d_M_tenTo_15 : decode prog_14_method_56_code 15 = .ok (.goto 16, 3) := by decide +kernel
theorem d_M_tenTo_18 : decode prog_14_method_56_code 18 = .ok (.iload_n 0, 1) := by decide +kernel
theorem d_M_tenTo_19 : decode prog_14_method_56_code 19 = .ok (.iconst 2, 1) := by decide +kernel
theorem d_M_tenTo_20 : decode prog_14_method_56_code 20 = .ok (.if_icmp .ne 8, 3) := by decide +kernel
theorem d_M_tenTo_23 : decode prog_14_method_56_code 23 = .ok (.bipush 100, 2) := by decide +kernel
theorem d_M_tenTo_25 : decode prog_14_method_56_code 25 = .ok (.goto 6, 3) := by decide +kernel
theorem d_M_tenTo_28 : decode prog_14_method_56_code 28 = .ok (.sipush 1000, 3) := by decide +kernel
theorem d_M_tenTo_31 : decode prog_14_method_56_code 31 = .ok (.ireturn, 1) := by decide +kernel
set_option maxHeartbeats 4000000 in
set_option maxRecDepth 100000 in
theorem b_M_tenTo_0  {x0 : Int32}  {Z : Int32 → Unit → Prop} {H : Heap} {locs : List Loc} {ls : Array Slot} (hc : zC p s m args meth c prog_14_method_56_code (some .int) 1 "NumberDressModel") (hA : ∀ q : Nat, s.heap.size ≤ q → A q) (hE : zE gE A s) (hl : lv_has ls 1 [(0, .int x0)]) (hK : va_K (dC, dI) zCl [] s) (hP : va_P (dC, dI) zCl [] H) (hD : va_D A []) (hS : va_S A s.heap H locs) (hv : v_M_tenTo_0 x0  Z) : W p l e (headSpec (Cond.code (⟨"NumberDressModel", "tenTo", "(I)I"⟩ : MethodName) prog_14_method_56_code 1 (some .int) :: zT) { frames := 0, cells := 0, slots := 0, locals := 0 }).room s m args below meth c H locs 0 0 (MQ below (va_Qi Z (zB (dC, dI) zCl [] A (fun u : Unit => [])) A) args s 0 0 A) (F0 m 0 ls []) := by
  obtain ⟨hx, hb, hr, hml, hown, ht, hlocks⟩ := id hc
  unfold v_M_tenTo_0 at hv
  refine lv_iload_n hx hb d_M_tenTo_0 rfl (lv_at hl 0 rfl) ?_
  refine lv_if_ne (tgt := 8) hx hb d_M_tenTo_1 (by decide) (fun c_1 => ?_) (fun c_1 => ?_)
  · have hv := hv.1 c_1
    refine lv_iload_n hx hb d_M_tenTo_8 rfl (lv_at hl 0 rfl) ?_
    refine lv_iconst (v := (1 : Int32)) hx hb d_M_tenTo_9 (by decide) ?_
    refine lv_icmp_ne (tgt := 18) hx hb d_M_tenTo_10 (by decide) (fun c_2 => ?_) (fun c_2 => ?_)
    · have hv := hv.1 c_2
      refine lv_iload_n hx hb d_M_tenTo_18 rfl (lv_at hl 0 rfl) ?_
      refine lv_iconst (v := (2 : Int32)) hx hb d_M_tenTo_19 (by decide) ?_
      refine lv_icmp_ne (tgt := 28) hx hb d_M_tenTo_20 (by decide) (fun c_3 => ?_) (fun c_3 => ?_)
      · have hv := hv.1 c_3
        refine lv_sipush (v := (1000 : Int32)) hx hb d_M_tenTo_28 (by decide) ?_
        exact W.iret (v := (1000 : Int32)) hx hb hr (fun t ht hW => ⟨⟨_, (), rfl, hv, ⟨by rw [ht]; exact hP, va_K.moved hW.alike hK, hD⟩⟩, hS.F ht⟩) hS.2.2 d_M_tenTo_31
      · have hv := hv.2 c_3
        refine lv_bipush (v := (100 : Int32)) hx hb d_M_tenTo_23 (by decide) ?_
        refine lv_goto (tgt := 31) hx hb d_M_tenTo_25 (by decide) ?_
        exact W.iret (v := (100 : Int32)) hx hb hr (fun t ht hW => ⟨⟨_, (), rfl, hv, ⟨by rw [ht]; exact hP, va_K.moved hW.alike hK, hD⟩⟩, hS.F ht⟩) hS.2.2 d_M_tenTo_31
    · have hv := hv.2 c_2
      refine lv_bipush (v := (10 : Int32)) hx hb d_M_tenTo_13 (by decide) ?_
      refine lv_goto (tgt := 31) hx hb d_M_tenTo_15 (by decide) ?_
      exact W.iret (v := (10 : Int32)) hx hb hr (fun t ht hW => ⟨⟨_, (), rfl, hv, ⟨by rw [ht]; exact hP, va_K.moved hW.alike hK, hD⟩⟩, hS.F ht⟩) hS.2.2 d_M_tenTo_31
  · have hv := hv.2 c_1
    refine lv_iconst (v := (1 : Int32)) hx hb d_M_tenTo_4 (by decide) ?_
    refine lv_goto (tgt := 31) hx hb d_M_tenTo_5 (by decide) ?_
    exact W.iret (v := (1 : Int32)) hx hb hr (fun t ht hW => ⟨⟨_, (), rfl, hv, ⟨by rw [ht]; exact hP, va_K.moved hW.alike hK, hD⟩⟩, hS.F ht⟩) hS.2.2 d_M_tenTo_31
theorem zi_M_tenTo : Cond.code (⟨"NumberDressModel", "tenTo", "(I)I"⟩ : MethodName) prog_14_method_56_code 1 (some .int) ∈ zT := zw_1624
theorem zh_M_tenTo : (((⟨"NumberDressModel", "tenTo", "(I)I"⟩ : MethodName)).cls ≠ "java/lang/invoke/MethodHandle" ∧ ((⟨"NumberDressModel", "tenTo", "(I)I"⟩ : MethodName)).cls ≠ "java/lang/invoke/VarHandle" ∧ (parseMethodDescriptor ((⟨"NumberDressModel", "tenTo", "(I)I"⟩ : MethodName)).desc).map (fun d => d.parameters.length) = some 1) := by decide +kernel
set_option maxHeartbeats 4000000 in
set_option maxRecDepth 100000 in
theorem m_M_tenTo (l : Launch) (dC : Nat → ClassId) (dI : Nat → Nat → Nat) {gE : zG}  {x0 : Int32} {sz : Nat} {Z : Int32 → Unit → Prop} (hv : v_M_tenTo_0 x0 Z) : Met l (⟨"NumberDressModel", "tenTo", "(I)I"⟩ : MethodName) (Cond.code (⟨"NumberDressModel", "tenTo", "(I)I"⟩ : MethodName) prog_14_method_56_code 1 (some .int) :: zT) { frames := 0, cells := 0, slots := 0, locals := 0 } (zPc gE (dC, dI) zCl [] [.int x0] sz []) (va_Qi Z (zB (dC, dI) zCl [] (va_A [] sz) (fun u : Unit => [])) (va_A [] sz)) 0 0 (va_A [] sz) := by
  refine Met.ofW (cc := prog_14_method_56_code) (maxL := 1) (ret := (some .int)) (by decide +kernel) rfl ?_
  intro p e s m args below meth c s₁ B hml hp
  obtain ⟨rfl, hsz, hP, hK, hD0, hE⟩ := hp
  have hts := atoms_spec (ws := (Cond.code (⟨"NumberDressModel", "tenTo", "(I)I"⟩ : MethodName) prog_14_method_56_code 1 (some .int) :: zT)) B.pre
  have hown : s.vm.findClass "NumberDressModel" = some m.cls := findClass_of_methodNamed B.named
  have hc : zC p s m _ meth c prog_14_method_56_code (some .int) 1 "NumberDressModel" := ⟨B.exec, B.bytes, B.returns, hml, hown, fun w h => hts w (List.mem_cons_of_mem _ h), B.notSynchronized⟩
  subst hsz
  have hD := hD0.self (sz := s.heap.size)
  generalize hAe : va_A [] s.heap.size = A at hD hE ⊢
  have hA : ∀ q : Nat, s.heap.size ≤ q → A q := fun q h => by rw [← hAe]; exact Or.inr h
  have hl := lv_entry ([.int x0]) (n := 1) (Nat.le_of_ble_eq_true rfl)
  rw [lg_entry_eq]
  exact b_M_tenTo_0 hc hA hE hl hK hP hD va_S.rf hv
theorem d_M_findDay_0 : decode prog_14_method_57_code 0 = .ok (.aload_n 0, 1) := by decide +kernel
theorem d_M_findDay_1 : decode prog_14_method_57_code 1 = .ok (.iconst 0, 1) := by decide +kernel
theorem d_M_findDay_2 : decode prog_14_method_57_code 2 = .ok (.putfield 295, 3) := by decide +kernel
theorem d_M_findDay_5 : decode prog_14_method_57_code 5 = .ok (.aload_n 0, 1) := by decide +kernel
theorem d_M_findDay_6 : decode prog_14_method_57_code 6 = .ok (.getfield 19, 3) := by decide +kernel
theorem d_M_findDay_9 : decode prog_14_method_57_code 9 = .ok (.iload_n 1, 1) := by decide +kernel
theorem d_M_findDay_10 : decode prog_14_method_57_code 10 = .ok (.iaload, 1) := by decide +kernel
theorem d_M_findDay_11 : decode prog_14_method_57_code 11 = .ok (.istore_n 2, 1) := by decide +kernel
theorem d_M_findDay_12 : decode prog_14_method_57_code 12 = .ok (.iload_n 2, 1) := by decide +kernel
theorem d_M_findDay_13 : decode prog_14_method_57_code 13 = .ok (.aload_n 0, 1) := by decide +kernel
theorem d_M_findDay_14 : decode prog_14_method_57_code 14 = .ok (.getfield 22, 3) := by decide +kernel
theorem d_M_findDay_17 : decode prog_14_method_57_code 17 = .ok (.iload_n 1, 1) := by decide +kernel
theorem d_M_findDay_18 : decode prog_14_method_57_code 18 = .ok (.iaload, 1) := by decide +kernel
theorem d_M_findDay_19 : decode prog_14_method_57_code 19 = .ok (.if_icmp .ge 50, 3) := by decide +kernel
theorem d_M_findDay_22 : decode prog_14_method_57_code 22 = .ok (.aload_n 0, 1) := by decide +kernel
theorem d_M_findDay_23 : decode prog_14_method_57_code 23 = .ok (.aload_n 0, 1) := by decide +kernel
theorem d_M_findDay_24 : decode prog_14_method_57_code 24 = .ok (.getfield 25, 3) := by decide +kernel
theorem d_M_findDay_27 : decode prog_14_method_57_code 27 = .ok (.iload_n 2, 1) := by decide +kernel
theorem d_M_findDay_28 : decode prog_14_method_57_code 28 = .ok (.iaload, 1) := by decide +kernel
theorem d_M_findDay_29 : decode prog_14_method_57_code 29 = .ok (.bipush 15, 2) := by decide +kernel
theorem d_M_findDay_31 : decode prog_14_method_57_code 31 = .ok (.if_icmp .ne 25, 3) := by decide +kernel
theorem d_M_findDay_34 : decode prog_14_method_57_code 34 = .ok (.aload_n 0, 1) := by decide +kernel
theorem d_M_findDay_35 : decode prog_14_method_57_code 35 = .ok (.getfield 28, 3) := by decide +kernel
theorem d_M_findDay_38 : decode prog_14_method_57_code 38 = .ok (.iload_n 2, 1) := by decide +kernel
theorem d_M_findDay_39 : decode prog_14_method_57_code 39 = .ok (.iaload, 1) := by decide +kernel
theorem d_M_findDay_40 : decode prog_14_method_57_code 40 = .ok (.aload_n 0, 1) := by decide +kernel
theorem d_M_findDay_41 : decode prog_14_method_57_code 41 = .ok (.getfield 295, 3) := by decide +kernel
theorem d_M_findDay_44 : decode prog_14_method_57_code 44 = .ok (.if_icmp .le 12, 3) := by decide +kernel
theorem d_M_findDay_47 : decode prog_14_method_57_code 47 = .ok (.aload_n 0, 1) := by decide +kernel
theorem d_M_findDay_48 : decode prog_14_method_57_code 48 = .ok (.getfield 28, 3) := by decide +kernel
theorem d_M_findDay_51 : decode prog_14_method_57_code 51 = .ok (.iload_n 2, 1) := by decide +kernel
theorem d_M_findDay_52 : decode prog_14_method_57_code 52 = .ok (.iaload, 1) := by decide +kernel
theorem d_M_findDay_53 : decode prog_14_method_57_code 53 = .ok (.goto 7, 3) := by decide +kernel
theorem d_M_findDay_56 : decode prog_14_method_57_code 56 = .ok (.aload_n 0, 1) := by decide +kernel
theorem d_M_findDay_57 : decode prog_14_method_57_code 57 = .ok (.getfield 295, 3) := by decide +kernel
theorem d_M_findDay_60 : decode prog_14_method_57_code 60 = .ok (.putfield 295, 3) := by decide +kernel
theorem d_M_findDay_63 : decode prog_14_method_57_code 63 = .ok (.iinc 2 1, 3) := by decide +kernel
theorem d_M_findDay_66 : decode prog_14_method_57_code 66 = .ok (.goto (-54), 3) := by decide +kernel
theorem d_M_findDay_69 : decode prog_14_method_57_code 69 = .ok (.aload_n 0, 1) := by decide +kernel
theorem d_M_findDay_70 : decode prog_14_method_57_code 70 = .ok (.getfield 80, 3) := by decide +kernel
theorem d_M_findDay_73 : decode prog_14_method_57_code 73 = .ok (.ifCond .eq 8, 3) := by decide +kernel
theorem d_M_findDay_76 : decode prog_14_method_57_code 76 = .ok (.iload_n 1, 1) := by decide +kernel
theorem d_M_findDay_77 : decode prog_14_method_57_code 77 = .ok (.iconst 1, 1) := by decide +kernel
theorem d_M_findDay_78 : decode prog_14_method_57_code 78 = .ok (.if_icmp .ne 12, 3) := by decide +kernel
theorem d_M_findDay_81 : decode prog_14_method_57_code 81 = .ok (.aload_n 0, 1) := by decide +kernel
theorem d_M_findDay_82 : decode prog_14_method_57_code 82 = .ok (.getfield 88, 3) := by decide +kernel
theorem d_M_findDay_85 : decode prog_14_method_57_code 85 = .ok (.bipush 7, 2) := by decide +kernel
theorem d_M_findDay_87 : decode prog_14_method_57_code 87 = .ok (.if_icmp .le 5, 3) := by decide +kernel
theorem d_M_findDay_90 : decode prog_14_method_57_code 90 = .ok (.iconst 0, 1) := by decide +kernel
theorem d_M_findDay_91 : decode prog_14_method_57_code 91 = .ok (.ireturn, 1) := by decide +kernel
theorem d_M_findDay_92 : decode prog_14_method_57_code 92 = .ok (.aload_n 0, 1) := by decide +kernel
theorem d_M_findDay_93 : decode prog_14_method_57_code 93 = .ok (.iconst 0, 1) := by decide +kernel
theorem d_M_findDay_94 : decode prog_14_method_57_code 94 = .ok (.invokevirtual 239, 3) := by decide +kernel
theorem d_M_findDay_97 : decode prog_14_method_57_code 97 = .ok (.aload_n 0, 1) := by decide +kernel
theorem d_M_findDay_98 : decode prog_14_method_57_code 98 = .ok (.iconst 0, 1) := by decide +kernel
theorem d_M_findDay_99 : decode prog_14_method_57_code 99 = .ok (.putfield 298, 3) := by decide +kernel
theorem d_M_findDay_102 : decode prog_14_method_57_code 102 = .ok (.aload_n 0, 1) := by decide +kernel
theorem d_M_findDay_103 : decode prog_14_method_57_code 103 = .ok (.getfield 222, 3) := by decide +kernel
theorem d_M_findDay_106 : decode prog_14_method_57_code 106 = .ok (.iconst 1, 1) := by decide +kernel
theorem d_M_findDay_107 : decode prog_14_method_57_code 107 = .ok (.isub, 1) := by decide +kernel
theorem d_M_findDay_108 : decode prog_14_method_57_code 108 = .ok (.istore_n 2, 1) := by decide +kernel
theorem d_M_findDay_109 : decode prog_14_method_57_code 109 = .ok (.iload_n 2, 1) := by decide +kernel
theorem d_M_findDay_110 : decode prog_14_method_57_code 110 = .ok (.ifCond .lt 26, 3) := by decide +kernel
theorem d_M_findDay_113 : decode prog_14_method_57_code 113 = .ok (.aload_n 0, 1) := by decide +kernel
theorem d_M_findDay_114 : decode prog_14_method_57_code 114 = .ok (.bipush 10, 2) := by decide +kernel
theorem d_M_findDay_116 : decode prog_14_method_57_code 116 = .ok (.aload_n 0, 1) := by decide +kernel
theorem d_M_findDay_117 : decode prog_14_method_57_code 117 = .ok (.getfield 298, 3) := by decide +kernel
theorem d_M_findDay_120 : decode prog_14_method_57_code 120 = .ok (.imul, 1) := by decide +kernel
theorem d_M_findDay_121 : decode prog_14_method_57_code 121 = .ok (.aload_n 0, 1) := by decide +kernel
theorem d_M_findDay_122 : decode prog_14_method_57_code 122 = .ok (.iload_n 2, 1) := by decide +kernel
theorem d_M_findDay_123 : decode prog_14_method_57_code 123 = .ok (.invokevirtual 228, 3) := by decide +kernel
theorem d_M_findDay_126 : decode prog_14_method_57_code 126 = .ok (.iadd, 1) := by decide +kernel
theorem d_M_findDay_127 : decode prog_14_method_57_code 127 = .ok (.putfield 298, 3) := by decide +kernel
theorem d_M_findDay_130 : decode prog_14_method_57_code 130 = .ok (.iinc 2 (-1), 3) := by decide +kernel
theorem d_M_findDay_133 : decode prog_14_method_57_code 133 = .ok (.goto (-24), 3) := by decide +kernel
theorem d_M_findDay_136 : decode prog_14_method_57_code 136 = .ok (.lconst 0, 1) := by decide +kernel
theorem d_M_findDay_137 : decode prog_14_method_57_code 137 = .ok (.lstore_n 2, 1) := by decide +kernel
theorem d_M_findDay_138 : decode prog_14_method_57_code 138 = .ok (.iconst 1, 1) := by decide +kernel
theorem d_M_findDay_139 : decode prog_14_method_57_code 139 = .ok (.istore 4, 2) := by decide +kernel
theorem d_M_findDay_141 : decode prog_14_method_57_code 141 = .ok (.iload 4, 2) := by decide +kernel
theorem d_M_findDay_143 : decode prog_14_method_57_code 143 = .ok (.bipush 16, 2) := by decide +kernel
theorem d_M_findDay_145 : decode prog_14_method_57_code 145 = .ok (.if_icmp .ge 24, 3) := by decide +kernel
theorem d_M_findDay_148 : decode prog_14_method_57_code 148 = .ok (.ldc2_w 86, 3) := by decide +kernel
theorem d_M_findDay_151 : decode prog_14_method_57_code 151 = .ok (.lload_n 2, 1) := by decide +kernel
theorem d_M_findDay_152 : decode prog_14_method_57_code 152 = .ok (.lmul, 1) := by decide +kernel
theorem d_M_findDay_153 : decode prog_14_method_57_code 153 = .ok (.aload_n 0, 1) := by decide +kernel
theorem d_M_findDay_154 : decode prog_14_method_57_code 154 = .ok (.iload 4, 2) := by decide +kernel
theorem d_M_findDay_156 : decode prog_14_method_57_code 156 = .ok (.ineg, 1) := by decide +kernel
theorem d_M_findDay_157 : decode prog_14_method_57_code 157 = .ok (.invokevirtual 228, 3) := by decide +kernel
theorem d_M_findDay_160 : decode prog_14_method_57_code 160 = .ok (.i2l, 1) := by decide +kernel
theorem d_M_findDay_161 : decode prog_14_method_57_code 161 = .ok (.ladd, 1) := by decide +kernel
theorem d_M_findDay_162 : decode prog_14_method_57_code 162 = .ok (.lstore_n 2, 1) := by decide +kernel
theorem d_M_findDay_163 : decode prog_14_method_57_code 163 = .ok (.iinc 4 1, 3) := by decide +kernel
theorem d_M_findDay_166 : decode prog_14_method_57_code 166 = .ok (.goto (-25), 3) := by decide +kernel
theorem d_M_findDay_169 : decode prog_14_method_57_code 169 = .ok (.aload_n 0, 1) := by decide +kernel
theorem d_M_findDay_170 : decode prog_14_method_57_code 170 = .ok (.bipush (-16), 2) := by decide +kernel
theorem d_M_findDay_172 : decode prog_14_method_57_code 172 = .ok (.invokevirtual 228, 3) := by decide +kernel
theorem d_M_findDay_175 : decode prog_14_method_57_code 175 = .ok (.iconst 5, 1) := by decide +kernel
theorem d_M_findDay_176 : decode prog_14_method_57_code 176 = .ok (.if_icmp .lt 9, 3) := by decide +kernel
theorem d_M_findDay_179 : decode prog_14_method_57_code 179 = .ok (.lload_n 2, 1) := by decide +kernel
theorem d_M_findDay_180 : decode prog_14_method_57_code 180 = .ok (.lconst 1, 1) := by decide +kernel
theorem d_M_findDay_181 : decode prog_14_method_57_code 181 = .ok (.ladd, 1) := by decide +kernel
theorem d_M_findDay_182 : decode prog_14_method_57_code 182 = .ok (.goto 4, 3) := by decide +kernel
theorem d_M_findDay_185 : decode prog_14_method_57_code 185 = .ok (.lload_n 2, 1) := by decide +kernel
theorem d_M_findDay_186 : decode prog_14_method_57_code 186 = .ok (.lstore_n 2, 1) := by decide +kernel
theorem d_M_findDay_187 : decode prog_14_method_57_code 187 = .ok (.ldc2_w 301, 3) := by decide +kernel
theorem d_M_findDay_190 : decode prog_14_method_57_code 190 = .ok (.aload_n 0, 1) := by decide +kernel
theorem d_M_findDay_191 : decode prog_14_method_57_code 191 = .ok (.getfield 295, 3) := by decide +kernel
theorem d_M_findDay_194 : decode prog_14_method_57_code 194 = .ok (.invokestatic 303, 3) := by decide +kernel
theorem d_M_findDay_197 : decode prog_14_method_57_code 197 = .ok (.i2l, 1) := by decide +kernel
theorem d_M_findDay_198 : decode prog_14_method_57_code 198 = .ok (.lmul, 1) := by decide +kernel
theorem d_M_findDay_199 : decode prog_14_method_57_code 199 = .ok (.lstore 4, 2) := by decide +kernel
theorem d_M_findDay_201 : decode prog_14_method_57_code 201 = .ok (.lconst 0, 1) := by decide +kernel
theorem d_M_findDay_202 : decode prog_14_method_57_code 202 = .ok (.lstore 6, 2) := by decide +kernel
theorem d_M_findDay_204 : decode prog_14_method_57_code 204 = .ok (.lconst 0, 1) := by decide +kernel
theorem d_M_findDay_205 : decode prog_14_method_57_code 205 = .ok (.lstore 8, 2) := by decide +kernel
theorem d_M_findDay_207 : decode prog_14_method_57_code 207 = .ok (.iconst 0, 1) := by decide +kernel
theorem d_M_findDay_208 : decode prog_14_method_57_code 208 = .ok (.istore 10, 2) := by decide +kernel
theorem d_M_findDay_210 : decode prog_14_method_57_code 210 = .ok (.iload 10, 2) := by decide +kernel
theorem d_M_findDay_212 : decode prog_14_method_57_code 212 = .ok (.bipush 15, 2) := by decide +kernel
theorem d_M_findDay_214 : decode prog_14_method_57_code 214 = .ok (.if_icmp .ge 44, 3) := by decide +kernel
theorem d_M_findDay_217 : decode prog_14_method_57_code 217 = .ok (.lload 6, 2) := by decide +kernel
theorem d_M_findDay_219 : decode prog_14_method_57_code 219 = .ok (.lload_n 2, 1) := by decide +kernel
theorem d_M_findDay_220 : decode prog_14_method_57_code 220 = .ok (.ldc2_w 86, 3) := by decide +kernel
theorem d_M_findDay_223 : decode prog_14_method_57_code 223 = .ok (.lrem, 1) := by decide +kernel
theorem d_M_findDay_224 : decode prog_14_method_57_code 224 = .ok (.lload 4, 2) := by decide +kernel
theorem d_M_findDay_226 : decode prog_14_method_57_code 226 = .ok (.lmul, 1) := by decide +kernel
theorem d_M_findDay_227 : decode prog_14_method_57_code 227 = .ok (.ladd, 1) := by decide +kernel
theorem d_M_findDay_228 : decode prog_14_method_57_code 228 = .ok (.lstore 6, 2) := by decide +kernel
theorem d_M_findDay_230 : decode prog_14_method_57_code 230 = .ok (.lload_n 2, 1) := by decide +kernel
theorem d_M_findDay_231 : decode prog_14_method_57_code 231 = .ok (.ldc2_w 86, 3) := by decide +kernel
theorem d_M_findDay_234 : decode prog_14_method_57_code 234 = .ok (.ldiv, 1) := by decide +kernel
theorem d_M_findDay_235 : decode prog_14_method_57_code 235 = .ok (.lstore_n 2, 1) := by decide +kernel
theorem d_M_findDay_236 : decode prog_14_method_57_code 236 = .ok (.lload 6, 2) := by decide +kernel
theorem d_M_findDay_238 : decode prog_14_method_57_code 238 = .ok (.ldc2_w 86, 3) := by decide +kernel
theorem d_M_findDay_241 : decode prog_14_method_57_code 241 = .ok (.lrem, 1) := by decide +kernel
theorem d_M_findDay_242 : decode prog_14_method_57_code 242 = .ok (.lstore 8, 2) := by decide +kernel
theorem d_M_findDay_244 : decode prog_14_method_57_code 244 = .ok (.lload 6, 2) := by decide +kernel
theorem d_M_findDay_246 : decode prog_14_method_57_code 246 = .ok (.ldc2_w 86, 3) := by decide +kernel
theorem d_M_findDay_249 : decode prog_14_method_57_code 249 = .ok (.ldiv, 1) := by decide +kernel
theorem d_M_findDay_250 : decode prog_14_method_57_code 250 = .ok (.lstore 6, 2) := by decide +kernel
theorem d_M_findDay_252 : decode prog_14_method_57_code 252 = .ok (.iinc 10 1, 3) := by decide +kernel
theorem d_M_findDay_255 : decode prog_14_method_57_code 255 = .ok (.goto (-45), 3) := by decide +kernel
theorem d_M_findDay_258 : decode prog_14_method_57_code 258 = .ok (.lload 6, 2) := by decide +kernel
theorem d_M_findDay_260 : decode prog_14_method_57_code 260 = .ok (.lload_n 2, 1) := by decide +kernel
theorem d_M_findDay_261 : decode prog_14_method_57_code 261 = .ok (.lload 4, 2) := by decide +kernel
theorem d_M_findDay_263 : decode prog_14_method_57_code 263 = .ok (.lmul, 1) := by decide +kernel
theorem d_M_findDay_264 : decode prog_14_method_57_code 264 = .ok (.ladd, 1) := by decide +kernel
theorem d_M_findDay_265 : decode prog_14_method_57_code 265 = .ok (.lstore 6, 2) := by decide +kernel
theorem d_M_findDay_267 : decode prog_14_method_57_code 267 = .ok (.aload_n 0, 1) := by decide +kernel
theorem d_M_findDay_268 : decode prog_14_method_57_code 268 = .ok (.lload 8, 2) := by decide +kernel
theorem d_M_findDay_270 : decode prog_14_method_57_code 270 = .ok (.ldc2_w 306, 3) := by decide +kernel
theorem d_M_findDay_273 : decode prog_14_method_57_code 273 = .ok (.lcmp, 1) := by decide +kernel
theorem d_M_findDay_274 : decode prog_14_method_57_code 274 = .ok (.ifCond .lt 10, 3) := by decide +kernel
theorem d_M_findDay_277 : decode prog_14_method_57_code 277 = .ok (.lload 6, 2) := by decide +kernel
theorem d_M_findDay_279 : decode prog_14_method_57_code 279 = .ok (.lconst 1, 1) := by decide +kernel
theorem d_M_findDay_280 : decode prog_14_method_57_code 280 = .ok (.ladd, 1) := by decide +kernel
theorem d_M_findDay_281 : decode prog_14_method_57_code 281 = .ok (.goto 5, 3) := by decide +kernel
theorem d_M_findDay_284 : decode prog_14_method_57_code 284 = .ok (.lload 6, 2) := by decide +kernel
theorem d_M_findDay_286 : decode prog_14_method_57_code 286 = .ok (.putfield 308, 3) := by decide +kernel
theorem d_M_findDay_289 : decode prog_14_method_57_code 289 = .ok (.aload_n 0, 1) := by decide +kernel
theorem d_M_findDay_290 : decode prog_14_method_57_code 290 = .ok (.getfield 308, 3) := by decide +kernel
theorem d_M_findDay_293 : decode prog_14_method_57_code 293 = .ok (.lload 4, 2) := by decide +kernel
theorem d_M_findDay_295 : decode prog_14_method_57_code 295 = .ok (.lcmp, 1) := by decide +kernel
theorem d_M_findDay_296 : decode prog_14_method_57_code 296 = .ok (.ifCond .ne 18, 3) := by decide +kernel
theorem d_M_findDay_299 : decode prog_14_method_57_code 299 = .ok (.aload_n 0, 1) := by decide +kernel
theorem d_M_findDay_300 : decode prog_14_method_57_code 300 = .ok (.dup, 1) := by decide +kernel
theorem d_M_findDay_301 : decode prog_14_method_57_code 301 = .ok (.getfield 298, 3) := by decide +kernel
theorem d_M_findDay_304 : decode prog_14_method_57_code 304 = .ok (.iconst 1, 1) := by decide +kernel
theorem d_M_findDay_305 : decode prog_14_method_57_code 305 = .ok (.iadd, 1) := by decide +kernel
theorem d_M_findDay_306 : decode prog_14_method_57_code 306 = .ok (.putfield 298, 3) := by decide +kernel
theorem d_M_findDay_309 : decode prog_14_method_57_code 309 = .ok (.aload_n 0, 1) := by decide +kernel
theorem d_M_findDay_310 : decode prog_14_method_57_code 310 = .ok (.lconst 0, 1) := by decide +kernel
theorem d_M_findDay_311 : decode prog_14_method_57_code 311 = .ok (.putfield 308, 3) := by decide +kernel
theorem d_M_findDay_314 : decode prog_14_method_57_code 314 = .ok (.aload_n 0, 1) := by decide +kernel
theorem d_M_findDay_315 : decode prog_14_method_57_code 315 = .ok (.getfield 298, 3) := by decide +kernel
theorem d_M_findDay_318 : decode prog_14_method_57_code 318 = .ok (.ldc_w 312, 3) := by decide +kernel
theorem d_M_findDay_321 : decode prog_14_method_57_code 321 = .ok (.if_icmp .ge 7, 3) := by decide +kernel
theorem d_M_findDay_324 : decode prog_14_method_57_code 324 = .ok (.iconst 1, 1) := by decide +kernel
theorem d_M_findDay_325 : decode prog_14_method_57_code 325 = .ok (.goto 4, 3) := by decide +kernel
theorem d_M_findDay_328 : decode prog_14_method_57_code 328 = .ok (.iconst 0, 1) := by decide +kernel
theorem d_M_findDay_329 : decode prog_14_method_57_code 329 = .ok (.ireturn, 1) := by decide +kernel
set_option maxHeartbeats 4000000 in
set_option maxRecDepth 100000 in
theorem b_M_findDay_60 {h0 : Nat} {a0_2 : Nat} {a0_4 : Nat} {a0_5 : Nat} {a0_10 : Nat} {a0_11 : Nat} {a0_22 : Nat} {a0_31 : Nat} {a0_32 : Nat} {a0_34 : Nat} {h1 : Nat} {cA1 : ClassId} {h2 : Nat} {cA2 : ClassId} {h3 : Nat} {cA3 : ClassId} {h4 : Nat} {cA4 : ClassId} {h5 : Nat} {cA5 : ClassId} {h6 : Nat} {cA6 : ClassId} {I0 : Nat → Int32} {J0 : Nat → Int64} {n1 : Nat} {f1 : Nat → Int32} {n2 : Nat} {f2 : Nat → Int32} {n3 : Nat} {f3 : Nat → Int32} {n4 : Nat} {f4 : Nat → Int32} {n5 : Nat} {f5 : Nat → Int32} {n6 : Nat} {f6 : Nat → Int32} {x1 : Int32} {x2 : Int32} {s1 : Int32} {k12 : (Nat → Int32) → Int32 → Prop} {Z : Int32 → (Nat → Int32) × (Nat → Int64) × (Nat → Int32) → Prop} {H : Heap} {locs : List Loc} {ls : Array Slot} (hc : zC p s m args meth c prog_14_method_57_code (some .boolean) 11 "NumberDressModel") (hA : ∀ q : Nat, s.heap.size ≤ q → A q) (hE : zE gE A s) (hk12 : ∀ (I0 : Nat → Int32) (x2 : Int32) (H : Heap) (locs : List Loc) (ls : Array Slot), lv_has ls 11 [(0, .ref h0), (1, .int x1), (2, .int x2)] → va_K (dC, dI) zCl [(cA1, .int), (cA2, .int), (cA3, .int), (cA4, .int), (cA5, .int), (cA6, .int)] s → va_P (dC, dI) zCl [(h0, .inr (12, o_M I0 J0 a0_2 a0_4 a0_5 h1 h2 h3 h4 a0_10 a0_11 a0_22 h5 h6 a0_31 a0_32 a0_34)), (h1, .inl (cA1, n1, .inl f1)), (h2, .inl (cA2, n2, .inl f2)), (h3, .inl (cA3, n3, .inl f3)), (h4, .inl (cA4, n4, .inl f4)), (h5, .inl (cA5, n5, .inl f5)), (h6, .inl (cA6, n6, .inl f6))] H → va_D A [(h0, .inr (12, o_M I0 J0 a0_2 a0_4 a0_5 h1 h2 h3 h4 a0_10 a0_11 a0_22 h5 h6 a0_31 a0_32 a0_34)), (h1, .inl (cA1, n1, .inl f1)), (h2, .inl (cA2, n2, .inl f2)), (h3, .inl (cA3, n3, .inl f3)), (h4, .inl (cA4, n4, .inl f4)), (h5, .inl (cA5, n5, .inl f5)), (h6, .inl (cA6, n6, .inl f6))] → va_S A s.heap H locs → k12 I0 x2 → W p l e (headSpec (Cond.code (⟨"NumberDressModel", "findDay", "(I)Z"⟩ : MethodName) prog_14_method_57_code 11 (some .boolean) :: zT) { frames := 1, cells := 0, slots := 0, locals := 22 }).room s m args below meth c H locs 0 0 (MQ below (va_Qi Z (zB (dC, dI) zCl [(cA1, .int), (cA2, .int), (cA3, .int), (cA4, .int), (cA5, .int), (cA6, .int)] A (fun u : (Nat → Int32) × (Nat → Int64) × (Nat → Int32) => [(h0, .inr (12, o_M u.1 u.2.1 a0_2 a0_4 a0_5 h1 h2 h3 h4 a0_10 a0_11 a0_22 h5 h6 a0_31 a0_32 a0_34)), (h1, .inl (cA1, n1, .inl f1)), (h2, .inl (cA2, n2, .inl f2)), (h3, .inl (cA3, n3, .inl f3)), (h4, .inl (cA4, n4, .inl f4)), (h5, .inl (cA5, n5, .inl f5)), (h6, .inl (cA6, n6, .inl u.2.2))])) A) args s 0 0 A) (F0 m 12 ls [])) (hl : lv_has ls 11 [(0, .ref h0), (1, .int x1), (2, .int x2)]) (hK : va_K (dC, dI) zCl [(cA1, .int), (cA2, .int), (cA3, .int), (cA4, .int), (cA5, .int), (cA6, .int)] s) (hP : va_P (dC, dI) zCl [(h0, .inr (12, o_M I0 J0 a0_2 a0_4 a0_5 h1 h2 h3 h4 a0_10 a0_11 a0_22 h5 h6 a0_31 a0_32 a0_34)), (h1, .inl (cA1, n1, .inl f1)), (h2, .inl (cA2, n2, .inl f2)), (h3, .inl (cA3, n3, .inl f3)), (h4, .inl (cA4, n4, .inl f4)), (h5, .inl (cA5, n5, .inl f5)), (h6, .inl (cA6, n6, .inl f6))] H) (hD : va_D A [(h0, .inr (12, o_M I0 J0 a0_2 a0_4 a0_5 h1 h2 h3 h4 a0_10 a0_11 a0_22 h5 h6 a0_31 a0_32 a0_34)), (h1, .inl (cA1, n1, .inl f1)), (h2, .inl (cA2, n2, .inl f2)), (h3, .inl (cA3, n3, .inl f3)), (h4, .inl (cA4, n4, .inl f4)), (h5, .inl (cA5, n5, .inl f5)), (h6, .inl (cA6, n6, .inl f6))]) (hS : va_S A s.heap H locs) (hv : v_M_findDay_60 I0 J0 n1 f1 n2 f2 n3 f3 n4 f4 n5 f5 n6 f6 x1 x2 s1 k12 Z) : W p l e (headSpec (Cond.code (⟨"NumberDressModel", "findDay", "(I)Z"⟩ : MethodName) prog_14_method_57_code 11 (some .boolean) :: zT) { frames := 1, cells := 0, slots := 0, locals := 22 }).room s m args below meth c H locs 0 0 (MQ below (va_Qi Z (zB (dC, dI) zCl [(cA1, .int), (cA2, .int), (cA3, .int), (cA4, .int), (cA5, .int), (cA6, .int)] A (fun u : (Nat → Int32) × (Nat → Int64) × (Nat → Int32) => [(h0, .inr (12, o_M u.1 u.2.1 a0_2 a0_4 a0_5 h1 h2 h3 h4 a0_10 a0_11 a0_22 h5 h6 a0_31 a0_32 a0_34)), (h1, .inl (cA1, n1, .inl f1)), (h2, .inl (cA2, n2, .inl f2)), (h3, .inl (cA3, n3, .inl f3)), (h4, .inl (cA4, n4, .inl f4)), (h5, .inl (cA5, n5, .inl f5)), (h6, .inl (cA6, n6, .inl u.2.2))])) A) args s 0 0 A) (F0 m 60 ls [.int s1, .ref h0]) := by
  obtain ⟨hx, hb, hr, hml, hown, ht, hlocks⟩ := id hc
  unfold v_M_findDay_60 at hv
  refine va_put (D := (dC, dI)) (ci := 12) (v := .int s1) (ty := .int) (C := "NumberDressModel") (T := T_M) (N := 41) hx hb ht zin_M ty_M tyok_M nm_M hown hK hP hD hS 0 rfl rfl 37 (by decide) (ht _ zw_1298) (fun _ h9 => h9) rfl (by decide +kernel) rfl rfl (Nat.le_of_ble_eq_true rfl) d_M_findDay_60 (fun H locs hP hD hS => ?_)
  have hP : va_P (dC, dI) zCl [(h0, .inr (12, o_M (zu I0 37 s1) J0 a0_2 a0_4 a0_5 h1 h2 h3 h4 a0_10 a0_11 a0_22 h5 h6 a0_31 a0_32 a0_34)), (h1, .inl (cA1, n1, .inl f1)), (h2, .inl (cA2, n2, .inl f2)), (h3, .inl (cA3, n3, .inl f3)), (h4, .inl (cA4, n4, .inl f4)), (h5, .inl (cA5, n5, .inl f5)), (h6, .inl (cA6, n6, .inl f6))] H := hP
  have hD : va_D A [(h0, .inr (12, o_M (zu I0 37 s1) J0 a0_2 a0_4 a0_5 h1 h2 h3 h4 a0_10 a0_11 a0_22 h5 h6 a0_31 a0_32 a0_34)), (h1, .inl (cA1, n1, .inl f1)), (h2, .inl (cA2, n2, .inl f2)), (h3, .inl (cA3, n3, .inl f3)), (h4, .inl (cA4, n4, .inl f4)), (h5, .inl (cA5, n5, .inl f5)), (h6, .inl (cA6, n6, .inl f6))] := hD
  refine lv_iinc (v := (x2 + (1 : Int32))) (lv' := [(2, .int (x2 + (1 : Int32))), (0, .ref h0), (1, .int x1)]) hx hb d_M_findDay_63 hl (k := 2) rfl rfl (by decide) rfl (fun ls hl => ?_)
  refine lv_goto (tgt := 12) hx hb d_M_findDay_66 (by decide) ?_
  exact hk12 (zu I0 37 s1) (x2 + (1 : Int32)) _ _ _ (lv_sub hl [1, 2, 0] rfl) hK hP hD hS hv
set_option maxHeartbeats 4000000 in
set_option maxRecDepth 100000 in
theorem b_M_findDay_56 {h0 : Nat} {a0_2 : Nat} {a0_4 : Nat} {a0_5 : Nat} {a0_10 : Nat} {a0_11 : Nat} {a0_22 : Nat} {a0_31 : Nat} {a0_32 : Nat} {a0_34 : Nat} {h1 : Nat} {cA1 : ClassId} {h2 : Nat} {cA2 : ClassId} {h3 : Nat} {cA3 : ClassId} {h4 : Nat} {cA4 : ClassId} {h5 : Nat} {cA5 : ClassId} {h6 : Nat} {cA6 : ClassId} {I0 : Nat → Int32} {J0 : Nat → Int64} {n1 : Nat} {f1 : Nat → Int32} {n2 : Nat} {f2 : Nat → Int32} {n3 : Nat} {f3 : Nat → Int32} {n4 : Nat} {f4 : Nat → Int32} {n5 : Nat} {f5 : Nat → Int32} {n6 : Nat} {f6 : Nat → Int32} {x1 : Int32} {x2 : Int32} {k12 : (Nat → Int32) → Int32 → Prop} {Z : Int32 → (Nat → Int32) × (Nat → Int64) × (Nat → Int32) → Prop} {H : Heap} {locs : List Loc} {ls : Array Slot} (hc : zC p s m args meth c prog_14_method_57_code (some .boolean) 11 "NumberDressModel") (hA : ∀ q : Nat, s.heap.size ≤ q → A q) (hE : zE gE A s) (hk12 : ∀ (I0 : Nat → Int32) (x2 : Int32) (H : Heap) (locs : List Loc) (ls : Array Slot), lv_has ls 11 [(0, .ref h0), (1, .int x1), (2, .int x2)] → va_K (dC, dI) zCl [(cA1, .int), (cA2, .int), (cA3, .int), (cA4, .int), (cA5, .int), (cA6, .int)] s → va_P (dC, dI) zCl [(h0, .inr (12, o_M I0 J0 a0_2 a0_4 a0_5 h1 h2 h3 h4 a0_10 a0_11 a0_22 h5 h6 a0_31 a0_32 a0_34)), (h1, .inl (cA1, n1, .inl f1)), (h2, .inl (cA2, n2, .inl f2)), (h3, .inl (cA3, n3, .inl f3)), (h4, .inl (cA4, n4, .inl f4)), (h5, .inl (cA5, n5, .inl f5)), (h6, .inl (cA6, n6, .inl f6))] H → va_D A [(h0, .inr (12, o_M I0 J0 a0_2 a0_4 a0_5 h1 h2 h3 h4 a0_10 a0_11 a0_22 h5 h6 a0_31 a0_32 a0_34)), (h1, .inl (cA1, n1, .inl f1)), (h2, .inl (cA2, n2, .inl f2)), (h3, .inl (cA3, n3, .inl f3)), (h4, .inl (cA4, n4, .inl f4)), (h5, .inl (cA5, n5, .inl f5)), (h6, .inl (cA6, n6, .inl f6))] → va_S A s.heap H locs → k12 I0 x2 → W p l e (headSpec (Cond.code (⟨"NumberDressModel", "findDay", "(I)Z"⟩ : MethodName) prog_14_method_57_code 11 (some .boolean) :: zT) { frames := 1, cells := 0, slots := 0, locals := 22 }).room s m args below meth c H locs 0 0 (MQ below (va_Qi Z (zB (dC, dI) zCl [(cA1, .int), (cA2, .int), (cA3, .int), (cA4, .int), (cA5, .int), (cA6, .int)] A (fun u : (Nat → Int32) × (Nat → Int64) × (Nat → Int32) => [(h0, .inr (12, o_M u.1 u.2.1 a0_2 a0_4 a0_5 h1 h2 h3 h4 a0_10 a0_11 a0_22 h5 h6 a0_31 a0_32 a0_34)), (h1, .inl (cA1, n1, .inl f1)), (h2, .inl (cA2, n2, .inl f2)), (h3, .inl (cA3, n3, .inl f3)), (h4, .inl (cA4, n4, .inl f4)), (h5, .inl (cA5, n5, .inl f5)), (h6, .inl (cA6, n6, .inl u.2.2))])) A) args s 0 0 A) (F0 m 12 ls [])) (hl : lv_has ls 11 [(0, .ref h0), (1, .int x1), (2, .int x2)]) (hK : va_K (dC, dI) zCl [(cA1, .int), (cA2, .int), (cA3, .int), (cA4, .int), (cA5, .int), (cA6, .int)] s) (hP : va_P (dC, dI) zCl [(h0, .inr (12, o_M I0 J0 a0_2 a0_4 a0_5 h1 h2 h3 h4 a0_10 a0_11 a0_22 h5 h6 a0_31 a0_32 a0_34)), (h1, .inl (cA1, n1, .inl f1)), (h2, .inl (cA2, n2, .inl f2)), (h3, .inl (cA3, n3, .inl f3)), (h4, .inl (cA4, n4, .inl f4)), (h5, .inl (cA5, n5, .inl f5)), (h6, .inl (cA6, n6, .inl f6))] H) (hD : va_D A [(h0, .inr (12, o_M I0 J0 a0_2 a0_4 a0_5 h1 h2 h3 h4 a0_10 a0_11 a0_22 h5 h6 a0_31 a0_32 a0_34)), (h1, .inl (cA1, n1, .inl f1)), (h2, .inl (cA2, n2, .inl f2)), (h3, .inl (cA3, n3, .inl f3)), (h4, .inl (cA4, n4, .inl f4)), (h5, .inl (cA5, n5, .inl f5)), (h6, .inl (cA6, n6, .inl f6))]) (hS : va_S A s.heap H locs) (hv : v_M_findDay_56 I0 J0 n1 f1 n2 f2 n3 f3 n4 f4 n5 f5 n6 f6 x1 x2 k12 Z) : W p l e (headSpec (Cond.code (⟨"NumberDressModel", "findDay", "(I)Z"⟩ : MethodName) prog_14_method_57_code 11 (some .boolean) :: zT) { frames := 1, cells := 0, slots := 0, locals := 22 }).room s m args below meth c H locs 0 0 (MQ below (va_Qi Z (zB (dC, dI) zCl [(cA1, .int), (cA2, .int), (cA3, .int), (cA4, .int), (cA5, .int), (cA6, .int)] A (fun u : (Nat → Int32) × (Nat → Int64) × (Nat → Int32) => [(h0, .inr (12, o_M u.1 u.2.1 a0_2 a0_4 a0_5 h1 h2 h3 h4 a0_10 a0_11 a0_22 h5 h6 a0_31 a0_32 a0_34)), (h1, .inl (cA1, n1, .inl f1)), (h2, .inl (cA2, n2, .inl f2)), (h3, .inl (cA3, n3, .inl f3)), (h4, .inl (cA4, n4, .inl f4)), (h5, .inl (cA5, n5, .inl f5)), (h6, .inl (cA6, n6, .inl u.2.2))])) A) args s 0 0 A) (F0 m 56 ls [.ref h0]) := by
  obtain ⟨hx, hb, hr, hml, hown, ht, hlocks⟩ := id hc
  unfold v_M_findDay_56 at hv
  refine lv_aload_n hx hb d_M_findDay_56 rfl (lv_at hl 0 rfl) ?_
  refine va_get (D := (dC, dI)) (ci := 12) (v := .int (I0 37)) (C := "NumberDressModel") (T := T_M) (N := 41) hx hb ht zin_M hown hK hP 0 rfl rfl 37 (by decide) (ht _ zw_1298) (fun _ h9 => h9) rfl d_M_findDay_57 ?_
  exact b_M_findDay_60 hc hA hE hk12 (lv_sub hl [0, 1, 2] rfl) hK hP hD hS hv
set_option maxHeartbeats 4000000 in
set_option maxRecDepth 100000 in
theorem b_M_findDay_126 {h0 : Nat} {a0_2 : Nat} {a0_4 : Nat} {a0_5 : Nat} {a0_10 : Nat} {a0_11 : Nat} {a0_22 : Nat} {a0_31 : Nat} {a0_32 : Nat} {a0_34 : Nat} {h1 : Nat} {cA1 : ClassId} {h2 : Nat} {cA2 : ClassId} {h3 : Nat} {cA3 : ClassId} {h4 : Nat} {cA4 : ClassId} {h5 : Nat} {cA5 : ClassId} {h6 : Nat} {cA6 : ClassId} {I0 : Nat → Int32} {J0 : Nat → Int64} {n1 : Nat} {f1 : Nat → Int32} {n2 : Nat} {f2 : Nat → Int32} {n3 : Nat} {f3 : Nat → Int32} {n4 : Nat} {f4 : Nat → Int32} {n5 : Nat} {f5 : Nat → Int32} {n6 : Nat} {f6 : Nat → Int32} {x2 : Int32} {s1 : Int32} {s2 : Int32} {k109 : (Nat → Int32) → Int32 → Prop} {Z : Int32 → (Nat → Int32) × (Nat → Int64) × (Nat → Int32) → Prop} {H : Heap} {locs : List Loc} {ls : Array Slot} (hc : zC p s m args meth c prog_14_method_57_code (some .boolean) 11 "NumberDressModel") (hA : ∀ q : Nat, s.heap.size ≤ q → A q) (hE : zE gE A s) (hk109 : ∀ (I0 : Nat → Int32) (x2 : Int32) (H : Heap) (locs : List Loc) (ls : Array Slot), lv_has ls 11 [(0, .ref h0), (2, .int x2)] → va_K (dC, dI) zCl [(cA1, .int), (cA2, .int), (cA3, .int), (cA4, .int), (cA5, .int), (cA6, .int)] s → va_P (dC, dI) zCl [(h0, .inr (12, o_M I0 J0 a0_2 a0_4 a0_5 h1 h2 h3 h4 a0_10 a0_11 a0_22 h5 h6 a0_31 a0_32 a0_34)), (h1, .inl (cA1, n1, .inl f1)), (h2, .inl (cA2, n2, .inl f2)), (h3, .inl (cA3, n3, .inl f3)), (h4, .inl (cA4, n4, .inl f4)), (h5, .inl (cA5, n5, .inl f5)), (h6, .inl (cA6, n6, .inl f6))] H → va_D A [(h0, .inr (12, o_M I0 J0 a0_2 a0_4 a0_5 h1 h2 h3 h4 a0_10 a0_11 a0_22 h5 h6 a0_31 a0_32 a0_34)), (h1, .inl (cA1, n1, .inl f1)), (h2, .inl (cA2, n2, .inl f2)), (h3, .inl (cA3, n3, .inl f3)), (h4, .inl (cA4, n4, .inl f4)), (h5, .inl (cA5, n5, .inl f5)), (h6, .inl (cA6, n6, .inl f6))] → va_S A s.heap H locs → k109 I0 x2 → W p l e (headSpec (Cond.code (⟨"NumberDressModel", "findDay", "(I)Z"⟩ : MethodName) prog_14_method_57_code 11 (some .boolean) :: zT) { frames := 1, cells := 0, slots := 0, locals := 22 }).room s m args below meth c H locs 0 0 (MQ below (va_Qi Z (zB (dC, dI) zCl [(cA1, .int), (cA2, .int), (cA3, .int), (cA4, .int), (cA5, .int), (cA6, .int)] A (fun u : (Nat → Int32) × (Nat → Int64) × (Nat → Int32) => [(h0, .inr (12, o_M u.1 u.2.1 a0_2 a0_4 a0_5 h1 h2 h3 h4 a0_10 a0_11 a0_22 h5 h6 a0_31 a0_32 a0_34)), (h1, .inl (cA1, n1, .inl f1)), (h2, .inl (cA2, n2, .inl f2)), (h3, .inl (cA3, n3, .inl f3)), (h4, .inl (cA4, n4, .inl f4)), (h5, .inl (cA5, n5, .inl f5)), (h6, .inl (cA6, n6, .inl u.2.2))])) A) args s 0 0 A) (F0 m 109 ls [])) (hl : lv_has ls 11 [(0, .ref h0), (2, .int x2)]) (hK : va_K (dC, dI) zCl [(cA1, .int), (cA2, .int), (cA3, .int), (cA4, .int), (cA5, .int), (cA6, .int)] s) (hP : va_P (dC, dI) zCl [(h0, .inr (12, o_M I0 J0 a0_2 a0_4 a0_5 h1 h2 h3 h4 a0_10 a0_11 a0_22 h5 h6 a0_31 a0_32 a0_34)), (h1, .inl (cA1, n1, .inl f1)), (h2, .inl (cA2, n2, .inl f2)), (h3, .inl (cA3, n3, .inl f3)), (h4, .inl (cA4, n4, .inl f4)), (h5, .inl (cA5, n5, .inl f5)), (h6, .inl (cA6, n6, .inl f6))] H) (hD : va_D A [(h0, .inr (12, o_M I0 J0 a0_2 a0_4 a0_5 h1 h2 h3 h4 a0_10 a0_11 a0_22 h5 h6 a0_31 a0_32 a0_34)), (h1, .inl (cA1, n1, .inl f1)), (h2, .inl (cA2, n2, .inl f2)), (h3, .inl (cA3, n3, .inl f3)), (h4, .inl (cA4, n4, .inl f4)), (h5, .inl (cA5, n5, .inl f5)), (h6, .inl (cA6, n6, .inl f6))]) (hS : va_S A s.heap H locs) (hv : v_M_findDay_126 I0 J0 n1 f1 n2 f2 n3 f3 n4 f4 n5 f5 n6 f6 x2 s1 s2 k109 Z) : W p l e (headSpec (Cond.code (⟨"NumberDressModel", "findDay", "(I)Z"⟩ : MethodName) prog_14_method_57_code 11 (some .boolean) :: zT) { frames := 1, cells := 0, slots := 0, locals := 22 }).room s m args below meth c H locs 0 0 (MQ below (va_Qi Z (zB (dC, dI) zCl [(cA1, .int), (cA2, .int), (cA3, .int), (cA4, .int), (cA5, .int), (cA6, .int)] A (fun u : (Nat → Int32) × (Nat → Int64) × (Nat → Int32) => [(h0, .inr (12, o_M u.1 u.2.1 a0_2 a0_4 a0_5 h1 h2 h3 h4 a0_10 a0_11 a0_22 h5 h6 a0_31 a0_32 a0_34)), (h1, .inl (cA1, n1, .inl f1)), (h2, .inl (cA2, n2, .inl f2)), (h3, .inl (cA3, n3, .inl f3)), (h4, .inl (cA4, n4, .inl f4)), (h5, .inl (cA5, n5, .inl f5)), (h6, .inl (cA6, n6, .inl u.2.2))])) A) args s 0 0 A) (F0 m 126 ls [.int s2, .int s1, .ref h0]) := by
  obtain ⟨hx, hb, hr, hml, hown, ht, hlocks⟩ := id hc
  unfold v_M_findDay_126 at hv
  refine lv_iadd hx hb d_M_findDay_126 ?_
  refine va_put (D := (dC, dI)) (ci := 12) (v := .int (s1 + s2)) (ty := .int) (C := "NumberDressModel") (T := T_M) (N := 41) hx hb ht zin_M ty_M tyok_M nm_M hown hK hP hD hS 0 rfl rfl 35 (by decide) (ht _ zw_1296) (fun _ h9 => h9) rfl (by decide +kernel) rfl rfl (Nat.le_of_ble_eq_true rfl) d_M_findDay_127 (fun H locs hP hD hS => ?_)
  have hP : va_P (dC, dI) zCl [(h0, .inr (12, o_M (zu I0 35 (s1 + s2)) J0 a0_2 a0_4 a0_5 h1 h2 h3 h4 a0_10 a0_11 a0_22 h5 h6 a0_31 a0_32 a0_34)), (h1, .inl (cA1, n1, .inl f1)), (h2, .inl (cA2, n2, .inl f2)), (h3, .inl (cA3, n3, .inl f3)), (h4, .inl (cA4, n4, .inl f4)), (h5, .inl (cA5, n5, .inl f5)), (h6, .inl (cA6, n6, .inl f6))] H := hP
  have hD : va_D A [(h0, .inr (12, o_M (zu I0 35 (s1 + s2)) J0 a0_2 a0_4 a0_5 h1 h2 h3 h4 a0_10 a0_11 a0_22 h5 h6 a0_31 a0_32 a0_34)), (h1, .inl (cA1, n1, .inl f1)), (h2, .inl (cA2, n2, .inl f2)), (h3, .inl (cA3, n3, .inl f3)), (h4, .inl (cA4, n4, .inl f4)), (h5, .inl (cA5, n5, .inl f5)), (h6, .inl (cA6, n6, .inl f6))] := hD
  refine lv_iinc (v := (x2 + (-1 : Int32))) (lv' := [(2, .int (x2 + (-1 : Int32))), (0, .ref h0)]) hx hb d_M_findDay_130 hl (k := 1) rfl rfl (by decide) rfl (fun ls hl => ?_)
  refine lv_goto (tgt := 109) hx hb d_M_findDay_133 (by decide) ?_
  exact hk109 (zu I0 35 (s1 + s2)) (x2 + (-1 : Int32)) _ _ _ (lv_sub hl [1, 0] rfl) hK hP hD hS hv
set_option maxHeartbeats 4000000 in
set_option maxRecDepth 100000 in
theorem b_M_findDay_160 {h0 : Nat} {a0_2 : Nat} {a0_4 : Nat} {a0_5 : Nat} {a0_10 : Nat} {a0_11 : Nat} {a0_22 : Nat} {a0_31 : Nat} {a0_32 : Nat} {a0_34 : Nat} {h1 : Nat} {cA1 : ClassId} {h2 : Nat} {cA2 : ClassId} {h3 : Nat} {cA3 : ClassId} {h4 : Nat} {cA4 : ClassId} {h5 : Nat} {cA5 : ClassId} {h6 : Nat} {cA6 : ClassId} {I0 : Nat → Int32} {J0 : Nat → Int64} {n1 : Nat} {f1 : Nat → Int32} {n2 : Nat} {f2 : Nat → Int32} {n3 : Nat} {f3 : Nat → Int32} {n4 : Nat} {f4 : Nat → Int32} {n5 : Nat} {f5 : Nat → Int32} {n6 : Nat} {f6 : Nat → Int32} {x4 : Int32} {s0 : Int64} {s1 : Int32} {k141 : Int64 → Int32 → Prop} {Z : Int32 → (Nat → Int32) × (Nat → Int64) × (Nat → Int32) → Prop} {H : Heap} {locs : List Loc} {ls : Array Slot} (hc : zC p s m args meth c prog_14_method_57_code (some .boolean) 11 "NumberDressModel") (hA : ∀ q : Nat, s.heap.size ≤ q → A q) (hE : zE gE A s) (hk141 : ∀ (x2 : Int64) (x4 : Int32) (H : Heap) (locs : List Loc) (ls : Array Slot), lv_has ls 11 [(0, .ref h0), (2, .long x2), (4, .int x4)] → va_K (dC, dI) zCl [(cA1, .int), (cA2, .int), (cA3, .int), (cA4, .int), (cA5, .int), (cA6, .int)] s → va_P (dC, dI) zCl [(h0, .inr (12, o_M I0 J0 a0_2 a0_4 a0_5 h1 h2 h3 h4 a0_10 a0_11 a0_22 h5 h6 a0_31 a0_32 a0_34)), (h1, .inl (cA1, n1, .inl f1)), (h2, .inl (cA2, n2, .inl f2)), (h3, .inl (cA3, n3, .inl f3)), (h4, .inl (cA4, n4, .inl f4)), (h5, .inl (cA5, n5, .inl f5)), (h6, .inl (cA6, n6, .inl f6))] H → va_D A [(h0, .inr (12, o_M I0 J0 a0_2 a0_4 a0_5 h1 h2 h3 h4 a0_10 a0_11 a0_22 h5 h6 a0_31 a0_32 a0_34)), (h1, .inl (cA1, n1, .inl f1)), (h2, .inl (cA2, n2, .inl f2)), (h3, .inl (cA3, n3, .inl f3)), (h4, .inl (cA4, n4, .inl f4)), (h5, .inl (cA5, n5, .inl f5)), (h6, .inl (cA6, n6, .inl f6))] → va_S A s.heap H locs → k141 x2 x4 → W p l e (headSpec (Cond.code (⟨"NumberDressModel", "findDay", "(I)Z"⟩ : MethodName) prog_14_method_57_code 11 (some .boolean) :: zT) { frames := 1, cells := 0, slots := 0, locals := 22 }).room s m args below meth c H locs 0 0 (MQ below (va_Qi Z (zB (dC, dI) zCl [(cA1, .int), (cA2, .int), (cA3, .int), (cA4, .int), (cA5, .int), (cA6, .int)] A (fun u : (Nat → Int32) × (Nat → Int64) × (Nat → Int32) => [(h0, .inr (12, o_M u.1 u.2.1 a0_2 a0_4 a0_5 h1 h2 h3 h4 a0_10 a0_11 a0_22 h5 h6 a0_31 a0_32 a0_34)), (h1, .inl (cA1, n1, .inl f1)), (h2, .inl (cA2, n2, .inl f2)), (h3, .inl (cA3, n3, .inl f3)), (h4, .inl (cA4, n4, .inl f4)), (h5, .inl (cA5, n5, .inl f5)), (h6, .inl (cA6, n6, .inl u.2.2))])) A) args s 0 0 A) (F0 m 141 ls [])) (hl : lv_has ls 11 [(0, .ref h0), (4, .int x4)]) (hK : va_K (dC, dI) zCl [(cA1, .int), (cA2, .int), (cA3, .int), (cA4, .int), (cA5, .int), (cA6, .int)] s) (hP : va_P (dC, dI) zCl [(h0, .inr (12, o_M I0 J0 a0_2 a0_4 a0_5 h1 h2 h3 h4 a0_10 a0_11 a0_22 h5 h6 a0_31 a0_32 a0_34)), (h1, .inl (cA1, n1, .inl f1)), (h2, .inl (cA2, n2, .inl f2)), (h3, .inl (cA3, n3, .inl f3)), (h4, .inl (cA4, n4, .inl f4)), (h5, .inl (cA5, n5, .inl f5)), (h6, .inl (cA6, n6, .inl f6))] H) (hD : va_D A [(h0, .inr (12, o_M I0 J0 a0_2 a0_4 a0_5 h1 h2 h3 h4 a0_10 a0_11 a0_22 h5 h6 a0_31 a0_32 a0_34)), (h1, .inl (cA1, n1, .inl f1)), (h2, .inl (cA2, n2, .inl f2)), (h3, .inl (cA3, n3, .inl f3)), (h4, .inl (cA4, n4, .inl f4)), (h5, .inl (cA5, n5, .inl f5)), (h6, .inl (cA6, n6, .inl f6))]) (hS : va_S A s.heap H locs) (hv : v_M_findDay_160 I0 J0 n1 f1 n2 f2 n3 f3 n4 f4 n5 f5 n6 f6 x4 s0 s1 k141 Z) : W p l e (headSpec (Cond.code (⟨"NumberDressModel", "findDay", "(I)Z"⟩ : MethodName) prog_14_method_57_code 11 (some .boolean) :: zT) { frames := 1, cells := 0, slots := 0, locals := 22 }).room s m args below meth c H locs 0 0 (MQ below (va_Qi Z (zB (dC, dI) zCl [(cA1, .int), (cA2, .int), (cA3, .int), (cA4, .int), (cA5, .int), (cA6, .int)] A (fun u : (Nat → Int32) × (Nat → Int64) × (Nat → Int32) => [(h0, .inr (12, o_M u.1 u.2.1 a0_2 a0_4 a0_5 h1 h2 h3 h4 a0_10 a0_11 a0_22 h5 h6 a0_31 a0_32 a0_34)), (h1, .inl (cA1, n1, .inl f1)), (h2, .inl (cA2, n2, .inl f2)), (h3, .inl (cA3, n3, .inl f3)), (h4, .inl (cA4, n4, .inl f4)), (h5, .inl (cA5, n5, .inl f5)), (h6, .inl (cA6, n6, .inl u.2.2))])) A) args s 0 0 A) (F0 m 160 ls [.int s1, .long s0]) := by
  obtain ⟨hx, hb, hr, hml, hown, ht, hlocks⟩ := id hc
  unfold v_M_findDay_160 at hv
  refine lv_i2l (v := s1.toInt64) hx hb d_M_findDay_160 rfl ?_
  refine lv_ladd hx hb d_M_findDay_161 ?_
  refine lv_lstore_n (lv' := [(2, .long (s0 + s1.toInt64)), (0, .ref h0), (4, .int x4)]) hx hb d_M_findDay_162 rfl hl (by decide) rfl (fun ls hl => ?_)
  refine lv_iinc (v := (x4 + (1 : Int32))) (lv' := [(4, .int (x4 + (1 : Int32))), (2, .long (s0 + s1.toInt64)), (0, .ref h0)]) hx hb d_M_findDay_163 hl (k := 2) rfl rfl (by decide) rfl (fun ls hl => ?_)
  refine lv_goto (tgt := 141) hx hb d_M_findDay_166 (by decide) ?_
  exact hk141 (s0 + s1.toInt64) (x4 + (1 : Int32)) _ _ _ (lv_sub hl [2, 1, 0] rfl) hK hP hD hS hv
set_option maxHeartbeats 4000000 in
set_option maxRecDepth 100000 in
theorem b_M_findDay_314 {h0 : Nat} {a0_2 : Nat} {a0_4 : Nat} {a0_5 : Nat} {a0_10 : Nat} {a0_11 : Nat} {a0_22 : Nat} {a0_31 : Nat} {a0_32 : Nat} {a0_34 : Nat} {h1 : Nat} {cA1 : ClassId} {h2 : Nat} {cA2 : ClassId} {h3 : Nat} {cA3 : ClassId} {h4 : Nat} {cA4 : ClassId} {h5 : Nat} {cA5 : ClassId} {h6 : Nat} {cA6 : ClassId} {I0 : Nat → Int32} {J0 : Nat → Int64} {n1 : Nat} {f1 : Nat → Int32} {n2 : Nat} {f2 : Nat → Int32} {n3 : Nat} {f3 : Nat → Int32} {n4 : Nat} {f4 : Nat → Int32} {n5 : Nat} {f5 : Nat → Int32} {n6 : Nat} {f6 : Nat → Int32}  {Z : Int32 → (Nat → Int32) × (Nat → Int64) × (Nat → Int32) → Prop} {H : Heap} {locs : List Loc} {ls : Array Slot} (hc : zC p s m args meth c prog_14_method_57_code (some .boolean) 11 "NumberDressModel") (hA : ∀ q : Nat, s.heap.size ≤ q → A q) (hE : zE gE A s) (hl : lv_has ls 11 [(0, .ref h0)]) (hK : va_K (dC, dI) zCl [(cA1, .int), (cA2, .int), (cA3, .int), (cA4, .int), (cA5, .int), (cA6, .int)] s) (hP : va_P (dC, dI) zCl [(h0, .inr (12, o_M I0 J0 a0_2 a0_4 a0_5 h1 h2 h3 h4 a0_10 a0_11 a0_22 h5 h6 a0_31 a0_32 a0_34)), (h1, .inl (cA1, n1, .inl f1)), (h2, .inl (cA2, n2, .inl f2)), (h3, .inl (cA3, n3, .inl f3)), (h4, .inl (cA4, n4, .inl f4)), (h5, .inl (cA5, n5, .inl f5)), (h6, .inl (cA6, n6, .inl f6))] H) (hD : va_D A [(h0, .inr (12, o_M I0 J0 a0_2 a0_4 a0_5 h1 h2 h3 h4 a0_10 a0_11 a0_22 h5 h6 a0_31 a0_32 a0_34)), (h1, .inl (cA1, n1, .inl f1)), (h2, .inl (cA2, n2, .inl f2)), (h3, .inl (cA3, n3, .inl f3)), (h4, .inl (cA4, n4, .inl f4)), (h5, .inl (cA5, n5, .inl f5)), (h6, .inl (cA6, n6, .inl f6))]) (hS : va_S A s.heap H locs) (hv : v_M_findDay_314 I0 J0 n1 f1 n2 f2 n3 f3 n4 f4 n5 f5 n6 f6  Z) : W p l e (headSpec (Cond.code (⟨"NumberDressModel", "findDay", "(I)Z"⟩ : MethodName) prog_14_method_57_code 11 (some .boolean) :: zT) { frames := 1, cells := 0, slots := 0, locals := 22 }).room s m args below meth c H locs 0 0 (MQ below (va_Qi Z (zB (dC, dI) zCl [(cA1, .int), (cA2, .int), (cA3, .int), (cA4, .int), (cA5, .int), (cA6, .int)] A (fun u : (Nat → Int32) × (Nat → Int64) × (Nat → Int32) => [(h0, .inr (12, o_M u.1 u.2.1 a0_2 a0_4 a0_5 h1 h2 h3 h4 a0_10 a0_11 a0_22 h5 h6 a0_31 a0_32 a0_34)), (h1, .inl (cA1, n1, .inl f1)), (h2, .inl (cA2, n2, .inl f2)), (h3, .inl (cA3, n3, .inl f3)), (h4, .inl (cA4, n4, .inl f4)), (h5, .inl (cA5, n5, .inl f5)), (h6, .inl (cA6, n6, .inl u.2.2))])) A) args s 0 0 A) (F0 m 314 ls []) := by
  obtain ⟨hx, hb, hr, hml, hown, ht, hlocks⟩ := id hc
  unfold v_M_findDay_314 at hv
  refine lv_aload_n hx hb d_M_findDay_314 rfl (lv_at hl 0 rfl) ?_
  refine va_get (D := (dC, dI)) (ci := 12) (v := .int (I0 35)) (C := "NumberDressModel") (T := T_M) (N := 41) hx hb ht zin_M hown hK hP 0 rfl rfl 35 (by decide) (ht _ zw_1296) (fun _ h9 => h9) rfl d_M_findDay_315 ?_
  refine lv_ldcw (v := (2958466 : Int32)) hx hb hown (ht _ zw_1626) d_M_findDay_318 ?_
  refine lv_icmp_ge (tgt := 328) hx hb d_M_findDay_321 (by decide) (fun c_1 => ?_) (fun c_1 => ?_)
  · have hv := hv.1 c_1
    refine lv_iconst (v := (0 : Int32)) hx hb d_M_findDay_328 (by decide) ?_
    exact W.zret (v := (0 : Int32)) hx hb hr (by decide) (fun t ht hW => ⟨⟨_, (I0, J0, f6), rfl, hv, ⟨by rw [ht]; exact hP, va_K.moved hW.alike hK, hD⟩⟩, hS.F ht⟩) hS.2.2 d_M_findDay_329
  · have hv := hv.2 c_1
    refine lv_iconst (v := (1 : Int32)) hx hb d_M_findDay_324 (by decide) ?_
    refine lv_goto (tgt := 329) hx hb d_M_findDay_325 (by decide) ?_
    exact W.zret (v := (1 : Int32)) hx hb hr (by decide) (fun t ht hW => ⟨⟨_, (I0, J0, f6), rfl, hv, ⟨by rw [ht]; exact hP, va_K.moved hW.alike hK, hD⟩⟩, hS.F ht⟩) hS.2.2 d_M_findDay_329
set_option maxHeartbeats 4000000 in
set_option maxRecDepth 100000 in
theorem b_M_findDay_286 {h0 : Nat} {a0_2 : Nat} {a0_4 : Nat} {a0_5 : Nat} {a0_10 : Nat} {a0_11 : Nat} {a0_22 : Nat} {a0_31 : Nat} {a0_32 : Nat} {a0_34 : Nat} {h1 : Nat} {cA1 : ClassId} {h2 : Nat} {cA2 : ClassId} {h3 : Nat} {cA3 : ClassId} {h4 : Nat} {cA4 : ClassId} {h5 : Nat} {cA5 : ClassId} {h6 : Nat} {cA6 : ClassId} {I0 : Nat → Int32} {J0 : Nat → Int64} {n1 : Nat} {f1 : Nat → Int32} {n2 : Nat} {f2 : Nat → Int32} {n3 : Nat} {f3 : Nat → Int32} {n4 : Nat} {f4 : Nat → Int32} {n5 : Nat} {f5 : Nat → Int32} {n6 : Nat} {f6 : Nat → Int32} {x4 : Int64} {s1 : Int64}  {Z : Int32 → (Nat → Int32) × (Nat → Int64) × (Nat → Int32) → Prop} {H : Heap} {locs : List Loc} {ls : Array Slot} (hc : zC p s m args meth c prog_14_method_57_code (some .boolean) 11 "NumberDressModel") (hA : ∀ q : Nat, s.heap.size ≤ q → A q) (hE : zE gE A s) (hl : lv_has ls 11 [(0, .ref h0), (4, .long x4)]) (hK : va_K (dC, dI) zCl [(cA1, .int), (cA2, .int), (cA3, .int), (cA4, .int), (cA5, .int), (cA6, .int)] s) (hP : va_P (dC, dI) zCl [(h0, .inr (12, o_M I0 J0 a0_2 a0_4 a0_5 h1 h2 h3 h4 a0_10 a0_11 a0_22 h5 h6 a0_31 a0_32 a0_34)), (h1, .inl (cA1, n1, .inl f1)), (h2, .inl (cA2, n2, .inl f2)), (h3, .inl (cA3, n3, .inl f3)), (h4, .inl (cA4, n4, .inl f4)), (h5, .inl (cA5, n5, .inl f5)), (h6, .inl (cA6, n6, .inl f6))] H) (hD : va_D A [(h0, .inr (12, o_M I0 J0 a0_2 a0_4 a0_5 h1 h2 h3 h4 a0_10 a0_11 a0_22 h5 h6 a0_31 a0_32 a0_34)), (h1, .inl (cA1, n1, .inl f1)), (h2, .inl (cA2, n2, .inl f2)), (h3, .inl (cA3, n3, .inl f3)), (h4, .inl (cA4, n4, .inl f4)), (h5, .inl (cA5, n5, .inl f5)), (h6, .inl (cA6, n6, .inl f6))]) (hS : va_S A s.heap H locs) (hv : v_M_findDay_286 I0 J0 n1 f1 n2 f2 n3 f3 n4 f4 n5 f5 n6 f6 x4 s1  Z) : W p l e (headSpec (Cond.code (⟨"NumberDressModel", "findDay", "(I)Z"⟩ : MethodName) prog_14_method_57_code 11 (some .boolean) :: zT) { frames := 1, cells := 0, slots := 0, locals := 22 }).room s m args below meth c H locs 0 0 (MQ below (va_Qi Z (zB (dC, dI) zCl [(cA1, .int), (cA2, .int), (cA3, .int), (cA4, .int), (cA5, .int), (cA6, .int)] A (fun u : (Nat → Int32) × (Nat → Int64) × (Nat → Int32) => [(h0, .inr (12, o_M u.1 u.2.1 a0_2 a0_4 a0_5 h1 h2 h3 h4 a0_10 a0_11 a0_22 h5 h6 a0_31 a0_32 a0_34)), (h1, .inl (cA1, n1, .inl f1)), (h2, .inl (cA2, n2, .inl f2)), (h3, .inl (cA3, n3, .inl f3)), (h4, .inl (cA4, n4, .inl f4)), (h5, .inl (cA5, n5, .inl f5)), (h6, .inl (cA6, n6, .inl u.2.2))])) A) args s 0 0 A) (F0 m 286 ls [.long s1, .ref h0]) := by
  obtain ⟨hx, hb, hr, hml, hown, ht, hlocks⟩ := id hc
  unfold v_M_findDay_286 at hv
  refine va_put (D := (dC, dI)) (ci := 12) (v := .long s1) (ty := .long) (C := "NumberDressModel") (T := T_M) (N := 41) hx hb ht zin_M ty_M tyok_M nm_M hown hK hP hD hS 0 rfl rfl 36 (by decide) (ht _ zw_1297) (fun _ h9 => h9) rfl (by decide +kernel) rfl rfl (Nat.le_of_ble_eq_true rfl) d_M_findDay_286 (fun H locs hP hD hS => ?_)
  have hP : va_P (dC, dI) zCl [(h0, .inr (12, o_M I0 (zul J0 36 s1) a0_2 a0_4 a0_5 h1 h2 h3 h4 a0_10 a0_11 a0_22 h5 h6 a0_31 a0_32 a0_34)), (h1, .inl (cA1, n1, .inl f1)), (h2, .inl (cA2, n2, .inl f2)), (h3, .inl (cA3, n3, .inl f3)), (h4, .inl (cA4, n4, .inl f4)), (h5, .inl (cA5, n5, .inl f5)), (h6, .inl (cA6, n6, .inl f6))] H := hP
  have hD : va_D A [(h0, .inr (12, o_M I0 (zul J0 36 s1) a0_2 a0_4 a0_5 h1 h2 h3 h4 a0_10 a0_11 a0_22 h5 h6 a0_31 a0_32 a0_34)), (h1, .inl (cA1, n1, .inl f1)), (h2, .inl (cA2, n2, .inl f2)), (h3, .inl (cA3, n3, .inl f3)), (h4, .inl (cA4, n4, .inl f4)), (h5, .inl (cA5, n5, .inl f5)), (h6, .inl (cA6, n6, .inl f6))] := hD
  refine lv_aload_n hx hb d_M_findDay_289 rfl (lv_at hl 0 rfl) ?_
  refine va_get (D := (dC, dI)) (ci := 12) (v := .long s1) (C := "NumberDressModel") (T := T_M) (N := 41) hx hb ht zin_M hown hK hP 0 rfl rfl 36 (by decide) (ht _ zw_1297) (fun _ h9 => h9) rfl d_M_findDay_290 ?_
  refine lv_lload hx hb d_M_findDay_293 (lv_at hl 1 rfl) ?_
  refine z_lcmp_ne (tgt := 314) hx hb d_M_findDay_295 d_M_findDay_296 (by decide) (fun c_1 => ?_) (fun c_1 => ?_)
  · have hv := hv.1 c_1
    exact b_M_findDay_314 hc hA hE  (lv_sub hl [0] rfl) hK hP hD hS hv
  · have hv := hv.2 c_1
    refine lv_aload_n hx hb d_M_findDay_299 rfl (lv_at hl 0 rfl) ?_
    refine lv_dup hx hb d_M_findDay_300 rfl ?_
    refine va_get (D := (dC, dI)) (ci := 12) (v := .int (I0 35)) (C := "NumberDressModel") (T := T_M) (N := 41) hx hb ht zin_M hown hK hP 0 rfl rfl 35 (by decide) (ht _ zw_1296) (fun _ h9 => h9) rfl d_M_findDay_301 ?_
    refine lv_iconst (v := (1 : Int32)) hx hb d_M_findDay_304 (by decide) ?_
    refine lv_iadd hx hb d_M_findDay_305 ?_
    refine va_put (D := (dC, dI)) (ci := 12) (v := .int ((I0 35) + (1 : Int32))) (ty := .int) (C := "NumberDressModel") (T := T_M) (N := 41) hx hb ht zin_M ty_M tyok_M nm_M hown hK hP hD hS 0 rfl rfl 35 (by decide) (ht _ zw_1296) (fun _ h9 => h9) rfl (by decide +kernel) rfl rfl (Nat.le_of_ble_eq_true rfl) d_M_findDay_306 (fun H locs hP hD hS => ?_)
    have hP : va_P (dC, dI) zCl [(h0, .inr (12, o_M (zu I0 35 ((I0 35) + (1 : Int32))) (zul J0 36 s1) a0_2 a0_4 a0_5 h1 h2 h3 h4 a0_10 a0_11 a0_22 h5 h6 a0_31 a0_32 a0_34)), (h1, .inl (cA1, n1, .inl f1)), (h2, .inl (cA2, n2, .inl f2)), (h3, .inl (cA3, n3, .inl f3)), (h4, .inl (cA4, n4, .inl f4)), (h5, .inl (cA5, n5, .inl f5)), (h6, .inl (cA6, n6, .inl f6))] H := hP
    have hD : va_D A [(h0, .inr (12, o_M (zu I0 35 ((I0 35) + (1 : Int32))) (zul J0 36 s1) a0_2 a0_4 a0_5 h1 h2 h3 h4 a0_10 a0_11 a0_22 h5 h6 a0_31 a0_32 a0_34)), (h1, .inl (cA1, n1, .inl f1)), (h2, .inl (cA2, n2, .inl f2)), (h3, .inl (cA3, n3, .inl f3)), (h4, .inl (cA4, n4, .inl f4)), (h5, .inl (cA5, n5, .inl f5)), (h6, .inl (cA6, n6, .inl f6))] := hD
    refine lv_aload_n hx hb d_M_findDay_309 rfl (lv_at hl 0 rfl) ?_
    refine lv_lconst (v := (0 : Int64)) hx hb d_M_findDay_310 (by decide) ?_
    refine va_put (D := (dC, dI)) (ci := 12) (v := .long (0 : Int64)) (ty := .long) (C := "NumberDressModel") (T := T_M) (N := 41) hx hb ht zin_M ty_M tyok_M nm_M hown hK hP hD hS 0 rfl rfl 36 (by decide) (ht _ zw_1297) (fun _ h9 => h9) rfl (by decide +kernel) rfl rfl (Nat.le_of_ble_eq_true rfl) d_M_findDay_311 (fun H locs hP hD hS => ?_)
    have hP : va_P (dC, dI) zCl [(h0, .inr (12, o_M (zu I0 35 ((I0 35) + (1 : Int32))) (zul J0 36 (0 : Int64)) a0_2 a0_4 a0_5 h1 h2 h3 h4 a0_10 a0_11 a0_22 h5 h6 a0_31 a0_32 a0_34)), (h1, .inl (cA1, n1, .inl f1)), (h2, .inl (cA2, n2, .inl f2)), (h3, .inl (cA3, n3, .inl f3)), (h4, .inl (cA4, n4, .inl f4)), (h5, .inl (cA5, n5, .inl f5)), (h6, .inl (cA6, n6, .inl f6))] H := hP
    have hD : va_D A [(h0, .inr (12, o_M (zu I0 35 ((I0 35) + (1 : Int32))) (zul J0 36 (0 : Int64)) a0_2 a0_4 a0_5 h1 h2 h3 h4 a0_10 a0_11 a0_22 h5 h6 a0_31 a0_32 a0_34)), (h1, .inl (cA1, n1, .inl f1)), (h2, .inl (cA2, n2, .inl f2)), (h3, .inl (cA3, n3, .inl f3)), (h4, .inl (cA4, n4, .inl f4)), (h5, .inl (cA5, n5, .inl f5)), (h6, .inl (cA6, n6, .inl f6))] := hD
    exact b_M_findDay_314 hc hA hE  (lv_sub hl [0] rfl) hK hP hD hS hv
set_option maxHeartbeats 4000000 in
set_option maxRecDepth 100000 in
theorem b_M_findDay_210 {h0 : Nat} {a0_2 : Nat} {a0_4 : Nat} {a0_5 : Nat} {a0_10 : Nat} {a0_11 : Nat} {a0_22 : Nat} {a0_31 : Nat} {a0_32 : Nat} {a0_34 : Nat} {h1 : Nat} {cA1 : ClassId} {h2 : Nat} {cA2 : ClassId} {h3 : Nat} {cA3 : ClassId} {h4 : Nat} {cA4 : ClassId} {h5 : Nat} {cA5 : ClassId} {h6 : Nat} {cA6 : ClassId} {I0 : Nat → Int32} {J0 : Nat → Int64} {n1 : Nat} {f1 : Nat → Int32} {n2 : Nat} {f2 : Nat → Int32} {n3 : Nat} {f3 : Nat → Int32} {n4 : Nat} {f4 : Nat → Int32} {n5 : Nat} {f5 : Nat → Int32} {n6 : Nat} {f6 : Nat → Int32} {x4 : Int64}  {Z : Int32 → (Nat → Int32) × (Nat → Int64) × (Nat → Int32) → Prop} (hc : zC p s m args meth c prog_14_method_57_code (some .boolean) 11 "NumberDressModel") (hA : ∀ q : Nat, s.heap.size ≤ q → A q) (hE : zE gE A s) : ∀ (N : Nat) (x2 : Int64) (x6 : Int64) (x8 : Int64) (x10 : Int32) (H : Heap) (locs : List Loc) (ls : Array Slot), lv_has ls 11 [(0, .ref h0), (2, .long x2), (4, .long x4), (6, .long x6), (8, .long x8), (10, .int x10)] → va_K (dC, dI) zCl [(cA1, .int), (cA2, .int), (cA3, .int), (cA4, .int), (cA5, .int), (cA6, .int)] s → va_P (dC, dI) zCl [(h0, .inr (12, o_M I0 J0 a0_2 a0_4 a0_5 h1 h2 h3 h4 a0_10 a0_11 a0_22 h5 h6 a0_31 a0_32 a0_34)), (h1, .inl (cA1, n1, .inl f1)), (h2, .inl (cA2, n2, .inl f2)), (h3, .inl (cA3, n3, .inl f3)), (h4, .inl (cA4, n4, .inl f4)), (h5, .inl (cA5, n5, .inl f5)), (h6, .inl (cA6, n6, .inl f6))] H → va_D A [(h0, .inr (12, o_M I0 J0 a0_2 a0_4 a0_5 h1 h2 h3 h4 a0_10 a0_11 a0_22 h5 h6 a0_31 a0_32 a0_34)), (h1, .inl (cA1, n1, .inl f1)), (h2, .inl (cA2, n2, .inl f2)), (h3, .inl (cA3, n3, .inl f3)), (h4, .inl (cA4, n4, .inl f4)), (h5, .inl (cA5, n5, .inl f5)), (h6, .inl (cA6, n6, .inl f6))] → va_S A s.heap H locs → v_M_findDay_210 I0 J0 n1 f1 n2 f2 n3 f3 n4 f4 n5 f5 n6 f6 x4  Z N x2 x6 x8 x10 → W p l e (headSpec (Cond.code (⟨"NumberDressModel", "findDay", "(I)Z"⟩ : MethodName) prog_14_method_57_code 11 (some .boolean) :: zT) { frames := 1, cells := 0, slots := 0, locals := 22 }).room s m args below meth c H locs 0 0 (MQ below (va_Qi Z (zB (dC, dI) zCl [(cA1, .int), (cA2, .int), (cA3, .int), (cA4, .int), (cA5, .int), (cA6, .int)] A (fun u : (Nat → Int32) × (Nat → Int64) × (Nat → Int32) => [(h0, .inr (12, o_M u.1 u.2.1 a0_2 a0_4 a0_5 h1 h2 h3 h4 a0_10 a0_11 a0_22 h5 h6 a0_31 a0_32 a0_34)), (h1, .inl (cA1, n1, .inl f1)), (h2, .inl (cA2, n2, .inl f2)), (h3, .inl (cA3, n3, .inl f3)), (h4, .inl (cA4, n4, .inl f4)), (h5, .inl (cA5, n5, .inl f5)), (h6, .inl (cA6, n6, .inl u.2.2))])) A) args s 0 0 A) (F0 m 210 ls []) := by
  obtain ⟨hx, hb, hr, hml, hown, ht, hlocks⟩ := id hc
  intro N
  induction N with
  | zero => intro x2 x6 x8 x10 H locs ls hl hK hP hD hS hv; exact hv.elim
  | succ N hk210 =>
    intro x2 x6 x8 x10 H locs ls hl hK hP hD hS hv
    unfold v_M_findDay_210 at hv
    refine lv_iload hx hb d_M_findDay_210 (lv_at hl 5 rfl) ?_
    refine lv_bipush (v := (15 : Int32)) hx hb d_M_findDay_212 (by decide) ?_
    refine lv_icmp_ge (tgt := 258) hx hb d_M_findDay_214 (by decide) (fun c_1 => ?_) (fun c_1 => ?_)
    · have hv := hv.1 c_1
      refine lv_lload hx hb d_M_findDay_258 (lv_at hl 3 rfl) ?_
      refine lv_lload_n hx hb d_M_findDay_260 rfl (lv_at hl 1 rfl) ?_
      refine lv_lload hx hb d_M_findDay_261 (lv_at hl 2 rfl) ?_
      refine lv_lmul hx hb d_M_findDay_263 ?_
      refine lv_ladd hx hb d_M_findDay_264 ?_
      refine lv_lstore (lv' := [(6, .long (x6 + (x2 * x4))), (0, .ref h0), (2, .long x2), (4, .long x4), (8, .long x8), (10, .int x10)]) hx hb d_M_findDay_265 hl (by decide) rfl (fun ls hl => ?_)
      refine lv_aload_n hx hb d_M_findDay_267 rfl (lv_at hl 1 rfl) ?_
      refine lv_lload hx hb d_M_findDay_268 (lv_at hl 4 rfl) ?_
      refine lv_ldc2 (v := (5 : Int64)) hx hb hown (ht _ zw_1625) d_M_findDay_270 ?_
      refine z_lcmp_lt (tgt := 284) hx hb d_M_findDay_273 d_M_findDay_274 (by decide) (fun c_2 => ?_) (fun c_2 => ?_)
      · have hv := hv.1 c_2
        refine lv_lload hx hb d_M_findDay_284 (lv_at hl 0 rfl) ?_
        exact b_M_findDay_286 hc hA hE  (lv_sub hl [1, 3] rfl) hK hP hD hS hv
      · have hv := hv.2 c_2
        refine lv_lload hx hb d_M_findDay_277 (lv_at hl 0 rfl) ?_
        refine lv_lconst (v := (1 : Int64)) hx hb d_M_findDay_279 (by decide) ?_
        refine lv_ladd hx hb d_M_findDay_280 ?_
        refine lv_goto (tgt := 286) hx hb d_M_findDay_281 (by decide) ?_
        exact b_M_findDay_286 hc hA hE  (lv_sub hl [1, 3] rfl) hK hP hD hS hv
    · have hv := hv.2 c_1
      refine lv_lload hx hb d_M_findDay_217 (lv_at hl 3 rfl) ?_
      refine lv_lload_n hx hb d_M_findDay_219 rfl (lv_at hl 1 rfl) ?_
      refine lv_ldc2 (v := (10 : Int64)) hx hb hown (ht _ zw_1400) d_M_findDay_220 ?_
      refine lv_lrem hx hb d_M_findDay_223 (by decide) ?_
      refine lv_lload hx hb d_M_findDay_224 (lv_at hl 2 rfl) ?_
      refine lv_lmul hx hb d_M_findDay_226 ?_
      refine lv_ladd hx hb d_M_findDay_227 ?_
      refine lv_topl (fun y_3 ey_3 => ?_)
      have hv := hv y_3 ey_3
      refine lv_lstore (lv' := [(6, .long y_3), (0, .ref h0), (2, .long x2), (4, .long x4), (8, .long x8), (10, .int x10)]) hx hb d_M_findDay_228 hl (by decide) rfl (fun ls hl => ?_)
      refine lv_lload_n hx hb d_M_findDay_230 rfl (lv_at hl 2 rfl) ?_
      refine lv_ldc2 (v := (10 : Int64)) hx hb hown (ht _ zw_1400) d_M_findDay_231 ?_
      refine lv_ldiv hx hb d_M_findDay_234 (by decide) ?_
      refine lv_lstore_n (lv' := [(2, .long (x2 / (10 : Int64))), (6, .long y_3), (0, .ref h0), (4, .long x4), (8, .long x8), (10, .int x10)]) hx hb d_M_findDay_235 rfl hl (by decide) rfl (fun ls hl => ?_)
      refine lv_lload hx hb d_M_findDay_236 (lv_at hl 1 rfl) ?_
      refine lv_ldc2 (v := (10 : Int64)) hx hb hown (ht _ zw_1400) d_M_findDay_238 ?_
      refine lv_lrem hx hb d_M_findDay_241 (by decide) ?_
      refine lv_topl (fun y_4 ey_4 => ?_)
      have hv := hv y_4 ey_4
      refine lv_lstore (lv' := [(8, .long y_4), (2, .long (x2 / (10 : Int64))), (6, .long y_3), (0, .ref h0), (4, .long x4), (10, .int x10)]) hx hb d_M_findDay_242 hl (by decide) rfl (fun ls hl => ?_)
      refine lv_lload hx hb d_M_findDay_244 (lv_at hl 2 rfl) ?_
      refine lv_ldc2 (v := (10 : Int64)) hx hb hown (ht _ zw_1400) d_M_findDay_246 ?_
      refine lv_ldiv hx hb d_M_findDay_249 (by decide) ?_
      refine lv_lstore (lv' := [(6, .long (y_3 / (10 : Int64))), (8, .long y_4), (2, .long (x2 / (10 : Int64))), (0, .ref h0), (4, .long x4), (10, .int x10)]) hx hb d_M_findDay_250 hl (by decide) rfl (fun ls hl => ?_)
      refine lv_iinc (v := (x10 + (1 : Int32))) (lv' := [(10, .int (x10 + (1 : Int32))), (6, .long (y_3 / (10 : Int64))), (8, .long y_4), (2, .long (x2 / (10 : Int64))), (0, .ref h0), (4, .long x4)]) hx hb d_M_findDay_252 hl (k := 5) rfl rfl (by decide) rfl (fun ls hl => ?_)
      refine lv_goto (tgt := 210) hx hb d_M_findDay_255 (by decide) ?_
      exact hk210 (x2 / (10 : Int64)) (y_3 / (10 : Int64)) y_4 (x10 + (1 : Int32)) _ _ _ (lv_sub hl [4, 3, 5, 1, 2, 0] rfl) hK hP hD hS hv
set_option maxHeartbeats 4000000 in
set_option maxRecDepth 100000 in
theorem b_M_findDay_197 {h0 : Nat} {a0_2 : Nat} {a0_4 : Nat} {a0_5 : Nat} {a0_10 : Nat} {a0_11 : Nat} {a0_22 : Nat} {a0_31 : Nat} {a0_32 : Nat} {a0_34 : Nat} {h1 : Nat} {cA1 : ClassId} {h2 : Nat} {cA2 : ClassId} {h3 : Nat} {cA3 : ClassId} {h4 : Nat} {cA4 : ClassId} {h5 : Nat} {cA5 : ClassId} {h6 : Nat} {cA6 : ClassId} {I0 : Nat → Int32} {J0 : Nat → Int64} {n1 : Nat} {f1 : Nat → Int32} {n2 : Nat} {f2 : Nat → Int32} {n3 : Nat} {f3 : Nat → Int32} {n4 : Nat} {f4 : Nat → Int32} {n5 : Nat} {f5 : Nat → Int32} {n6 : Nat} {f6 : Nat → Int32} {x2 : Int64} {s0 : Int64} {s1 : Int32}  {Z : Int32 → (Nat → Int32) × (Nat → Int64) × (Nat → Int32) → Prop} {H : Heap} {locs : List Loc} {ls : Array Slot} (hc : zC p s m args meth c prog_14_method_57_code (some .boolean) 11 "NumberDressModel") (hA : ∀ q : Nat, s.heap.size ≤ q → A q) (hE : zE gE A s) (hl : lv_has ls 11 [(0, .ref h0), (2, .long x2)]) (hK : va_K (dC, dI) zCl [(cA1, .int), (cA2, .int), (cA3, .int), (cA4, .int), (cA5, .int), (cA6, .int)] s) (hP : va_P (dC, dI) zCl [(h0, .inr (12, o_M I0 J0 a0_2 a0_4 a0_5 h1 h2 h3 h4 a0_10 a0_11 a0_22 h5 h6 a0_31 a0_32 a0_34)), (h1, .inl (cA1, n1, .inl f1)), (h2, .inl (cA2, n2, .inl f2)), (h3, .inl (cA3, n3, .inl f3)), (h4, .inl (cA4, n4, .inl f4)), (h5, .inl (cA5, n5, .inl f5)), (h6, .inl (cA6, n6, .inl f6))] H) (hD : va_D A [(h0, .inr (12, o_M I0 J0 a0_2 a0_4 a0_5 h1 h2 h3 h4 a0_10 a0_11 a0_22 h5 h6 a0_31 a0_32 a0_34)), (h1, .inl (cA1, n1, .inl f1)), (h2, .inl (cA2, n2, .inl f2)), (h3, .inl (cA3, n3, .inl f3)), (h4, .inl (cA4, n4, .inl f4)), (h5, .inl (cA5, n5, .inl f5)), (h6, .inl (cA6, n6, .inl f6))]) (hS : va_S A s.heap H locs) (hv : v_M_findDay_197 I0 J0 n1 f1 n2 f2 n3 f3 n4 f4 n5 f5 n6 f6 x2 s0 s1  Z) : W p l e (headSpec (Cond.code (⟨"NumberDressModel", "findDay", "(I)Z"⟩ : MethodName) prog_14_method_57_code 11 (some .boolean) :: zT) { frames := 1, cells := 0, slots := 0, locals := 22 }).room s m args below meth c H locs 0 0 (MQ below (va_Qi Z (zB (dC, dI) zCl [(cA1, .int), (cA2, .int), (cA3, .int), (cA4, .int), (cA5, .int), (cA6, .int)] A (fun u : (Nat → Int32) × (Nat → Int64) × (Nat → Int32) => [(h0, .inr (12, o_M u.1 u.2.1 a0_2 a0_4 a0_5 h1 h2 h3 h4 a0_10 a0_11 a0_22 h5 h6 a0_31 a0_32 a0_34)), (h1, .inl (cA1, n1, .inl f1)), (h2, .inl (cA2, n2, .inl f2)), (h3, .inl (cA3, n3, .inl f3)), (h4, .inl (cA4, n4, .inl f4)), (h5, .inl (cA5, n5, .inl f5)), (h6, .inl (cA6, n6, .inl u.2.2))])) A) args s 0 0 A) (F0 m 197 ls [.int s1, .long s0]) := by
  obtain ⟨hx, hb, hr, hml, hown, ht, hlocks⟩ := id hc
  unfold v_M_findDay_197 at hv
  refine lv_i2l (v := s1.toInt64) hx hb d_M_findDay_197 rfl ?_
  refine lv_lmul hx hb d_M_findDay_198 ?_
  refine lv_lstore (lv' := [(4, .long (s0 * s1.toInt64)), (0, .ref h0), (2, .long x2)]) hx hb d_M_findDay_199 hl (by decide) rfl (fun ls hl => ?_)
  refine lv_lconst (v := (0 : Int64)) hx hb d_M_findDay_201 (by decide) ?_
  refine lv_lstore (lv' := [(6, .long (0 : Int64)), (4, .long (s0 * s1.toInt64)), (0, .ref h0), (2, .long x2)]) hx hb d_M_findDay_202 hl (by decide) rfl (fun ls hl => ?_)
  refine lv_lconst (v := (0 : Int64)) hx hb d_M_findDay_204 (by decide) ?_
  refine lv_lstore (lv' := [(8, .long (0 : Int64)), (6, .long (0 : Int64)), (4, .long (s0 * s1.toInt64)), (0, .ref h0), (2, .long x2)]) hx hb d_M_findDay_205 hl (by decide) rfl (fun ls hl => ?_)
  refine lv_iconst (v := (0 : Int32)) hx hb d_M_findDay_207 (by decide) ?_
  refine lv_istore (lv' := [(10, .int (0 : Int32)), (8, .long (0 : Int64)), (6, .long (0 : Int64)), (4, .long (s0 * s1.toInt64)), (0, .ref h0), (2, .long x2)]) hx hb d_M_findDay_208 hl (by decide) rfl (fun ls hl => ?_)
  obtain ⟨Nx, hv⟩ := hv
  exact b_M_findDay_210 hc hA hE  Nx x2 (0 : Int64) (0 : Int64) (0 : Int32) _ _ _ (lv_sub hl [4, 5, 3, 2, 1, 0] rfl) hK hP hD hS hv
set_option maxHeartbeats 4000000 in
set_option maxRecDepth 100000 in
theorem b_M_findDay_186 {h0 : Nat} {a0_2 : Nat} {a0_4 : Nat} {a0_5 : Nat} {a0_10 : Nat} {a0_11 : Nat} {a0_22 : Nat} {a0_31 : Nat} {a0_32 : Nat} {a0_34 : Nat} {h1 : Nat} {cA1 : ClassId} {h2 : Nat} {cA2 : ClassId} {h3 : Nat} {cA3 : ClassId} {h4 : Nat} {cA4 : ClassId} {h5 : Nat} {cA5 : ClassId} {h6 : Nat} {cA6 : ClassId} {I0 : Nat → Int32} {J0 : Nat → Int64} {n1 : Nat} {f1 : Nat → Int32} {n2 : Nat} {f2 : Nat → Int32} {n3 : Nat} {f3 : Nat → Int32} {n4 : Nat} {f4 : Nat → Int32} {n5 : Nat} {f5 : Nat → Int32} {n6 : Nat} {f6 : Nat → Int32} {s0 : Int64}  {Z : Int32 → (Nat → Int32) × (Nat → Int64) × (Nat → Int32) → Prop} {H : Heap} {locs : List Loc} {ls : Array Slot} (hc : zC p s m args meth c prog_14_method_57_code (some .boolean) 11 "NumberDressModel") (hA : ∀ q : Nat, s.heap.size ≤ q → A q) (hE : zE gE A s) (hl : lv_has ls 11 [(0, .ref h0)]) (hK : va_K (dC, dI) zCl [(cA1, .int), (cA2, .int), (cA3, .int), (cA4, .int), (cA5, .int), (cA6, .int)] s) (hP : va_P (dC, dI) zCl [(h0, .inr (12, o_M I0 J0 a0_2 a0_4 a0_5 h1 h2 h3 h4 a0_10 a0_11 a0_22 h5 h6 a0_31 a0_32 a0_34)), (h1, .inl (cA1, n1, .inl f1)), (h2, .inl (cA2, n2, .inl f2)), (h3, .inl (cA3, n3, .inl f3)), (h4, .inl (cA4, n4, .inl f4)), (h5, .inl (cA5, n5, .inl f5)), (h6, .inl (cA6, n6, .inl f6))] H) (hD : va_D A [(h0, .inr (12, o_M I0 J0 a0_2 a0_4 a0_5 h1 h2 h3 h4 a0_10 a0_11 a0_22 h5 h6 a0_31 a0_32 a0_34)), (h1, .inl (cA1, n1, .inl f1)), (h2, .inl (cA2, n2, .inl f2)), (h3, .inl (cA3, n3, .inl f3)), (h4, .inl (cA4, n4, .inl f4)), (h5, .inl (cA5, n5, .inl f5)), (h6, .inl (cA6, n6, .inl f6))]) (hS : va_S A s.heap H locs) (hv : v_M_findDay_186 I0 J0 n1 f1 n2 f2 n3 f3 n4 f4 n5 f5 n6 f6 s0  Z) : W p l e (headSpec (Cond.code (⟨"NumberDressModel", "findDay", "(I)Z"⟩ : MethodName) prog_14_method_57_code 11 (some .boolean) :: zT) { frames := 1, cells := 0, slots := 0, locals := 22 }).room s m args below meth c H locs 0 0 (MQ below (va_Qi Z (zB (dC, dI) zCl [(cA1, .int), (cA2, .int), (cA3, .int), (cA4, .int), (cA5, .int), (cA6, .int)] A (fun u : (Nat → Int32) × (Nat → Int64) × (Nat → Int32) => [(h0, .inr (12, o_M u.1 u.2.1 a0_2 a0_4 a0_5 h1 h2 h3 h4 a0_10 a0_11 a0_22 h5 h6 a0_31 a0_32 a0_34)), (h1, .inl (cA1, n1, .inl f1)), (h2, .inl (cA2, n2, .inl f2)), (h3, .inl (cA3, n3, .inl f3)), (h4, .inl (cA4, n4, .inl f4)), (h5, .inl (cA5, n5, .inl f5)), (h6, .inl (cA6, n6, .inl u.2.2))])) A) args s 0 0 A) (F0 m 186 ls [.long s0]) := by
  obtain ⟨hx, hb, hr, hml, hown, ht, hlocks⟩ := id hc
  unfold v_M_findDay_186 at hv
  refine lv_lstore_n (lv' := [(2, .long s0), (0, .ref h0)]) hx hb d_M_findDay_186 rfl hl (by decide) rfl (fun ls hl => ?_)
  refine lv_ldc2 (v := (86400 : Int64)) hx hb hown (ht _ zw_1621) d_M_findDay_187 ?_
  refine lv_aload_n hx hb d_M_findDay_190 rfl (lv_at hl 1 rfl) ?_
  refine va_get (D := (dC, dI)) (ci := 12) (v := .int (I0 37)) (C := "NumberDressModel") (T := T_M) (N := 41) hx hb ht zin_M hown hK hP 0 rfl rfl 37 (by decide) (ht _ zw_1298) (fun _ h9 => h9) rfl d_M_findDay_191 ?_
  refine z_calli (wc := []) (wr := [(h0, .inr (12, o_M I0 J0 a0_2 a0_4 a0_5 h1 h2 h3 h4 a0_10 a0_11 a0_22 h5 h6 a0_31 a0_32 a0_34)), (h1, .inl (cA1, n1, .inl f1)), (h2, .inl (cA2, n2, .inl f2)), (h3, .inl (cA3, n3, .inl f3)), (h4, .inl (cA4, n4, .inl f4)), (h5, .inl (cA5, n5, .inl f5)), (h6, .inl (cA6, n6, .inl f6))]) [] [0, 1, 2, 3, 4, 5, 6] (va_runS (As := [.int (I0 37)]) (rest := [.long (86400 : Int64)]) ⟨hx, hb, hml, hown, ht⟩ (m_M_tenTo l dC dI hv) ⟨(callB_of 1 ht (zG_in zi_M_tenTo) rfl rfl rfl (ht _ zw_122) (ht _ zw_1622) zh_M_tenTo ⟨Nat.le_of_ble_eq_true rfl, Nat.le_of_ble_eq_true rfl⟩), (ht _ zw_1623)⟩ ⟨zPc_blind, zPc_pre hP hK hD hS hA hE [] [] rfl rfl (by decide) rfl⟩ rfl rfl hl.1 rfl (lv_room (Nat.le_of_ble_eq_true rfl)) d_M_findDay_194 ⟨Nat.le_of_ble_eq_true rfl, Nat.le_of_ble_eq_true rfl⟩) hP hD hS hA rfl rfl (by decide) (by decide) (fun r u H locs hv hP hD hS => ?_)
  have hP : va_P (dC, dI) zCl [(h0, .inr (12, o_M I0 J0 a0_2 a0_4 a0_5 h1 h2 h3 h4 a0_10 a0_11 a0_22 h5 h6 a0_31 a0_32 a0_34)), (h1, .inl (cA1, n1, .inl f1)), (h2, .inl (cA2, n2, .inl f2)), (h3, .inl (cA3, n3, .inl f3)), (h4, .inl (cA4, n4, .inl f4)), (h5, .inl (cA5, n5, .inl f5)), (h6, .inl (cA6, n6, .inl f6))] H := hP.sub [0, 1, 2, 3, 4, 5, 6] rfl
  have hD : va_D A [(h0, .inr (12, o_M I0 J0 a0_2 a0_4 a0_5 h1 h2 h3 h4 a0_10 a0_11 a0_22 h5 h6 a0_31 a0_32 a0_34)), (h1, .inl (cA1, n1, .inl f1)), (h2, .inl (cA2, n2, .inl f2)), (h3, .inl (cA3, n3, .inl f3)), (h4, .inl (cA4, n4, .inl f4)), (h5, .inl (cA5, n5, .inl f5)), (h6, .inl (cA6, n6, .inl f6))] := hD.sub [0, 1, 2, 3, 4, 5, 6] (by decide) rfl
  exact b_M_findDay_197 hc hA hE  (lv_sub hl [1, 0] rfl) hK hP hD hS hv
set_option maxHeartbeats 4000000 in
set_option maxRecDepth 100000 in
theorem b_M_findDay_175 {h0 : Nat} {a0_2 : Nat} {a0_4 : Nat} {a0_5 : Nat} {a0_10 : Nat} {a0_11 : Nat} {a0_22 : Nat} {a0_31 : Nat} {a0_32 : Nat} {a0_34 : Nat} {h1 : Nat} {cA1 : ClassId} {h2 : Nat} {cA2 : ClassId} {h3 : Nat} {cA3 : ClassId} {h4 : Nat} {cA4 : ClassId} {h5 : Nat} {cA5 : ClassId} {h6 : Nat} {cA6 : ClassId} {I0 : Nat → Int32} {J0 : Nat → Int64} {n1 : Nat} {f1 : Nat → Int32} {n2 : Nat} {f2 : Nat → Int32} {n3 : Nat} {f3 : Nat → Int32} {n4 : Nat} {f4 : Nat → Int32} {n5 : Nat} {f5 : Nat → Int32} {n6 : Nat} {f6 : Nat → Int32} {x2 : Int64} {s0 : Int32}  {Z : Int32 → (Nat → Int32) × (Nat → Int64) × (Nat → Int32) → Prop} {H : Heap} {locs : List Loc} {ls : Array Slot} (hc : zC p s m args meth c prog_14_method_57_code (some .boolean) 11 "NumberDressModel") (hA : ∀ q : Nat, s.heap.size ≤ q → A q) (hE : zE gE A s) (hl : lv_has ls 11 [(0, .ref h0), (2, .long x2)]) (hK : va_K (dC, dI) zCl [(cA1, .int), (cA2, .int), (cA3, .int), (cA4, .int), (cA5, .int), (cA6, .int)] s) (hP : va_P (dC, dI) zCl [(h0, .inr (12, o_M I0 J0 a0_2 a0_4 a0_5 h1 h2 h3 h4 a0_10 a0_11 a0_22 h5 h6 a0_31 a0_32 a0_34)), (h1, .inl (cA1, n1, .inl f1)), (h2, .inl (cA2, n2, .inl f2)), (h3, .inl (cA3, n3, .inl f3)), (h4, .inl (cA4, n4, .inl f4)), (h5, .inl (cA5, n5, .inl f5)), (h6, .inl (cA6, n6, .inl f6))] H) (hD : va_D A [(h0, .inr (12, o_M I0 J0 a0_2 a0_4 a0_5 h1 h2 h3 h4 a0_10 a0_11 a0_22 h5 h6 a0_31 a0_32 a0_34)), (h1, .inl (cA1, n1, .inl f1)), (h2, .inl (cA2, n2, .inl f2)), (h3, .inl (cA3, n3, .inl f3)), (h4, .inl (cA4, n4, .inl f4)), (h5, .inl (cA5, n5, .inl f5)), (h6, .inl (cA6, n6, .inl f6))]) (hS : va_S A s.heap H locs) (hv : v_M_findDay_175 I0 J0 n1 f1 n2 f2 n3 f3 n4 f4 n5 f5 n6 f6 x2 s0  Z) : W p l e (headSpec (Cond.code (⟨"NumberDressModel", "findDay", "(I)Z"⟩ : MethodName) prog_14_method_57_code 11 (some .boolean) :: zT) { frames := 1, cells := 0, slots := 0, locals := 22 }).room s m args below meth c H locs 0 0 (MQ below (va_Qi Z (zB (dC, dI) zCl [(cA1, .int), (cA2, .int), (cA3, .int), (cA4, .int), (cA5, .int), (cA6, .int)] A (fun u : (Nat → Int32) × (Nat → Int64) × (Nat → Int32) => [(h0, .inr (12, o_M u.1 u.2.1 a0_2 a0_4 a0_5 h1 h2 h3 h4 a0_10 a0_11 a0_22 h5 h6 a0_31 a0_32 a0_34)), (h1, .inl (cA1, n1, .inl f1)), (h2, .inl (cA2, n2, .inl f2)), (h3, .inl (cA3, n3, .inl f3)), (h4, .inl (cA4, n4, .inl f4)), (h5, .inl (cA5, n5, .inl f5)), (h6, .inl (cA6, n6, .inl u.2.2))])) A) args s 0 0 A) (F0 m 175 ls [.int s0]) := by
  obtain ⟨hx, hb, hr, hml, hown, ht, hlocks⟩ := id hc
  unfold v_M_findDay_175 at hv
  refine lv_iconst (v := (5 : Int32)) hx hb d_M_findDay_175 (by decide) ?_
  refine lv_icmp_lt (tgt := 185) hx hb d_M_findDay_176 (by decide) (fun c_1 => ?_) (fun c_1 => ?_)
  · have hv := hv.1 c_1
    refine lv_lload_n hx hb d_M_findDay_185 rfl (lv_at hl 1 rfl) ?_
    exact b_M_findDay_186 hc hA hE  (lv_sub hl [0] rfl) hK hP hD hS hv
  · have hv := hv.2 c_1
    refine lv_lload_n hx hb d_M_findDay_179 rfl (lv_at hl 1 rfl) ?_
    refine lv_lconst (v := (1 : Int64)) hx hb d_M_findDay_180 (by decide) ?_
    refine lv_ladd hx hb d_M_findDay_181 ?_
    refine lv_goto (tgt := 186) hx hb d_M_findDay_182 (by decide) ?_
    exact b_M_findDay_186 hc hA hE  (lv_sub hl [0] rfl) hK hP hD hS hv
set_option maxHeartbeats 4000000 in
set_option maxRecDepth 100000 in
theorem b_M_findDay_141 {h0 : Nat} {a0_2 : Nat} {a0_4 : Nat} {a0_5 : Nat} {a0_10 : Nat} {a0_11 : Nat} {a0_22 : Nat} {a0_31 : Nat} {a0_32 : Nat} {a0_34 : Nat} {h1 : Nat} {cA1 : ClassId} {h2 : Nat} {cA2 : ClassId} {h3 : Nat} {cA3 : ClassId} {h4 : Nat} {cA4 : ClassId} {h5 : Nat} {cA5 : ClassId} {h6 : Nat} {cA6 : ClassId} {I0 : Nat → Int32} {J0 : Nat → Int64} {n1 : Nat} {f1 : Nat → Int32} {n2 : Nat} {f2 : Nat → Int32} {n3 : Nat} {f3 : Nat → Int32} {n4 : Nat} {f4 : Nat → Int32} {n5 : Nat} {f5 : Nat → Int32} {n6 : Nat} {f6 : Nat → Int32}  {Z : Int32 → (Nat → Int32) × (Nat → Int64) × (Nat → Int32) → Prop} (hc : zC p s m args meth c prog_14_method_57_code (some .boolean) 11 "NumberDressModel") (hA : ∀ q : Nat, s.heap.size ≤ q → A q) (hE : zE gE A s) : ∀ (N : Nat) (x2 : Int64) (x4 : Int32) (H : Heap) (locs : List Loc) (ls : Array Slot), lv_has ls 11 [(0, .ref h0), (2, .long x2), (4, .int x4)] → va_K (dC, dI) zCl [(cA1, .int), (cA2, .int), (cA3, .int), (cA4, .int), (cA5, .int), (cA6, .int)] s → va_P (dC, dI) zCl [(h0, .inr (12, o_M I0 J0 a0_2 a0_4 a0_5 h1 h2 h3 h4 a0_10 a0_11 a0_22 h5 h6 a0_31 a0_32 a0_34)), (h1, .inl (cA1, n1, .inl f1)), (h2, .inl (cA2, n2, .inl f2)), (h3, .inl (cA3, n3, .inl f3)), (h4, .inl (cA4, n4, .inl f4)), (h5, .inl (cA5, n5, .inl f5)), (h6, .inl (cA6, n6, .inl f6))] H → va_D A [(h0, .inr (12, o_M I0 J0 a0_2 a0_4 a0_5 h1 h2 h3 h4 a0_10 a0_11 a0_22 h5 h6 a0_31 a0_32 a0_34)), (h1, .inl (cA1, n1, .inl f1)), (h2, .inl (cA2, n2, .inl f2)), (h3, .inl (cA3, n3, .inl f3)), (h4, .inl (cA4, n4, .inl f4)), (h5, .inl (cA5, n5, .inl f5)), (h6, .inl (cA6, n6, .inl f6))] → va_S A s.heap H locs → v_M_findDay_141 I0 J0 n1 f1 n2 f2 n3 f3 n4 f4 n5 f5 n6 f6  Z N x2 x4 → W p l e (headSpec (Cond.code (⟨"NumberDressModel", "findDay", "(I)Z"⟩ : MethodName) prog_14_method_57_code 11 (some .boolean) :: zT) { frames := 1, cells := 0, slots := 0, locals := 22 }).room s m args below meth c H locs 0 0 (MQ below (va_Qi Z (zB (dC, dI) zCl [(cA1, .int), (cA2, .int), (cA3, .int), (cA4, .int), (cA5, .int), (cA6, .int)] A (fun u : (Nat → Int32) × (Nat → Int64) × (Nat → Int32) => [(h0, .inr (12, o_M u.1 u.2.1 a0_2 a0_4 a0_5 h1 h2 h3 h4 a0_10 a0_11 a0_22 h5 h6 a0_31 a0_32 a0_34)), (h1, .inl (cA1, n1, .inl f1)), (h2, .inl (cA2, n2, .inl f2)), (h3, .inl (cA3, n3, .inl f3)), (h4, .inl (cA4, n4, .inl f4)), (h5, .inl (cA5, n5, .inl f5)), (h6, .inl (cA6, n6, .inl u.2.2))])) A) args s 0 0 A) (F0 m 141 ls []) := by
  obtain ⟨hx, hb, hr, hml, hown, ht, hlocks⟩ := id hc
  intro N
  induction N with
  | zero => intro x2 x4 H locs ls hl hK hP hD hS hv; exact hv.elim
  | succ N hk141 =>
    intro x2 x4 H locs ls hl hK hP hD hS hv
    unfold v_M_findDay_141 at hv
    refine lv_iload hx hb d_M_findDay_141 (lv_at hl 2 rfl) ?_
    refine lv_bipush (v := (16 : Int32)) hx hb d_M_findDay_143 (by decide) ?_
    refine lv_icmp_ge (tgt := 169) hx hb d_M_findDay_145 (by decide) (fun c_1 => ?_) (fun c_1 => ?_)
    · have hv := hv.1 c_1
      refine lv_aload_n hx hb d_M_findDay_169 rfl (lv_at hl 0 rfl) ?_
      refine lv_bipush (v := (-16 : Int32)) hx hb d_M_findDay_170 (by decide) ?_
      refine z_calli (wc := [(h0, .inr (12, o_M I0 J0 a0_2 a0_4 a0_5 h1 h2 h3 h4 a0_10 a0_11 a0_22 h5 h6 a0_31 a0_32 a0_34)), (h6, .inl (cA6, n6, .inl f6))]) (wr := [(h1, .inl (cA1, n1, .inl f1)), (h2, .inl (cA2, n2, .inl f2)), (h3, .inl (cA3, n3, .inl f3)), (h4, .inl (cA4, n4, .inl f4)), (h5, .inl (cA5, n5, .inl f5))]) [0, 6] [1, 2, 3, 4, 5] (va_runV (As := [.int (-16 : Int32)]) (rest := []) ⟨hx, hb, hml, hown, ht⟩ (m_M_digit l dC dI hv) ⟨(callB_of 1 ht (zG_in zi_M_digit) rfl rfl rfl (ht _ zw_122) (ht _ zw_1546) zh_M_digit ⟨Nat.le_of_ble_eq_true rfl, Nat.le_of_ble_eq_true rfl⟩), (ht _ zw_1548), (ht _ zw_87)⟩ ⟨zPc_blind, va_recv hK hP (ci := 12) (q0 := 0) rfl rfl, zPc_pre hP hK hD hS hA hE [0, 6] [5] rfl rfl (by decide) rfl⟩ rfl rfl hl.1 rfl (lv_room (Nat.le_of_ble_eq_true rfl)) d_M_findDay_172 ⟨Nat.le_of_ble_eq_true rfl, Nat.le_of_ble_eq_true rfl⟩) hP hD hS hA rfl rfl (by decide) (by decide) (fun r u H locs hv hP hD hS => ?_)
      have hP : va_P (dC, dI) zCl [(h0, .inr (12, o_M I0 J0 a0_2 a0_4 a0_5 h1 h2 h3 h4 a0_10 a0_11 a0_22 h5 h6 a0_31 a0_32 a0_34)), (h1, .inl (cA1, n1, .inl f1)), (h2, .inl (cA2, n2, .inl f2)), (h3, .inl (cA3, n3, .inl f3)), (h4, .inl (cA4, n4, .inl f4)), (h5, .inl (cA5, n5, .inl f5)), (h6, .inl (cA6, n6, .inl f6))] H := hP.sub [5, 0, 1, 2, 3, 4, 6] rfl
      have hD : va_D A [(h0, .inr (12, o_M I0 J0 a0_2 a0_4 a0_5 h1 h2 h3 h4 a0_10 a0_11 a0_22 h5 h6 a0_31 a0_32 a0_34)), (h1, .inl (cA1, n1, .inl f1)), (h2, .inl (cA2, n2, .inl f2)), (h3, .inl (cA3, n3, .inl f3)), (h4, .inl (cA4, n4, .inl f4)), (h5, .inl (cA5, n5, .inl f5)), (h6, .inl (cA6, n6, .inl f6))] := hD.sub [5, 0, 1, 2, 3, 4, 6] (by decide) rfl
      exact b_M_findDay_175 hc hA hE  (lv_sub hl [0, 1] rfl) hK hP hD hS hv
    · have hv := hv.2 c_1
      refine lv_ldc2 (v := (10 : Int64)) hx hb hown (ht _ zw_1400) d_M_findDay_148 ?_
      refine lv_lload_n hx hb d_M_findDay_151 rfl (lv_at hl 1 rfl) ?_
      refine lv_lmul hx hb d_M_findDay_152 ?_
      refine lv_aload_n hx hb d_M_findDay_153 rfl (lv_at hl 0 rfl) ?_
      refine lv_iload hx hb d_M_findDay_154 (lv_at hl 2 rfl) ?_
      refine lv_ineg hx hb d_M_findDay_156 ?_
      refine z_calli (wc := [(h0, .inr (12, o_M I0 J0 a0_2 a0_4 a0_5 h1 h2 h3 h4 a0_10 a0_11 a0_22 h5 h6 a0_31 a0_32 a0_34)), (h6, .inl (cA6, n6, .inl f6))]) (wr := [(h1, .inl (cA1, n1, .inl f1)), (h2, .inl (cA2, n2, .inl f2)), (h3, .inl (cA3, n3, .inl f3)), (h4, .inl (cA4, n4, .inl f4)), (h5, .inl (cA5, n5, .inl f5))]) [0, 6] [1, 2, 3, 4, 5] (va_runV (As := [.int (-x4)]) (rest := [.long ((10 : Int64) * x2)]) ⟨hx, hb, hml, hown, ht⟩ (m_M_digit l dC dI hv) ⟨(callB_of 1 ht (zG_in zi_M_digit) rfl rfl rfl (ht _ zw_122) (ht _ zw_1546) zh_M_digit ⟨Nat.le_of_ble_eq_true rfl, Nat.le_of_ble_eq_true rfl⟩), (ht _ zw_1548), (ht _ zw_87)⟩ ⟨zPc_blind, va_recv hK hP (ci := 12) (q0 := 0) rfl rfl, zPc_pre hP hK hD hS hA hE [0, 6] [5] rfl rfl (by decide) rfl⟩ rfl rfl hl.1 rfl (lv_room (Nat.le_of_ble_eq_true rfl)) d_M_findDay_157 ⟨Nat.le_of_ble_eq_true rfl, Nat.le_of_ble_eq_true rfl⟩) hP hD hS hA rfl rfl (by decide) (by decide) (fun r u H locs hv hP hD hS => ?_)
      have hP : va_P (dC, dI) zCl [(h0, .inr (12, o_M I0 J0 a0_2 a0_4 a0_5 h1 h2 h3 h4 a0_10 a0_11 a0_22 h5 h6 a0_31 a0_32 a0_34)), (h1, .inl (cA1, n1, .inl f1)), (h2, .inl (cA2, n2, .inl f2)), (h3, .inl (cA3, n3, .inl f3)), (h4, .inl (cA4, n4, .inl f4)), (h5, .inl (cA5, n5, .inl f5)), (h6, .inl (cA6, n6, .inl f6))] H := hP.sub [5, 0, 1, 2, 3, 4, 6] rfl
      have hD : va_D A [(h0, .inr (12, o_M I0 J0 a0_2 a0_4 a0_5 h1 h2 h3 h4 a0_10 a0_11 a0_22 h5 h6 a0_31 a0_32 a0_34)), (h1, .inl (cA1, n1, .inl f1)), (h2, .inl (cA2, n2, .inl f2)), (h3, .inl (cA3, n3, .inl f3)), (h4, .inl (cA4, n4, .inl f4)), (h5, .inl (cA5, n5, .inl f5)), (h6, .inl (cA6, n6, .inl f6))] := hD.sub [5, 0, 1, 2, 3, 4, 6] (by decide) rfl
      exact b_M_findDay_160 hc hA hE hk141 (lv_sub hl [0, 2] rfl) hK hP hD hS hv
set_option maxHeartbeats 4000000 in
set_option maxRecDepth 100000 in
theorem b_M_findDay_109 {h0 : Nat} {a0_2 : Nat} {a0_4 : Nat} {a0_5 : Nat} {a0_10 : Nat} {a0_11 : Nat} {a0_22 : Nat} {a0_31 : Nat} {a0_32 : Nat} {a0_34 : Nat} {h1 : Nat} {cA1 : ClassId} {h2 : Nat} {cA2 : ClassId} {h3 : Nat} {cA3 : ClassId} {h4 : Nat} {cA4 : ClassId} {h5 : Nat} {cA5 : ClassId} {h6 : Nat} {cA6 : ClassId} {J0 : Nat → Int64} {n1 : Nat} {f1 : Nat → Int32} {n2 : Nat} {f2 : Nat → Int32} {n3 : Nat} {f3 : Nat → Int32} {n4 : Nat} {f4 : Nat → Int32} {n5 : Nat} {f5 : Nat → Int32} {n6 : Nat} {f6 : Nat → Int32}  {Z : Int32 → (Nat → Int32) × (Nat → Int64) × (Nat → Int32) → Prop} (hc : zC p s m args meth c prog_14_method_57_code (some .boolean) 11 "NumberDressModel") (hA : ∀ q : Nat, s.heap.size ≤ q → A q) (hE : zE gE A s) : ∀ (N : Nat) (I0 : Nat → Int32) (x2 : Int32) (H : Heap) (locs : List Loc) (ls : Array Slot), lv_has ls 11 [(0, .ref h0), (2, .int x2)] → va_K (dC, dI) zCl [(cA1, .int), (cA2, .int), (cA3, .int), (cA4, .int), (cA5, .int), (cA6, .int)] s → va_P (dC, dI) zCl [(h0, .inr (12, o_M I0 J0 a0_2 a0_4 a0_5 h1 h2 h3 h4 a0_10 a0_11 a0_22 h5 h6 a0_31 a0_32 a0_34)), (h1, .inl (cA1, n1, .inl f1)), (h2, .inl (cA2, n2, .inl f2)), (h3, .inl (cA3, n3, .inl f3)), (h4, .inl (cA4, n4, .inl f4)), (h5, .inl (cA5, n5, .inl f5)), (h6, .inl (cA6, n6, .inl f6))] H → va_D A [(h0, .inr (12, o_M I0 J0 a0_2 a0_4 a0_5 h1 h2 h3 h4 a0_10 a0_11 a0_22 h5 h6 a0_31 a0_32 a0_34)), (h1, .inl (cA1, n1, .inl f1)), (h2, .inl (cA2, n2, .inl f2)), (h3, .inl (cA3, n3, .inl f3)), (h4, .inl (cA4, n4, .inl f4)), (h5, .inl (cA5, n5, .inl f5)), (h6, .inl (cA6, n6, .inl f6))] → va_S A s.heap H locs → v_M_findDay_109 J0 n1 f1 n2 f2 n3 f3 n4 f4 n5 f5 n6 f6  Z N I0 x2 → W p l e (headSpec (Cond.code (⟨"NumberDressModel", "findDay", "(I)Z"⟩ : MethodName) prog_14_method_57_code 11 (some .boolean) :: zT) { frames := 1, cells := 0, slots := 0, locals := 22 }).room s m args below meth c H locs 0 0 (MQ below (va_Qi Z (zB (dC, dI) zCl [(cA1, .int), (cA2, .int), (cA3, .int), (cA4, .int), (cA5, .int), (cA6, .int)] A (fun u : (Nat → Int32) × (Nat → Int64) × (Nat → Int32) => [(h0, .inr (12, o_M u.1 u.2.1 a0_2 a0_4 a0_5 h1 h2 h3 h4 a0_10 a0_11 a0_22 h5 h6 a0_31 a0_32 a0_34)), (h1, .inl (cA1, n1, .inl f1)), (h2, .inl (cA2, n2, .inl f2)), (h3, .inl (cA3, n3, .inl f3)), (h4, .inl (cA4, n4, .inl f4)), (h5, .inl (cA5, n5, .inl f5)), (h6, .inl (cA6, n6, .inl u.2.2))])) A) args s 0 0 A) (F0 m 109 ls []) := by
  obtain ⟨hx, hb, hr, hml, hown, ht, hlocks⟩ := id hc
  intro N
  induction N with
  | zero => intro I0 x2 H locs ls hl hK hP hD hS hv; exact hv.elim
  | succ N hk109 =>
    intro I0 x2 H locs ls hl hK hP hD hS hv
    unfold v_M_findDay_109 at hv
    refine lv_iload_n hx hb d_M_findDay_109 rfl (lv_at hl 1 rfl) ?_
    refine lv_if_lt (tgt := 136) hx hb d_M_findDay_110 (by decide) (fun c_1 => ?_) (fun c_1 => ?_)
    · have hv := hv.1 c_1
      refine lv_lconst (v := (0 : Int64)) hx hb d_M_findDay_136 (by decide) ?_
      refine lv_lstore_n (lv' := [(2, .long (0 : Int64)), (0, .ref h0)]) hx hb d_M_findDay_137 rfl hl (by decide) rfl (fun ls hl => ?_)
      refine lv_iconst (v := (1 : Int32)) hx hb d_M_findDay_138 (by decide) ?_
      refine lv_istore (lv' := [(4, .int (1 : Int32)), (2, .long (0 : Int64)), (0, .ref h0)]) hx hb d_M_findDay_139 hl (by decide) rfl (fun ls hl => ?_)
      obtain ⟨Nx, hv⟩ := hv
      exact b_M_findDay_141 hc hA hE  Nx (0 : Int64) (1 : Int32) _ _ _ (lv_sub hl [2, 1, 0] rfl) hK hP hD hS hv
    · have hv := hv.2 c_1
      refine lv_aload_n hx hb d_M_findDay_113 rfl (lv_at hl 0 rfl) ?_
      refine lv_bipush (v := (10 : Int32)) hx hb d_M_findDay_114 (by decide) ?_
      refine lv_aload_n hx hb d_M_findDay_116 rfl (lv_at hl 0 rfl) ?_
      refine va_get (D := (dC, dI)) (ci := 12) (v := .int (I0 35)) (C := "NumberDressModel") (T := T_M) (N := 41) hx hb ht zin_M hown hK hP 0 rfl rfl 35 (by decide) (ht _ zw_1296) (fun _ h9 => h9) rfl d_M_findDay_117 ?_
      refine lv_imul hx hb d_M_findDay_120 ?_
      refine lv_aload_n hx hb d_M_findDay_121 rfl (lv_at hl 0 rfl) ?_
      refine lv_iload_n hx hb d_M_findDay_122 rfl (lv_at hl 1 rfl) ?_
      refine z_calli (wc := [(h0, .inr (12, o_M I0 J0 a0_2 a0_4 a0_5 h1 h2 h3 h4 a0_10 a0_11 a0_22 h5 h6 a0_31 a0_32 a0_34)), (h6, .inl (cA6, n6, .inl f6))]) (wr := [(h1, .inl (cA1, n1, .inl f1)), (h2, .inl (cA2, n2, .inl f2)), (h3, .inl (cA3, n3, .inl f3)), (h4, .inl (cA4, n4, .inl f4)), (h5, .inl (cA5, n5, .inl f5))]) [0, 6] [1, 2, 3, 4, 5] (va_runV (As := [.int x2]) (rest := [.int ((10 : Int32) * (I0 35)), .ref h0]) ⟨hx, hb, hml, hown, ht⟩ (m_M_digit l dC dI hv) ⟨(callB_of 1 ht (zG_in zi_M_digit) rfl rfl rfl (ht _ zw_122) (ht _ zw_1546) zh_M_digit ⟨Nat.le_of_ble_eq_true rfl, Nat.le_of_ble_eq_true rfl⟩), (ht _ zw_1548), (ht _ zw_87)⟩ ⟨zPc_blind, va_recv hK hP (ci := 12) (q0 := 0) rfl rfl, zPc_pre hP hK hD hS hA hE [0, 6] [5] rfl rfl (by decide) rfl⟩ rfl rfl hl.1 rfl (lv_room (Nat.le_of_ble_eq_true rfl)) d_M_findDay_123 ⟨Nat.le_of_ble_eq_true rfl, Nat.le_of_ble_eq_true rfl⟩) hP hD hS hA rfl rfl (by decide) (by decide) (fun r u H locs hv hP hD hS => ?_)
      have hP : va_P (dC, dI) zCl [(h0, .inr (12, o_M I0 J0 a0_2 a0_4 a0_5 h1 h2 h3 h4 a0_10 a0_11 a0_22 h5 h6 a0_31 a0_32 a0_34)), (h1, .inl (cA1, n1, .inl f1)), (h2, .inl (cA2, n2, .inl f2)), (h3, .inl (cA3, n3, .inl f3)), (h4, .inl (cA4, n4, .inl f4)), (h5, .inl (cA5, n5, .inl f5)), (h6, .inl (cA6, n6, .inl f6))] H := hP.sub [5, 0, 1, 2, 3, 4, 6] rfl
      have hD : va_D A [(h0, .inr (12, o_M I0 J0 a0_2 a0_4 a0_5 h1 h2 h3 h4 a0_10 a0_11 a0_22 h5 h6 a0_31 a0_32 a0_34)), (h1, .inl (cA1, n1, .inl f1)), (h2, .inl (cA2, n2, .inl f2)), (h3, .inl (cA3, n3, .inl f3)), (h4, .inl (cA4, n4, .inl f4)), (h5, .inl (cA5, n5, .inl f5)), (h6, .inl (cA6, n6, .inl f6))] := hD.sub [5, 0, 1, 2, 3, 4, 6] (by decide) rfl
      exact b_M_findDay_126 hc hA hE hk109 (lv_sub hl [0, 1] rfl) hK hP hD hS hv
set_option maxHeartbeats 4000000 in
set_option maxRecDepth 100000 in
theorem b_M_findDay_97 {h0 : Nat} {a0_2 : Nat} {a0_4 : Nat} {a0_5 : Nat} {a0_10 : Nat} {a0_11 : Nat} {a0_22 : Nat} {a0_31 : Nat} {a0_32 : Nat} {a0_34 : Nat} {h1 : Nat} {cA1 : ClassId} {h2 : Nat} {cA2 : ClassId} {h3 : Nat} {cA3 : ClassId} {h4 : Nat} {cA4 : ClassId} {h5 : Nat} {cA5 : ClassId} {h6 : Nat} {cA6 : ClassId} {I0 : Nat → Int32} {J0 : Nat → Int64} {n1 : Nat} {f1 : Nat → Int32} {n2 : Nat} {f2 : Nat → Int32} {n3 : Nat} {f3 : Nat → Int32} {n4 : Nat} {f4 : Nat → Int32} {n5 : Nat} {f5 : Nat → Int32} {n6 : Nat} {f6 : Nat → Int32}  {Z : Int32 → (Nat → Int32) × (Nat → Int64) × (Nat → Int32) → Prop} {H : Heap} {locs : List Loc} {ls : Array Slot} (hc : zC p s m args meth c prog_14_method_57_code (some .boolean) 11 "NumberDressModel") (hA : ∀ q : Nat, s.heap.size ≤ q → A q) (hE : zE gE A s) (hl : lv_has ls 11 [(0, .ref h0)]) (hK : va_K (dC, dI) zCl [(cA1, .int), (cA2, .int), (cA3, .int), (cA4, .int), (cA5, .int), (cA6, .int)] s) (hP : va_P (dC, dI) zCl [(h0, .inr (12, o_M I0 J0 a0_2 a0_4 a0_5 h1 h2 h3 h4 a0_10 a0_11 a0_22 h5 h6 a0_31 a0_32 a0_34)), (h1, .inl (cA1, n1, .inl f1)), (h2, .inl (cA2, n2, .inl f2)), (h3, .inl (cA3, n3, .inl f3)), (h4, .inl (cA4, n4, .inl f4)), (h5, .inl (cA5, n5, .inl f5)), (h6, .inl (cA6, n6, .inl f6))] H) (hD : va_D A [(h0, .inr (12, o_M I0 J0 a0_2 a0_4 a0_5 h1 h2 h3 h4 a0_10 a0_11 a0_22 h5 h6 a0_31 a0_32 a0_34)), (h1, .inl (cA1, n1, .inl f1)), (h2, .inl (cA2, n2, .inl f2)), (h3, .inl (cA3, n3, .inl f3)), (h4, .inl (cA4, n4, .inl f4)), (h5, .inl (cA5, n5, .inl f5)), (h6, .inl (cA6, n6, .inl f6))]) (hS : va_S A s.heap H locs) (hv : v_M_findDay_97 I0 J0 n1 f1 n2 f2 n3 f3 n4 f4 n5 f5 n6 f6  Z) : W p l e (headSpec (Cond.code (⟨"NumberDressModel", "findDay", "(I)Z"⟩ : MethodName) prog_14_method_57_code 11 (some .boolean) :: zT) { frames := 1, cells := 0, slots := 0, locals := 22 }).room s m args below meth c H locs 0 0 (MQ below (va_Qi Z (zB (dC, dI) zCl [(cA1, .int), (cA2, .int), (cA3, .int), (cA4, .int), (cA5, .int), (cA6, .int)] A (fun u : (Nat → Int32) × (Nat → Int64) × (Nat → Int32) => [(h0, .inr (12, o_M u.1 u.2.1 a0_2 a0_4 a0_5 h1 h2 h3 h4 a0_10 a0_11 a0_22 h5 h6 a0_31 a0_32 a0_34)), (h1, .inl (cA1, n1, .inl f1)), (h2, .inl (cA2, n2, .inl f2)), (h3, .inl (cA3, n3, .inl f3)), (h4, .inl (cA4, n4, .inl f4)), (h5, .inl (cA5, n5, .inl f5)), (h6, .inl (cA6, n6, .inl u.2.2))])) A) args s 0 0 A) (F0 m 97 ls []) := by
  obtain ⟨hx, hb, hr, hml, hown, ht, hlocks⟩ := id hc
  unfold v_M_findDay_97 at hv
  refine lv_aload_n hx hb d_M_findDay_97 rfl (lv_at hl 0 rfl) ?_
  refine lv_iconst (v := (0 : Int32)) hx hb d_M_findDay_98 (by decide) ?_
  refine va_put (D := (dC, dI)) (ci := 12) (v := .int (0 : Int32)) (ty := .int) (C := "NumberDressModel") (T := T_M) (N := 41) hx hb ht zin_M ty_M tyok_M nm_M hown hK hP hD hS 0 rfl rfl 35 (by decide) (ht _ zw_1296) (fun _ h9 => h9) rfl (by decide +kernel) rfl rfl (Nat.le_of_ble_eq_true rfl) d_M_findDay_99 (fun H locs hP hD hS => ?_)
  have hP : va_P (dC, dI) zCl [(h0, .inr (12, o_M (zu I0 35 (0 : Int32)) J0 a0_2 a0_4 a0_5 h1 h2 h3 h4 a0_10 a0_11 a0_22 h5 h6 a0_31 a0_32 a0_34)), (h1, .inl (cA1, n1, .inl f1)), (h2, .inl (cA2, n2, .inl f2)), (h3, .inl (cA3, n3, .inl f3)), (h4, .inl (cA4, n4, .inl f4)), (h5, .inl (cA5, n5, .inl f5)), (h6, .inl (cA6, n6, .inl f6))] H := hP
  have hD : va_D A [(h0, .inr (12, o_M (zu I0 35 (0 : Int32)) J0 a0_2 a0_4 a0_5 h1 h2 h3 h4 a0_10 a0_11 a0_22 h5 h6 a0_31 a0_32 a0_34)), (h1, .inl (cA1, n1, .inl f1)), (h2, .inl (cA2, n2, .inl f2)), (h3, .inl (cA3, n3, .inl f3)), (h4, .inl (cA4, n4, .inl f4)), (h5, .inl (cA5, n5, .inl f5)), (h6, .inl (cA6, n6, .inl f6))] := hD
  refine lv_aload_n hx hb d_M_findDay_102 rfl (lv_at hl 0 rfl) ?_
  refine va_get (D := (dC, dI)) (ci := 12) (v := .int (I0 28)) (C := "NumberDressModel") (T := T_M) (N := 41) hx hb ht zin_M hown hK hP 0 rfl rfl 28 (by decide) (ht _ zw_1289) (fun _ h9 => h9) rfl d_M_findDay_103 ?_
  refine lv_iconst (v := (1 : Int32)) hx hb d_M_findDay_106 (by decide) ?_
  refine lv_isub hx hb d_M_findDay_107 ?_
  refine lv_istore_n (lv' := [(2, .int ((I0 28) - (1 : Int32))), (0, .ref h0)]) hx hb d_M_findDay_108 rfl hl (by decide) rfl (fun ls hl => ?_)
  obtain ⟨Nx, hv⟩ := hv
  exact b_M_findDay_109 hc hA hE  Nx (zu I0 35 (0 : Int32)) ((I0 28) - (1 : Int32)) _ _ _ (lv_sub hl [1, 0] rfl) hK hP hD hS hv
set_option maxHeartbeats 4000000 in
set_option maxRecDepth 100000 in
theorem b_M_findDay_81 {h0 : Nat} {a0_2 : Nat} {a0_4 : Nat} {a0_5 : Nat} {a0_10 : Nat} {a0_11 : Nat} {a0_22 : Nat} {a0_31 : Nat} {a0_32 : Nat} {a0_34 : Nat} {h1 : Nat} {cA1 : ClassId} {h2 : Nat} {cA2 : ClassId} {h3 : Nat} {cA3 : ClassId} {h4 : Nat} {cA4 : ClassId} {h5 : Nat} {cA5 : ClassId} {h6 : Nat} {cA6 : ClassId} {I0 : Nat → Int32} {J0 : Nat → Int64} {n1 : Nat} {f1 : Nat → Int32} {n2 : Nat} {f2 : Nat → Int32} {n3 : Nat} {f3 : Nat → Int32} {n4 : Nat} {f4 : Nat → Int32} {n5 : Nat} {f5 : Nat → Int32} {n6 : Nat} {f6 : Nat → Int32}  {Z : Int32 → (Nat → Int32) × (Nat → Int64) × (Nat → Int32) → Prop} {H : Heap} {locs : List Loc} {ls : Array Slot} (hc : zC p s m args meth c prog_14_method_57_code (some .boolean) 11 "NumberDressModel") (hA : ∀ q : Nat, s.heap.size ≤ q → A q) (hE : zE gE A s) (hl : lv_has ls 11 [(0, .ref h0)]) (hK : va_K (dC, dI) zCl [(cA1, .int), (cA2, .int), (cA3, .int), (cA4, .int), (cA5, .int), (cA6, .int)] s) (hP : va_P (dC, dI) zCl [(h0, .inr (12, o_M I0 J0 a0_2 a0_4 a0_5 h1 h2 h3 h4 a0_10 a0_11 a0_22 h5 h6 a0_31 a0_32 a0_34)), (h1, .inl (cA1, n1, .inl f1)), (h2, .inl (cA2, n2, .inl f2)), (h3, .inl (cA3, n3, .inl f3)), (h4, .inl (cA4, n4, .inl f4)), (h5, .inl (cA5, n5, .inl f5)), (h6, .inl (cA6, n6, .inl f6))] H) (hD : va_D A [(h0, .inr (12, o_M I0 J0 a0_2 a0_4 a0_5 h1 h2 h3 h4 a0_10 a0_11 a0_22 h5 h6 a0_31 a0_32 a0_34)), (h1, .inl (cA1, n1, .inl f1)), (h2, .inl (cA2, n2, .inl f2)), (h3, .inl (cA3, n3, .inl f3)), (h4, .inl (cA4, n4, .inl f4)), (h5, .inl (cA5, n5, .inl f5)), (h6, .inl (cA6, n6, .inl f6))]) (hS : va_S A s.heap H locs) (hv : v_M_findDay_81 I0 J0 n1 f1 n2 f2 n3 f3 n4 f4 n5 f5 n6 f6  Z) : W p l e (headSpec (Cond.code (⟨"NumberDressModel", "findDay", "(I)Z"⟩ : MethodName) prog_14_method_57_code 11 (some .boolean) :: zT) { frames := 1, cells := 0, slots := 0, locals := 22 }).room s m args below meth c H locs 0 0 (MQ below (va_Qi Z (zB (dC, dI) zCl [(cA1, .int), (cA2, .int), (cA3, .int), (cA4, .int), (cA5, .int), (cA6, .int)] A (fun u : (Nat → Int32) × (Nat → Int64) × (Nat → Int32) => [(h0, .inr (12, o_M u.1 u.2.1 a0_2 a0_4 a0_5 h1 h2 h3 h4 a0_10 a0_11 a0_22 h5 h6 a0_31 a0_32 a0_34)), (h1, .inl (cA1, n1, .inl f1)), (h2, .inl (cA2, n2, .inl f2)), (h3, .inl (cA3, n3, .inl f3)), (h4, .inl (cA4, n4, .inl f4)), (h5, .inl (cA5, n5, .inl f5)), (h6, .inl (cA6, n6, .inl u.2.2))])) A) args s 0 0 A) (F0 m 81 ls []) := by
  obtain ⟨hx, hb, hr, hml, hown, ht, hlocks⟩ := id hc
  unfold v_M_findDay_81 at hv
  refine lv_aload_n hx hb d_M_findDay_81 rfl (lv_at hl 0 rfl) ?_
  refine va_get (D := (dC, dI)) (ci := 12) (v := .int (I0 25)) (C := "NumberDressModel") (T := T_M) (N := 41) hx hb ht zin_M hown hK hP 0 rfl rfl 25 (by decide) (ht _ zw_1286) (fun _ h9 => h9) rfl d_M_findDay_82 ?_
  refine lv_bipush (v := (7 : Int32)) hx hb d_M_findDay_85 (by decide) ?_
  refine lv_icmp_le (tgt := 92) hx hb d_M_findDay_87 (by decide) (fun c_1 => ?_) (fun c_1 => ?_)
  · have hv := hv.1 c_1
    refine lv_aload_n hx hb d_M_findDay_92 rfl (lv_at hl 0 rfl) ?_
    refine lv_iconst (v := (0 : Int32)) hx hb d_M_findDay_93 (by decide) ?_
    refine z_callv (wc := [(h0, .inr (12, o_M I0 J0 a0_2 a0_4 a0_5 h1 h2 h3 h4 a0_10 a0_11 a0_22 h5 h6 a0_31 a0_32 a0_34)), (h5, .inl (cA5, n5, .inl f5)), (h6, .inl (cA6, n6, .inl f6))]) (wr := [(h1, .inl (cA1, n1, .inl f1)), (h2, .inl (cA2, n2, .inl f2)), (h3, .inl (cA3, n3, .inl f3)), (h4, .inl (cA4, n4, .inl f4))]) [0, 5, 6] [1, 2, 3, 4] (va_runV (As := [.int (0 : Int32)]) (rest := []) ⟨hx, hb, hml, hown, ht⟩ (m_M_take l dC dI hv) ⟨(callB_of 1 ht (zG_in zi_M_take) rfl rfl rfl (ht _ zw_122) (ht _ zw_1537) zh_M_take ⟨Nat.le_of_ble_eq_true rfl, Nat.le_of_ble_eq_true rfl⟩), (ht _ zw_1539), (ht _ zw_85)⟩ ⟨zPc_blind, va_recv hK hP (ci := 12) (q0 := 0) rfl rfl, zPc_pre hP hK hD hS hA hE [0, 5, 6] [4, 5] rfl rfl (by decide) rfl⟩ rfl rfl hl.1 rfl (lv_room (Nat.le_of_ble_eq_true rfl)) d_M_findDay_94 ⟨Nat.le_of_ble_eq_true rfl, Nat.le_of_ble_eq_true rfl⟩) hP hD hS hA rfl rfl (by decide) (by decide) (fun u H locs hv hP hD hS => ?_)
    have hP : va_P (dC, dI) zCl [(h0, .inr (12, o_M u.1 J0 a0_2 a0_4 a0_5 h1 h2 h3 h4 a0_10 a0_11 a0_22 h5 h6 a0_31 a0_32 a0_34)), (h1, .inl (cA1, n1, .inl f1)), (h2, .inl (cA2, n2, .inl f2)), (h3, .inl (cA3, n3, .inl f3)), (h4, .inl (cA4, n4, .inl f4)), (h5, .inl (cA5, n5, .inl f5)), (h6, .inl (cA6, n6, .inl u.2))] H := hP.sub [4, 0, 1, 2, 3, 5, 6] rfl
    have hD : va_D A [(h0, .inr (12, o_M u.1 J0 a0_2 a0_4 a0_5 h1 h2 h3 h4 a0_10 a0_11 a0_22 h5 h6 a0_31 a0_32 a0_34)), (h1, .inl (cA1, n1, .inl f1)), (h2, .inl (cA2, n2, .inl f2)), (h3, .inl (cA3, n3, .inl f3)), (h4, .inl (cA4, n4, .inl f4)), (h5, .inl (cA5, n5, .inl f5)), (h6, .inl (cA6, n6, .inl u.2))] := hD.sub [4, 0, 1, 2, 3, 5, 6] (by decide) rfl
    exact b_M_findDay_97 hc hA hE  (lv_sub hl [0] rfl) hK hP hD hS hv
  · have hv := hv.2 c_1
    refine lv_iconst (v := (0 : Int32)) hx hb d_M_findDay_90 (by decide) ?_
    exact W.zret (v := (0 : Int32)) hx hb hr (by decide) (fun t ht hW => ⟨⟨_, (I0, J0, f6), rfl, hv, ⟨by rw [ht]; exact hP, va_K.moved hW.alike hK, hD⟩⟩, hS.F ht⟩) hS.2.2 d_M_findDay_91
set_option maxHeartbeats 4000000 in
set_option maxRecDepth 100000 in
theorem b_M_findDay_12 {h0 : Nat} {a0_2 : Nat} {a0_4 : Nat} {a0_5 : Nat} {a0_10 : Nat} {a0_11 : Nat} {a0_22 : Nat} {a0_31 : Nat} {a0_32 : Nat} {a0_34 : Nat} {h1 : Nat} {cA1 : ClassId} {h2 : Nat} {cA2 : ClassId} {h3 : Nat} {cA3 : ClassId} {h4 : Nat} {cA4 : ClassId} {h5 : Nat} {cA5 : ClassId} {h6 : Nat} {cA6 : ClassId} {J0 : Nat → Int64} {n1 : Nat} {f1 : Nat → Int32} {n2 : Nat} {f2 : Nat → Int32} {n3 : Nat} {f3 : Nat → Int32} {n4 : Nat} {f4 : Nat → Int32} {n5 : Nat} {f5 : Nat → Int32} {n6 : Nat} {f6 : Nat → Int32} {x1 : Int32}  {Z : Int32 → (Nat → Int32) × (Nat → Int64) × (Nat → Int32) → Prop} (hc : zC p s m args meth c prog_14_method_57_code (some .boolean) 11 "NumberDressModel") (hA : ∀ q : Nat, s.heap.size ≤ q → A q) (hE : zE gE A s) : ∀ (N : Nat) (I0 : Nat → Int32) (x2 : Int32) (H : Heap) (locs : List Loc) (ls : Array Slot), lv_has ls 11 [(0, .ref h0), (1, .int x1), (2, .int x2)] → va_K (dC, dI) zCl [(cA1, .int), (cA2, .int), (cA3, .int), (cA4, .int), (cA5, .int), (cA6, .int)] s → va_P (dC, dI) zCl [(h0, .inr (12, o_M I0 J0 a0_2 a0_4 a0_5 h1 h2 h3 h4 a0_10 a0_11 a0_22 h5 h6 a0_31 a0_32 a0_34)), (h1, .inl (cA1, n1, .inl f1)), (h2, .inl (cA2, n2, .inl f2)), (h3, .inl (cA3, n3, .inl f3)), (h4, .inl (cA4, n4, .inl f4)), (h5, .inl (cA5, n5, .inl f5)), (h6, .inl (cA6, n6, .inl f6))] H → va_D A [(h0, .inr (12, o_M I0 J0 a0_2 a0_4 a0_5 h1 h2 h3 h4 a0_10 a0_11 a0_22 h5 h6 a0_31 a0_32 a0_34)), (h1, .inl (cA1, n1, .inl f1)), (h2, .inl (cA2, n2, .inl f2)), (h3, .inl (cA3, n3, .inl f3)), (h4, .inl (cA4, n4, .inl f4)), (h5, .inl (cA5, n5, .inl f5)), (h6, .inl (cA6, n6, .inl f6))] → va_S A s.heap H locs → v_M_findDay_12 J0 n1 f1 n2 f2 n3 f3 n4 f4 n5 f5 n6 f6 x1  Z N I0 x2 → W p l e (headSpec (Cond.code (⟨"NumberDressModel", "findDay", "(I)Z"⟩ : MethodName) prog_14_method_57_code 11 (some .boolean) :: zT) { frames := 1, cells := 0, slots := 0, locals := 22 }).room s m args below meth c H locs 0 0 (MQ below (va_Qi Z (zB (dC, dI) zCl [(cA1, .int), (cA2, .int), (cA3, .int), (cA4, .int), (cA5, .int), (cA6, .int)] A (fun u : (Nat → Int32) × (Nat → Int64) × (Nat → Int32) => [(h0, .inr (12, o_M u.1 u.2.1 a0_2 a0_4 a0_5 h1 h2 h3 h4 a0_10 a0_11 a0_22 h5 h6 a0_31 a0_32 a0_34)), (h1, .inl (cA1, n1, .inl f1)), (h2, .inl (cA2, n2, .inl f2)), (h3, .inl (cA3, n3, .inl f3)), (h4, .inl (cA4, n4, .inl f4)), (h5, .inl (cA5, n5, .inl f5)), (h6, .inl (cA6, n6, .inl u.2.2))])) A) args s 0 0 A) (F0 m 12 ls []) := by
  obtain ⟨hx, hb, hr, hml, hown, ht, hlocks⟩ := id hc
  intro N
  induction N with
  | zero => intro I0 x2 H locs ls hl hK hP hD hS hv; exact hv.elim
  | succ N hk12 =>
    intro I0 x2 H locs ls hl hK hP hD hS hv
    unfold v_M_findDay_12 at hv
    refine lv_iload_n hx hb d_M_findDay_12 rfl (lv_at hl 2 rfl) ?_
    refine lv_aload_n hx hb d_M_findDay_13 rfl (lv_at hl 0 rfl) ?_
    refine va_get (D := (dC, dI)) (ci := 12) (v := .ref h2) (C := "NumberDressModel") (T := T_M) (N := 41) hx hb ht zin_M hown hK hP 0 rfl rfl 7 (by decide) (ht _ zw_1268) (fun _ h9 => h9) rfl d_M_findDay_14 ?_
    refine lv_iload_n hx hb d_M_findDay_17 rfl (lv_at hl 1 rfl) ?_
    obtain ⟨q_1, hv⟩ := hv
    refine va_iald hx hb hK hP 2 1 rfl rfl q_1 d_M_findDay_18 ?_
    refine lv_icmp_ge (tgt := 69) hx hb d_M_findDay_19 (by decide) (fun c_2 => ?_) (fun c_2 => ?_)
    · have hv := hv.1 c_2
      refine lv_aload_n hx hb d_M_findDay_69 rfl (lv_at hl 0 rfl) ?_
      refine va_get (D := (dC, dI)) (ci := 12) (v := .int (I0 23)) (C := "NumberDressModel") (T := T_M) (N := 41) hx hb ht zin_M hown hK hP 0 rfl rfl 23 (by decide) (ht _ zw_1284) (fun _ h9 => h9) rfl d_M_findDay_70 ?_
      refine lv_if_eq (tgt := 81) hx hb d_M_findDay_73 (by decide) (fun c_3 => ?_) (fun c_3 => ?_)
      · have hv := hv.1 c_3
        exact b_M_findDay_81 hc hA hE  (lv_sub hl [0] rfl) hK hP hD hS hv
      · have hv := hv.2 c_3
        refine lv_iload_n hx hb d_M_findDay_76 rfl (lv_at hl 1 rfl) ?_
        refine lv_iconst (v := (1 : Int32)) hx hb d_M_findDay_77 (by decide) ?_
        refine lv_icmp_ne (tgt := 90) hx hb d_M_findDay_78 (by decide) (fun c_4 => ?_) (fun c_4 => ?_)
        · have hv := hv.1 c_4
          refine lv_iconst (v := (0 : Int32)) hx hb d_M_findDay_90 (by decide) ?_
          exact W.zret (v := (0 : Int32)) hx hb hr (by decide) (fun t ht hW => ⟨⟨_, (I0, J0, f6), rfl, hv, ⟨by rw [ht]; exact hP, va_K.moved hW.alike hK, hD⟩⟩, hS.F ht⟩) hS.2.2 d_M_findDay_91
        · have hv := hv.2 c_4
          exact b_M_findDay_81 hc hA hE  (lv_sub hl [0] rfl) hK hP hD hS hv
    · have hv := hv.2 c_2
      refine lv_aload_n hx hb d_M_findDay_22 rfl (lv_at hl 0 rfl) ?_
      refine lv_aload_n hx hb d_M_findDay_23 rfl (lv_at hl 0 rfl) ?_
      refine va_get (D := (dC, dI)) (ci := 12) (v := .ref h3) (C := "NumberDressModel") (T := T_M) (N := 41) hx hb ht zin_M hown hK hP 0 rfl rfl 8 (by decide) (ht _ zw_1269) (fun _ h9 => h9) rfl d_M_findDay_24 ?_
      refine lv_iload_n hx hb d_M_findDay_27 rfl (lv_at hl 2 rfl) ?_
      obtain ⟨q_5, hv⟩ := hv
      refine va_iald hx hb hK hP 3 2 rfl rfl q_5 d_M_findDay_28 ?_
      refine lv_bipush (v := (15 : Int32)) hx hb d_M_findDay_29 (by decide) ?_
      refine lv_icmp_ne (tgt := 56) hx hb d_M_findDay_31 (by decide) (fun c_6 => ?_) (fun c_6 => ?_)
      · have hv := hv.1 c_6
        exact b_M_findDay_56 hc hA hE hk12 (lv_sub hl [0, 1, 2] rfl) hK hP hD hS hv
      · have hv := hv.2 c_6
        refine lv_aload_n hx hb d_M_findDay_34 rfl (lv_at hl 0 rfl) ?_
        refine va_get (D := (dC, dI)) (ci := 12) (v := .ref h4) (C := "NumberDressModel") (T := T_M) (N := 41) hx hb ht zin_M hown hK hP 0 rfl rfl 9 (by decide) (ht _ zw_1270) (fun _ h9 => h9) rfl d_M_findDay_35 ?_
        refine lv_iload_n hx hb d_M_findDay_38 rfl (lv_at hl 2 rfl) ?_
        obtain ⟨q_7, hv⟩ := hv
        refine va_iald hx hb hK hP 4 3 rfl rfl q_7 d_M_findDay_39 ?_
        refine lv_aload_n hx hb d_M_findDay_40 rfl (lv_at hl 0 rfl) ?_
        refine va_get (D := (dC, dI)) (ci := 12) (v := .int (I0 37)) (C := "NumberDressModel") (T := T_M) (N := 41) hx hb ht zin_M hown hK hP 0 rfl rfl 37 (by decide) (ht _ zw_1298) (fun _ h9 => h9) rfl d_M_findDay_41 ?_
        refine lv_icmp_le (tgt := 56) hx hb d_M_findDay_44 (by decide) (fun c_8 => ?_) (fun c_8 => ?_)
        · have hv := hv.1 c_8
          exact b_M_findDay_56 hc hA hE hk12 (lv_sub hl [0, 1, 2] rfl) hK hP hD hS hv
        · have hv := hv.2 c_8
          refine lv_aload_n hx hb d_M_findDay_47 rfl (lv_at hl 0 rfl) ?_
          refine va_get (D := (dC, dI)) (ci := 12) (v := .ref h4) (C := "NumberDressModel") (T := T_M) (N := 41) hx hb ht zin_M hown hK hP 0 rfl rfl 9 (by decide) (ht _ zw_1270) (fun _ h9 => h9) rfl d_M_findDay_48 ?_
          refine lv_iload_n hx hb d_M_findDay_51 rfl (lv_at hl 2 rfl) ?_
          obtain ⟨q_9, hv⟩ := hv
          refine va_iald hx hb hK hP 4 3 rfl rfl q_9 d_M_findDay_52 ?_
          refine lv_goto (tgt := 60) hx hb d_M_findDay_53 (by decide) ?_
          exact b_M_findDay_60 hc hA hE hk12 (lv_sub hl [0, 1, 2] rfl) hK hP hD hS hv
set_option maxHeartbeats 4000000 in
set_option maxRecDepth 100000 in
theorem b_M_findDay_0 {h0 : Nat} {a0_2 : Nat} {a0_4 : Nat} {a0_5 : Nat} {a0_10 : Nat} {a0_11 : Nat} {a0_22 : Nat} {a0_31 : Nat} {a0_32 : Nat} {a0_34 : Nat} {h1 : Nat} {cA1 : ClassId} {h2 : Nat} {cA2 : ClassId} {h3 : Nat} {cA3 : ClassId} {h4 : Nat} {cA4 : ClassId} {h5 : Nat} {cA5 : ClassId} {h6 : Nat} {cA6 : ClassId} {I0 : Nat → Int32} {J0 : Nat → Int64} {n1 : Nat} {f1 : Nat → Int32} {n2 : Nat} {f2 : Nat → Int32} {n3 : Nat} {f3 : Nat → Int32} {n4 : Nat} {f4 : Nat → Int32} {n5 : Nat} {f5 : Nat → Int32} {n6 : Nat} {f6 : Nat → Int32} {x1 : Int32}  {Z : Int32 → (Nat → Int32) × (Nat → Int64) × (Nat → Int32) → Prop} {H : Heap} {locs : List Loc} {ls : Array Slot} (hc : zC p s m args meth c prog_14_method_57_code (some .boolean) 11 "NumberDressModel") (hA : ∀ q : Nat, s.heap.size ≤ q → A q) (hE : zE gE A s) (hl : lv_has ls 11 [(0, .ref h0), (1, .int x1)]) (hK : va_K (dC, dI) zCl [(cA1, .int), (cA2, .int), (cA3, .int), (cA4, .int), (cA5, .int), (cA6, .int)] s) (hP : va_P (dC, dI) zCl [(h0, .inr (12, o_M I0 J0 a0_2 a0_4 a0_5 h1 h2 h3 h4 a0_10 a0_11 a0_22 h5 h6 a0_31 a0_32 a0_34)), (h1, .inl (cA1, n1, .inl f1)), (h2, .inl (cA2, n2, .inl f2)), (h3, .inl (cA3, n3, .inl f3)), (h4, .inl (cA4, n4, .inl f4)), (h5, .inl (cA5, n5, .inl f5)), (h6, .inl (cA6, n6, .inl f6))] H) (hD : va_D A [(h0, .inr (12, o_M I0 J0 a0_2 a0_4 a0_5 h1 h2 h3 h4 a0_10 a0_11 a0_22 h5 h6 a0_31 a0_32 a0_34)), (h1, .inl (cA1, n1, .inl f1)), (h2, .inl (cA2, n2, .inl f2)), (h3, .inl (cA3, n3, .inl f3)), (h4, .inl (cA4, n4, .inl f4)), (h5, .inl (cA5, n5, .inl f5)), (h6, .inl (cA6, n6, .inl f6))]) (hS : va_S A s.heap H locs) (hv : v_M_findDay_0 I0 J0 n1 f1 n2 f2 n3 f3 n4 f4 n5 f5 n6 f6 x1  Z) : W p l e (headSpec (Cond.code (⟨"NumberDressModel", "findDay", "(I)Z"⟩ : MethodName) prog_14_method_57_code 11 (some .boolean) :: zT) { frames := 1, cells := 0, slots := 0, locals := 22 }).room s m args below meth c H locs 0 0 (MQ below (va_Qi Z (zB (dC, dI) zCl [(cA1, .int), (cA2, .int), (cA3, .int), (cA4, .int), (cA5, .int), (cA6, .int)] A (fun u : (Nat → Int32) × (Nat → Int64) × (Nat → Int32) => [(h0, .inr (12, o_M u.1 u.2.1 a0_2 a0_4 a0_5 h1 h2 h3 h4 a0_10 a0_11 a0_22 h5 h6 a0_31 a0_32 a0_34)), (h1, .inl (cA1, n1, .inl f1)), (h2, .inl (cA2, n2, .inl f2)), (h3, .inl (cA3, n3, .inl f3)), (h4, .inl (cA4, n4, .inl f4)), (h5, .inl (cA5, n5, .inl f5)), (h6, .inl (cA6, n6, .inl u.2.2))])) A) args s 0 0 A) (F0 m 0 ls []) := by
  obtain ⟨hx, hb, hr, hml, hown, ht, hlocks⟩ := id hc
  unfold v_M_findDay_0 at hv
  refine lv_aload_n hx hb d_M_findDay_0 rfl (lv_at hl 0 rfl) ?_
  refine lv_iconst (v := (0 : Int32)) hx hb d_M_findDay_1 (by decide) ?_
  refine va_put (D := (dC, dI)) (ci := 12) (v := .int (0 : Int32)) (ty := .int) (C := "NumberDressModel") (T := T_M) (N := 41) hx hb ht zin_M ty_M tyok_M nm_M hown hK hP hD hS 0 rfl rfl 37 (by decide) (ht _ zw_1298) (fun _ h9 => h9) rfl (by decide +kernel) rfl rfl (Nat.le_of_ble_eq_true rfl) d_M_findDay_2 (fun H locs hP hD hS => ?_)
  have hP : va_P (dC, dI) zCl [(h0, .inr (12, o_M (zu I0 37 (0 : Int32)) J0 a0_2 a0_4 a0_5 h1 h2 h3 h4 a0_10 a0_11 a0_22 h5 h6 a0_31 a0_32 a0_34)), (h1, .inl (cA1, n1, .inl f1)), (h2, .inl (cA2, n2, .inl f2)), (h3, .inl (cA3, n3, .inl f3)), (h4, .inl (cA4, n4, .inl f4)), (h5, .inl (cA5, n5, .inl f5)), (h6, .inl (cA6, n6, .inl f6))] H := hP
  have hD : va_D A [(h0, .inr (12, o_M (zu I0 37 (0 : Int32)) J0 a0_2 a0_4 a0_5 h1 h2 h3 h4 a0_10 a0_11 a0_22 h5 h6 a0_31 a0_32 a0_34)), (h1, .inl (cA1, n1, .inl f1)), (h2, .inl (cA2, n2, .inl f2)), (h3, .inl (cA3, n3, .inl f3)), (h4, .inl (cA4, n4, .inl f4)), (h5, .inl (cA5, n5, .inl f5)), (h6, .inl (cA6, n6, .inl f6))] := hD
  refine lv_aload_n hx hb d_M_findDay_5 rfl (lv_at hl 0 rfl) ?_
  refine va_get (D := (dC, dI)) (ci := 12) (v := .ref h1) (C := "NumberDressModel") (T := T_M) (N := 41) hx hb ht zin_M hown hK hP 0 rfl rfl 6 (by decide) (ht _ zw_1267) (fun _ h9 => h9) rfl d_M_findDay_6 ?_
  refine lv_iload_n hx hb d_M_findDay_9 rfl (lv_at hl 1 rfl) ?_
  obtain ⟨q_1, hv⟩ := hv
  refine va_iald hx hb hK hP 1 0 rfl rfl q_1 d_M_findDay_10 ?_
  refine lv_istore_n (lv' := [(2, .int (f1 x1.toNatClampNeg)), (0, .ref h0), (1, .int x1)]) hx hb d_M_findDay_11 rfl hl (by decide) rfl (fun ls hl => ?_)
  obtain ⟨Nx, hv⟩ := hv
  exact b_M_findDay_12 hc hA hE  Nx (zu I0 37 (0 : Int32)) (f1 x1.toNatClampNeg) _ _ _ (lv_sub hl [1, 2, 0] rfl) hK hP hD hS hv
theorem zi_M_findDay : Cond.code (⟨"NumberDressModel", "findDay", "(I)Z"⟩ : MethodName) prog_14_method_57_code 11 (some .boolean) ∈ zT := zw_1620
theorem zh_M_findDay : (((⟨"NumberDressModel", "findDay", "(I)Z"⟩ : MethodName)).cls ≠ "java/lang/invoke/MethodHandle" ∧ ((⟨"NumberDressModel", "findDay", "(I)Z"⟩ : MethodName)).cls ≠ "java/lang/invoke/VarHandle" ∧ (parseMethodDescriptor ((⟨"NumberDressModel", "findDay", "(I)Z"⟩ : MethodName)).desc).map (fun d => d.parameters.length) = some 1) := by decide +kernel
set_option maxHeartbeats 4000000 in
set_option maxRecDepth 100000 in
theorem m_M_findDay (l : Launch) (dC : Nat → ClassId) (dI : Nat → Nat → Nat) {gE : zG} {h0 : Nat} {a0_2 : Nat} {a0_4 : Nat} {a0_5 : Nat} {a0_10 : Nat} {a0_11 : Nat} {a0_22 : Nat} {a0_31 : Nat} {a0_32 : Nat} {a0_34 : Nat} {h1 : Nat} {cA1 : ClassId} {h2 : Nat} {cA2 : ClassId} {h3 : Nat} {cA3 : ClassId} {h4 : Nat} {cA4 : ClassId} {h5 : Nat} {cA5 : ClassId} {h6 : Nat} {cA6 : ClassId} {I0 : Nat → Int32} {J0 : Nat → Int64} {n1 : Nat} {f1 : Nat → Int32} {n2 : Nat} {f2 : Nat → Int32} {n3 : Nat} {f3 : Nat → Int32} {n4 : Nat} {f4 : Nat → Int32} {n5 : Nat} {f5 : Nat → Int32} {n6 : Nat} {f6 : Nat → Int32} {x1 : Int32} {sz : Nat} {Z : Int32 → (Nat → Int32) × (Nat → Int64) × (Nat → Int32) → Prop} (hv : v_M_findDay_0 I0 J0 n1 f1 n2 f2 n3 f3 n4 f4 n5 f5 n6 f6 x1 Z) : Met l (⟨"NumberDressModel", "findDay", "(I)Z"⟩ : MethodName) (Cond.code (⟨"NumberDressModel", "findDay", "(I)Z"⟩ : MethodName) prog_14_method_57_code 11 (some .boolean) :: zT) { frames := 1, cells := 0, slots := 0, locals := 22 } (zPc gE (dC, dI) zCl [(cA1, .int), (cA2, .int), (cA3, .int), (cA4, .int), (cA5, .int), (cA6, .int)] [.ref h0, .int x1] sz [(h0, .inr (12, o_M I0 J0 a0_2 a0_4 a0_5 h1 h2 h3 h4 a0_10 a0_11 a0_22 h5 h6 a0_31 a0_32 a0_34)), (h1, .inl (cA1, n1, .inl f1)), (h2, .inl (cA2, n2, .inl f2)), (h3, .inl (cA3, n3, .inl f3)), (h4, .inl (cA4, n4, .inl f4)), (h5, .inl (cA5, n5, .inl f5)), (h6, .inl (cA6, n6, .inl f6))]) (va_Qi Z (zB (dC, dI) zCl [(cA1, .int), (cA2, .int), (cA3, .int), (cA4, .int), (cA5, .int), (cA6, .int)] (va_A [(h0, .inr (12, o_M I0 J0 a0_2 a0_4 a0_5 h1 h2 h3 h4 a0_10 a0_11 a0_22 h5 h6 a0_31 a0_32 a0_34)), (h1, .inl (cA1, n1, .inl f1)), (h2, .inl (cA2, n2, .inl f2)), (h3, .inl (cA3, n3, .inl f3)), (h4, .inl (cA4, n4, .inl f4)), (h5, .inl (cA5, n5, .inl f5)), (h6, .inl (cA6, n6, .inl f6))] sz) (fun u : (Nat → Int32) × (Nat → Int64) × (Nat → Int32) => [(h0, .inr (12, o_M u.1 u.2.1 a0_2 a0_4 a0_5 h1 h2 h3 h4 a0_10 a0_11 a0_22 h5 h6 a0_31 a0_32 a0_34)), (h1, .inl (cA1, n1, .inl f1)), (h2, .inl (cA2, n2, .inl f2)), (h3, .inl (cA3, n3, .inl f3)), (h4, .inl (cA4, n4, .inl f4)), (h5, .inl (cA5, n5, .inl f5)), (h6, .inl (cA6, n6, .inl u.2.2))])) (va_A [(h0, .inr (12, o_M I0 J0 a0_2 a0_4 a0_5 h1 h2 h3 h4 a0_10 a0_11 a0_22 h5 h6 a0_31 a0_32 a0_34)), (h1, .inl (cA1, n1, .inl f1)), (h2, .inl (cA2, n2, .inl f2)), (h3, .inl (cA3, n3, .inl f3)), (h4, .inl (cA4, n4, .inl f4)), (h5, .inl (cA5, n5, .inl f5)), (h6, .inl (cA6, n6, .inl f6))] sz)) 0 0 (va_A [(h0, .inr (12, o_M I0 J0 a0_2 a0_4 a0_5 h1 h2 h3 h4 a0_10 a0_11 a0_22 h5 h6 a0_31 a0_32 a0_34)), (h1, .inl (cA1, n1, .inl f1)), (h2, .inl (cA2, n2, .inl f2)), (h3, .inl (cA3, n3, .inl f3)), (h4, .inl (cA4, n4, .inl f4)), (h5, .inl (cA5, n5, .inl f5)), (h6, .inl (cA6, n6, .inl f6))] sz) := by
  refine Met.ofW (cc := prog_14_method_57_code) (maxL := 11) (ret := (some .boolean)) (by decide +kernel) rfl ?_
  intro p e s m args below meth c s₁ B hml hp
  obtain ⟨rfl, hsz, hP, hK, hD0, hE⟩ := hp
  have hts := atoms_spec (ws := (Cond.code (⟨"NumberDressModel", "findDay", "(I)Z"⟩ : MethodName) prog_14_method_57_code 11 (some .boolean) :: zT)) B.pre
  have hown : s.vm.findClass "NumberDressModel" = some m.cls := findClass_of_methodNamed B.named
  have hc : zC p s m _ meth c prog_14_method_57_code (some .boolean) 11 "NumberDressModel" := ⟨B.exec, B.bytes, B.returns, hml, hown, fun w h => hts w (List.mem_cons_of_mem _ h), B.notSynchronized⟩
  subst hsz
  have hD := hD0.self (sz := s.heap.size)
  generalize hAe : va_A [(h0, .inr (12, o_M I0 J0 a0_2 a0_4 a0_5 h1 h2 h3 h4 a0_10 a0_11 a0_22 h5 h6 a0_31 a0_32 a0_34)), (h1, .inl (cA1, n1, .inl f1)), (h2, .inl (cA2, n2, .inl f2)), (h3, .inl (cA3, n3, .inl f3)), (h4, .inl (cA4, n4, .inl f4)), (h5, .inl (cA5, n5, .inl f5)), (h6, .inl (cA6, n6, .inl f6))] s.heap.size = A at hD hE ⊢
  have hA : ∀ q : Nat, s.heap.size ≤ q → A q := fun q h => by rw [← hAe]; exact Or.inr h
  have hl := lv_entry ([.ref h0, .int x1]) (n := 11) (Nat.le_of_ble_eq_true rfl)
  rw [lg_entry_eq]
  exact b_M_findDay_0 hc hA hE hl hK hP hD va_S.rf hv
theorem d_M_findDate_0 : decode prog_14_method_58_code 0 = .ok (.aload_n 0, 1) := by decide +kernel
theorem d_M_findDate_1 : decode prog_14_method_58_code 1 = .ok (.sipush 1900, 3) := by decide +kernel
theorem d_M_findDate_4 : decode prog_14_method_58_code 4 = .ok (.putfield 313, 3) := by decide +kernel
theorem d_M_findDate_7 : decode prog_14_method_58_code 7 = .ok (.aload_n 0, 1) := by decide +kernel
theorem d_M_findDate_8 : decode prog_14_method_58_code 8 = .ok (.aload_n 0, 1) := by decide +kernel
theorem d_M_findDate_9 : decode prog_14_method_58_code 9 = .ok (.getfield 298, 3) := by decide +kernel
theorem d_M_findDate_12 : decode prog_14_method_58_code 12 = .ok (.bipush 60, 2) := by decide +kernel
theorem d_M_findDate_14 : decode prog_14_method_58_code 14 = .ok (.if_icmp .ne 7, 3) := by decide +kernel
theorem d_M_findDate_17 : decode prog_14_method_58_code 17 = .ok (.iconst 2, 1) := by decide +kernel
theorem d_M_findDate_18 : decode prog_14_method_58_code 18 = .ok (.goto 4, 3) := by decide +kernel
theorem d_M_findDate_21 : decode prog_14_method_58_code 21 = .ok (.iconst 1, 1) := by decide +kernel
theorem d_M_findDate_22 : decode prog_14_method_58_code 22 = .ok (.putfield 316, 3) := by decide +kernel
theorem d_M_findDate_25 : decode prog_14_method_58_code 25 = .ok (.aload_n 0, 1) := by decide +kernel
theorem d_M_findDate_26 : decode prog_14_method_58_code 26 = .ok (.aload_n 0, 1) := by decide +kernel
theorem d_M_findDate_27 : decode prog_14_method_58_code 27 = .ok (.getfield 298, 3) := by decide +kernel
theorem d_M_findDate_30 : decode prog_14_method_58_code 30 = .ok (.bipush 60, 2) := by decide +kernel
theorem d_M_findDate_32 : decode prog_14_method_58_code 32 = .ok (.if_icmp .ne 8, 3) := by decide +kernel
theorem d_M_findDate_35 : decode prog_14_method_58_code 35 = .ok (.bipush 29, 2) := by decide +kernel
theorem d_M_findDate_37 : decode prog_14_method_58_code 37 = .ok (.goto 7, 3) := by decide +kernel
theorem d_M_findDate_40 : decode prog_14_method_58_code 40 = .ok (.aload_n 0, 1) := by decide +kernel
theorem d_M_findDate_41 : decode prog_14_method_58_code 41 = .ok (.getfield 298, 3) := by decide +kernel
theorem d_M_findDate_44 : decode prog_14_method_58_code 44 = .ok (.putfield 319, 3) := by decide +kernel
theorem d_M_findDate_47 : decode prog_14_method_58_code 47 = .ok (.aload_n 0, 1) := by decide +kernel
theorem d_M_findDate_48 : decode prog_14_method_58_code 48 = .ok (.getfield 298, 3) := by decide +kernel
theorem d_M_findDate_51 : decode prog_14_method_58_code 51 = .ok (.bipush 60, 2) := by decide +kernel
theorem d_M_findDate_53 : decode prog_14_method_58_code 53 = .ok (.if_icmp .eq 10, 3) := by decide +kernel
theorem d_M_findDate_56 : decode prog_14_method_58_code 56 = .ok (.aload_n 0, 1) := by decide +kernel
theorem d_M_findDate_57 : decode prog_14_method_58_code 57 = .ok (.getfield 298, 3) := by decide +kernel
theorem d_M_findDate_60 : decode prog_14_method_58_code 60 = .ok (.ifCond .ne 4, 3) := by decide +kernel
theorem d_M_findDate_63 : decode prog_14_method_58_code 63 = .ok (.return_, 1) := by decide +kernel
theorem d_M_findDate_64 : decode prog_14_method_58_code 64 = .ok (.aload_n 0, 1) := by decide +kernel
theorem d_M_findDate_65 : decode prog_14_method_58_code 65 = .ok (.getfield 298, 3) := by decide +kernel
theorem d_M_findDate_68 : decode prog_14_method_58_code 68 = .ok (.bipush 60, 2) := by decide +kernel
theorem d_M_findDate_70 : decode prog_14_method_58_code 70 = .ok (.if_icmp .le 12, 3) := by decide +kernel
theorem d_M_findDate_73 : decode prog_14_method_58_code 73 = .ok (.aload_n 0, 1) := by decide +kernel
theorem d_M_findDate_74 : decode prog_14_method_58_code 74 = .ok (.getfield 298, 3) := by decide +kernel
theorem d_M_findDate_77 : decode prog_14_method_58_code 77 = .ok (.iconst 1, 1) := by decide +kernel
theorem d_M_findDate_78 : decode prog_14_method_58_code 78 = .ok (.isub, 1) := by decide +kernel
theorem d_M_findDate_79 : decode prog_14_method_58_code 79 = .ok (.goto 7, 3) := by decide +kernel
theorem d_M_findDate_82 : decode prog_14_method_58_code 82 = .ok (.aload_n 0, 1) := by decide +kernel
theorem d_M_findDate_83 : decode prog_14_method_58_code 83 = .ok (.getfield 298, 3) := by decide +kernel
theorem d_M_findDate_86 : decode prog_14_method_58_code 86 = .ok (.istore_n 1, 1) := by decide +kernel
theorem d_M_findDate_87 : decode prog_14_method_58_code 87 = .ok (.iload_n 1, 1) := by decide +kernel
theorem d_M_findDate_88 : decode prog_14_method_58_code 88 = .ok (.aload_n 0, 1) := by decide +kernel
theorem d_M_findDate_89 : decode prog_14_method_58_code 89 = .ok (.getfield 313, 3) := by decide +kernel
theorem d_M_findDate_92 : decode prog_14_method_58_code 92 = .ok (.invokestatic 292, 3) := by decide +kernel
theorem d_M_findDate_95 : decode prog_14_method_58_code 95 = .ok (.ifCond .eq 9, 3) := by decide +kernel
theorem d_M_findDate_98 : decode prog_14_method_58_code 98 = .ok (.sipush 366, 3) := by decide +kernel
theorem d_M_findDate_101 : decode prog_14_method_58_code 101 = .ok (.goto 6, 3) := by decide +kernel
theorem d_M_findDate_104 : decode prog_14_method_58_code 104 = .ok (.sipush 365, 3) := by decide +kernel
theorem d_M_findDate_107 : decode prog_14_method_58_code 107 = .ok (.if_icmp .le 38, 3) := by decide +kernel
theorem d_M_findDate_110 : decode prog_14_method_58_code 110 = .ok (.iload_n 1, 1) := by decide +kernel
theorem d_M_findDate_111 : decode prog_14_method_58_code 111 = .ok (.aload_n 0, 1) := by decide +kernel
theorem d_M_findDate_112 : decode prog_14_method_58_code 112 = .ok (.getfield 313, 3) := by decide +kernel
theorem d_M_findDate_115 : decode prog_14_method_58_code 115 = .ok (.invokestatic 292, 3) := by decide +kernel
theorem d_M_findDate_118 : decode prog_14_method_58_code 118 = .ok (.ifCond .eq 9, 3) := by decide +kernel
theorem d_M_findDate_121 : decode prog_14_method_58_code 121 = .ok (.sipush 366, 3) := by decide +kernel
theorem d_M_findDate_124 : decode prog_14_method_58_code 124 = .ok (.goto 6, 3) := by decide +kernel
theorem d_M_findDate_127 : decode prog_14_method_58_code 127 = .ok (.sipush 365, 3) := by decide +kernel
theorem d_M_findDate_130 : decode prog_14_method_58_code 130 = .ok (.isub, 1) := by decide +kernel
theorem d_M_findDate_131 : decode prog_14_method_58_code 131 = .ok (.istore_n 1, 1) := by decide +kernel
theorem d_M_findDate_132 : decode prog_14_method_58_code 132 = .ok (.aload_n 0, 1) := by decide +kernel
theorem d_M_findDate_133 : decode prog_14_method_58_code 133 = .ok (.dup, 1) := by decide +kernel
theorem d_M_findDate_134 : decode prog_14_method_58_code 134 = .ok (.getfield 313, 3) := by decide +kernel
theorem d_M_findDate_137 : decode prog_14_method_58_code 137 = .ok (.iconst 1, 1) := by decide +kernel
theorem d_M_findDate_138 : decode prog_14_method_58_code 138 = .ok (.iadd, 1) := by decide +kernel
theorem d_M_findDate_139 : decode prog_14_method_58_code 139 = .ok (.putfield 313, 3) := by decide +kernel
theorem d_M_findDate_142 : decode prog_14_method_58_code 142 = .ok (.goto (-55), 3) := by decide +kernel
theorem d_M_findDate_145 : decode prog_14_method_58_code 145 = .ok (.iload_n 1, 1) := by decide +kernel
theorem d_M_findDate_146 : decode prog_14_method_58_code 146 = .ok (.aload_n 0, 1) := by decide +kernel
theorem d_M_findDate_147 : decode prog_14_method_58_code 147 = .ok (.getfield 313, 3) := by decide +kernel
theorem d_M_findDate_150 : decode prog_14_method_58_code 150 = .ok (.aload_n 0, 1) := by decide +kernel
theorem d_M_findDate_151 : decode prog_14_method_58_code 151 = .ok (.getfield 316, 3) := by decide +kernel
theorem d_M_findDate_154 : decode prog_14_method_58_code 154 = .ok (.invokestatic 322, 3) := by decide +kernel
theorem d_M_findDate_157 : decode prog_14_method_58_code 157 = .ok (.if_icmp .le 30, 3) := by decide +kernel
theorem d_M_findDate_160 : decode prog_14_method_58_code 160 = .ok (.iload_n 1, 1) := by decide +kernel
theorem d_M_findDate_161 : decode prog_14_method_58_code 161 = .ok (.aload_n 0, 1) := by decide +kernel
theorem d_M_findDate_162 : decode prog_14_method_58_code 162 = .ok (.getfield 313, 3) := by decide +kernel
theorem d_M_findDate_165 : decode prog_14_method_58_code 165 = .ok (.aload_n 0, 1) := by decide +kernel
theorem d_M_findDate_166 : decode prog_14_method_58_code 166 = .ok (.getfield 316, 3) := by decide +kernel
theorem d_M_findDate_169 : decode prog_14_method_58_code 169 = .ok (.invokestatic 322, 3) := by decide +kernel
theorem d_M_findDate_172 : decode prog_14_method_58_code 172 = .ok (.isub, 1) := by decide +kernel
theorem d_M_findDate_173 : decode prog_14_method_58_code 173 = .ok (.istore_n 1, 1) := by decide +kernel
theorem d_M_findDate_174 : decode prog_14_method_58_code 174 = .ok (.aload_n 0, 1) := by decide +kernel
theorem d_M_findDate_175 : decode prog_14_method_58_code 175 = .ok (.dup, 1) := by decide +kernel
theorem d_M_findDate_176 : decode prog_14_method_58_code 176 = .ok (.getfield 316, 3) := by decide +kernel
theorem d_M_findDate_179 : decode prog_14_method_58_code 179 = .ok (.iconst 1, 1) := by decide +kernel
theorem d_M_findDate_180 : decode prog_14_method_58_code 180 = .ok (.iadd, 1) := by decide +kernel
theorem d_M_findDate_181 : decode prog_14_method_58_code 181 = .ok (.putfield 316, 3) := by decide +kernel
theorem d_M_findDate_184 : decode prog_14_method_58_code 184 = .ok (.goto (-39), 3) := by decide +kernel
theorem d_M_findDate_187 : decode prog_14_method_58_code 187 = .ok (.aload_n 0, 1) := by decide +kernel
theorem d_M_findDate_188 : decode prog_14_method_58_code 188 = .ok (.iload_n 1, 1) := by decide +kernel
theorem d_M_findDate_189 : decode prog_14_method_58_code 189 = .ok (.putfield 319, 3) := by decide +kernel
theorem d_M_findDate_192 : decode prog_14_method_58_code 192 = .ok (.return_, 1) := by decide +kernel
set_option maxHeartbeats 4000000 in
set_option maxRecDepth 100000 in
theorem b_M_findDate_130 {h0 : Nat} {a0_2 : Nat} {a0_4 : Nat} {a0_5 : Nat} {a0_6 : Nat} {a0_7 : Nat} {a0_8 : Nat} {a0_9 : Nat} {a0_10 : Nat} {a0_11 : Nat} {a0_22 : Nat} {a0_26 : Nat} {a0_29 : Nat} {a0_31 : Nat} {a0_32 : Nat} {a0_34 : Nat} {I0 : Nat → Int32} {J0 : Nat → Int64} {s0 : Int32} {s1 : Int32} {k87 : (Nat → Int32) → Int32 → Prop} {Z : (Nat → Int32) → Prop} {H : Heap} {locs : List Loc} {ls : Array Slot} (hc : zC p s m args meth c prog_14_method_58_code none 2 "NumberDressModel") (hA : ∀ q : Nat, s.heap.size ≤ q → A q) (hE : zE gE A s) (hk87 : ∀ (I0 : Nat → Int32) (x1 : Int32) (H : Heap) (locs : List Loc) (ls : Array Slot), lv_has ls 2 [(0, .ref h0), (1, .int x1)] → va_K (dC, dI) zCl [] s → va_P (dC, dI) zCl [(h0, .inr (12, o_M I0 J0 a0_2 a0_4 a0_5 a0_6 a0_7 a0_8 a0_9 a0_10 a0_11 a0_22 a0_26 a0_29 a0_31 a0_32 a0_34))] H → va_D A [(h0, .inr (12, o_M I0 J0 a0_2 a0_4 a0_5 a0_6 a0_7 a0_8 a0_9 a0_10 a0_11 a0_22 a0_26 a0_29 a0_31 a0_32 a0_34))] → va_S A s.heap H locs → k87 I0 x1 → W p l e (headSpec (Cond.code (⟨"NumberDressModel", "findDate", "()V"⟩ : MethodName) prog_14_method_58_code 2 none :: zT) { frames := 2, cells := 0, slots := 0, locals := 41 }).room s m args below meth c H locs 0 0 (MQ below (va_Qv Z (zB (dC, dI) zCl [] A (fun u : (Nat → Int32) => [(h0, .inr (12, o_M u J0 a0_2 a0_4 a0_5 a0_6 a0_7 a0_8 a0_9 a0_10 a0_11 a0_22 a0_26 a0_29 a0_31 a0_32 a0_34))])) A) args s 0 0 A) (F0 m 87 ls [])) (hl : lv_has ls 2 [(0, .ref h0)]) (hK : va_K (dC, dI) zCl [] s) (hP : va_P (dC, dI) zCl [(h0, .inr (12, o_M I0 J0 a0_2 a0_4 a0_5 a0_6 a0_7 a0_8 a0_9 a0_10 a0_11 a0_22 a0_26 a0_29 a0_31 a0_32 a0_34))] H) (hD : va_D A [(h0, .inr (12, o_M I0 J0 a0_2 a0_4 a0_5 a0_6 a0_7 a0_8 a0_9 a0_10 a0_11 a0_22 a0_26 a0_29 a0_31 a0_32 a0_34))]) (hS : va_S A s.heap H locs) (hv : v_M_findDate_130 I0 J0 s0 s1 k87 Z) : W p l e (headSpec (Cond.code (⟨"NumberDressModel", "findDate", "()V"⟩ : MethodName) prog_14_method_58_code 2 none :: zT) { frames := 2, cells := 0, slots := 0, locals := 41 }).room s m args below meth c H locs 0 0 (MQ below (va_Qv Z (zB (dC, dI) zCl [] A (fun u : (Nat → Int32) => [(h0, .inr (12, o_M u J0 a0_2 a0_4 a0_5 a0_6 a0_7 a0_8 a0_9 a0_10 a0_11 a0_22 a0_26 a0_29 a0_31 a0_32 a0_34))])) A) args s 0 0 A) (F0 m 130 ls [.int s1, .int s0]) := by
  obtain ⟨hx, hb, hr, hml, hown, ht, hlocks⟩ := id hc
  unfold v_M_findDate_130 at hv
  refine lv_isub hx hb d_M_findDate_130 ?_
  refine lv_istore_n (lv' := [(1, .int (s0 - s1)), (0, .ref h0)]) hx hb d_M_findDate_131 rfl hl (by decide) rfl (fun ls hl => ?_)
  refine lv_aload_n hx hb d_M_findDate_132 rfl (lv_at hl 1 rfl) ?_
  refine lv_dup hx hb d_M_findDate_133 rfl ?_
  refine va_get (D := (dC, dI)) (ci := 12) (v := .int (I0 38)) (C := "NumberDressModel") (T := T_M) (N := 41) hx hb ht zin_M hown hK hP 0 rfl rfl 38 (by decide) (ht _ zw_1299) (fun _ h9 => h9) rfl d_M_findDate_134 ?_
  refine lv_iconst (v := (1 : Int32)) hx hb d_M_findDate_137 (by decide) ?_
  refine lv_iadd hx hb d_M_findDate_138 ?_
  refine va_put (D := (dC, dI)) (ci := 12) (v := .int ((I0 38) + (1 : Int32))) (ty := .int) (C := "NumberDressModel") (T := T_M) (N := 41) hx hb ht zin_M ty_M tyok_M nm_M hown hK hP hD hS 0 rfl rfl 38 (by decide) (ht _ zw_1299) (fun _ h9 => h9) rfl (by decide +kernel) rfl rfl (Nat.le_of_ble_eq_true rfl) d_M_findDate_139 (fun H locs hP hD hS => ?_)
  have hP : va_P (dC, dI) zCl [(h0, .inr (12, o_M (zu I0 38 ((I0 38) + (1 : Int32))) J0 a0_2 a0_4 a0_5 a0_6 a0_7 a0_8 a0_9 a0_10 a0_11 a0_22 a0_26 a0_29 a0_31 a0_32 a0_34))] H := hP
  have hD : va_D A [(h0, .inr (12, o_M (zu I0 38 ((I0 38) + (1 : Int32))) J0 a0_2 a0_4 a0_5 a0_6 a0_7 a0_8 a0_9 a0_10 a0_11 a0_22 a0_26 a0_29 a0_31 a0_32 a0_34))] := hD
  refine lv_goto (tgt := 87) hx hb d_M_findDate_142 (by decide) ?_
  exact hk87 (zu I0 38 ((I0 38) + (1 : Int32))) (s0 - s1) _ _ _ (lv_sub hl [1, 0] rfl) hK hP hD hS hv
set_option maxHeartbeats 4000000 in
set_option maxRecDepth 100000 in
theorem b_M_findDate_118 {h0 : Nat} {a0_2 : Nat} {a0_4 : Nat} {a0_5 : Nat} {a0_6 : Nat} {a0_7 : Nat} {a0_8 : Nat} {a0_9 : Nat} {a0_10 : Nat} {a0_11 : Nat} {a0_22 : Nat} {a0_26 : Nat} {a0_29 : Nat} {a0_31 : Nat} {a0_32 : Nat} {a0_34 : Nat} {I0 : Nat → Int32} {J0 : Nat → Int64} {s0 : Int32} {s1 : Int32} {k87 : (Nat → Int32) → Int32 → Prop} {Z : (Nat → Int32) → Prop} {H : Heap} {locs : List Loc} {ls : Array Slot} (hc : zC p s m args meth c prog_14_method_58_code none 2 "NumberDressModel") (hA : ∀ q : Nat, s.heap.size ≤ q → A q) (hE : zE gE A s) (hk87 : ∀ (I0 : Nat → Int32) (x1 : Int32) (H : Heap) (locs : List Loc) (ls : Array Slot), lv_has ls 2 [(0, .ref h0), (1, .int x1)] → va_K (dC, dI) zCl [] s → va_P (dC, dI) zCl [(h0, .inr (12, o_M I0 J0 a0_2 a0_4 a0_5 a0_6 a0_7 a0_8 a0_9 a0_10 a0_11 a0_22 a0_26 a0_29 a0_31 a0_32 a0_34))] H → va_D A [(h0, .inr (12, o_M I0 J0 a0_2 a0_4 a0_5 a0_6 a0_7 a0_8 a0_9 a0_10 a0_11 a0_22 a0_26 a0_29 a0_31 a0_32 a0_34))] → va_S A s.heap H locs → k87 I0 x1 → W p l e (headSpec (Cond.code (⟨"NumberDressModel", "findDate", "()V"⟩ : MethodName) prog_14_method_58_code 2 none :: zT) { frames := 2, cells := 0, slots := 0, locals := 41 }).room s m args below meth c H locs 0 0 (MQ below (va_Qv Z (zB (dC, dI) zCl [] A (fun u : (Nat → Int32) => [(h0, .inr (12, o_M u J0 a0_2 a0_4 a0_5 a0_6 a0_7 a0_8 a0_9 a0_10 a0_11 a0_22 a0_26 a0_29 a0_31 a0_32 a0_34))])) A) args s 0 0 A) (F0 m 87 ls [])) (hl : lv_has ls 2 [(0, .ref h0)]) (hK : va_K (dC, dI) zCl [] s) (hP : va_P (dC, dI) zCl [(h0, .inr (12, o_M I0 J0 a0_2 a0_4 a0_5 a0_6 a0_7 a0_8 a0_9 a0_10 a0_11 a0_22 a0_26 a0_29 a0_31 a0_32 a0_34))] H) (hD : va_D A [(h0, .inr (12, o_M I0 J0 a0_2 a0_4 a0_5 a0_6 a0_7 a0_8 a0_9 a0_10 a0_11 a0_22 a0_26 a0_29 a0_31 a0_32 a0_34))]) (hS : va_S A s.heap H locs) (hv : v_M_findDate_118 I0 J0 s0 s1 k87 Z) : W p l e (headSpec (Cond.code (⟨"NumberDressModel", "findDate", "()V"⟩ : MethodName) prog_14_method_58_code 2 none :: zT) { frames := 2, cells := 0, slots := 0, locals := 41 }).room s m args below meth c H locs 0 0 (MQ below (va_Qv Z (zB (dC, dI) zCl [] A (fun u : (Nat → Int32) => [(h0, .inr (12, o_M u J0 a0_2 a0_4 a0_5 a0_6 a0_7 a0_8 a0_9 a0_10 a0_11 a0_22 a0_26 a0_29 a0_31 a0_32 a0_34))])) A) args s 0 0 A) (F0 m 118 ls [.int s1, .int s0]) := by
  obtain ⟨hx, hb, hr, hml, hown, ht, hlocks⟩ := id hc
  unfold v_M_findDate_118 at hv
  refine lv_if_eq (tgt := 127) hx hb d_M_findDate_118 (by decide) (fun c_1 => ?_) (fun c_1 => ?_)
  · have hv := hv.1 c_1
    refine lv_sipush (v := (365 : Int32)) hx hb d_M_findDate_127 (by decide) ?_
    exact b_M_findDate_130 hc hA hE hk87 (lv_sub hl [0] rfl) hK hP hD hS hv
  · have hv := hv.2 c_1
    refine lv_sipush (v := (366 : Int32)) hx hb d_M_findDate_121 (by decide) ?_
    refine lv_goto (tgt := 130) hx hb d_M_findDate_124 (by decide) ?_
    exact b_M_findDate_130 hc hA hE hk87 (lv_sub hl [0] rfl) hK hP hD hS hv
set_option maxHeartbeats 4000000 in
set_option maxRecDepth 100000 in
theorem b_M_findDate_172 {h0 : Nat} {a0_2 : Nat} {a0_4 : Nat} {a0_5 : Nat} {a0_6 : Nat} {a0_7 : Nat} {a0_8 : Nat} {a0_9 : Nat} {a0_10 : Nat} {a0_11 : Nat} {a0_22 : Nat} {a0_26 : Nat} {a0_29 : Nat} {a0_31 : Nat} {a0_32 : Nat} {a0_34 : Nat} {I0 : Nat → Int32} {J0 : Nat → Int64} {s0 : Int32} {s1 : Int32} {k145 : (Nat → Int32) → Int32 → Prop} {Z : (Nat → Int32) → Prop} {H : Heap} {locs : List Loc} {ls : Array Slot} (hc : zC p s m args meth c prog_14_method_58_code none 2 "NumberDressModel") (hA : ∀ q : Nat, s.heap.size ≤ q → A q) (hE : zE gE A s) (hk145 : ∀ (I0 : Nat → Int32) (x1 : Int32) (H : Heap) (locs : List Loc) (ls : Array Slot), lv_has ls 2 [(0, .ref h0), (1, .int x1)] → va_K (dC, dI) zCl [] s → va_P (dC, dI) zCl [(h0, .inr (12, o_M I0 J0 a0_2 a0_4 a0_5 a0_6 a0_7 a0_8 a0_9 a0_10 a0_11 a0_22 a0_26 a0_29 a0_31 a0_32 a0_34))] H → va_D A [(h0, .inr (12, o_M I0 J0 a0_2 a0_4 a0_5 a0_6 a0_7 a0_8 a0_9 a0_10 a0_11 a0_22 a0_26 a0_29 a0_31 a0_32 a0_34))] → va_S A s.heap H locs → k145 I0 x1 → W p l e (headSpec (Cond.code (⟨"NumberDressModel", "findDate", "()V"⟩ : MethodName) prog_14_method_58_code 2 none :: zT) { frames := 2, cells := 0, slots := 0, locals := 41 }).room s m args below meth c H locs 0 0 (MQ below (va_Qv Z (zB (dC, dI) zCl [] A (fun u : (Nat → Int32) => [(h0, .inr (12, o_M u J0 a0_2 a0_4 a0_5 a0_6 a0_7 a0_8 a0_9 a0_10 a0_11 a0_22 a0_26 a0_29 a0_31 a0_32 a0_34))])) A) args s 0 0 A) (F0 m 145 ls [])) (hl : lv_has ls 2 [(0, .ref h0)]) (hK : va_K (dC, dI) zCl [] s) (hP : va_P (dC, dI) zCl [(h0, .inr (12, o_M I0 J0 a0_2 a0_4 a0_5 a0_6 a0_7 a0_8 a0_9 a0_10 a0_11 a0_22 a0_26 a0_29 a0_31 a0_32 a0_34))] H) (hD : va_D A [(h0, .inr (12, o_M I0 J0 a0_2 a0_4 a0_5 a0_6 a0_7 a0_8 a0_9 a0_10 a0_11 a0_22 a0_26 a0_29 a0_31 a0_32 a0_34))]) (hS : va_S A s.heap H locs) (hv : v_M_findDate_172 I0 J0 s0 s1 k145 Z) : W p l e (headSpec (Cond.code (⟨"NumberDressModel", "findDate", "()V"⟩ : MethodName) prog_14_method_58_code 2 none :: zT) { frames := 2, cells := 0, slots := 0, locals := 41 }).room s m args below meth c H locs 0 0 (MQ below (va_Qv Z (zB (dC, dI) zCl [] A (fun u : (Nat → Int32) => [(h0, .inr (12, o_M u J0 a0_2 a0_4 a0_5 a0_6 a0_7 a0_8 a0_9 a0_10 a0_11 a0_22 a0_26 a0_29 a0_31 a0_32 a0_34))])) A) args s 0 0 A) (F0 m 172 ls [.int s1, .int s0]) := by
  obtain ⟨hx, hb, hr, hml, hown, ht, hlocks⟩ := id hc
  unfold v_M_findDate_172 at hv
  refine lv_isub hx hb d_M_findDate_172 ?_
  refine lv_istore_n (lv' := [(1, .int (s0 - s1)), (0, .ref h0)]) hx hb d_M_findDate_173 rfl hl (by decide) rfl (fun ls hl => ?_)
  refine lv_aload_n hx hb d_M_findDate_174 rfl (lv_at hl 1 rfl) ?_
  refine lv_dup hx hb d_M_findDate_175 rfl ?_
  refine va_get (D := (dC, dI)) (ci := 12) (v := .int (I0 39)) (C := "NumberDressModel") (T := T_M) (N := 41) hx hb ht zin_M hown hK hP 0 rfl rfl 39 (by decide) (ht _ zw_1300) (fun _ h9 => h9) rfl d_M_findDate_176 ?_
  refine lv_iconst (v := (1 : Int32)) hx hb d_M_findDate_179 (by decide) ?_
  refine lv_iadd hx hb d_M_findDate_180 ?_
  refine va_put (D := (dC, dI)) (ci := 12) (v := .int ((I0 39) + (1 : Int32))) (ty := .int) (C := "NumberDressModel") (T := T_M) (N := 41) hx hb ht zin_M ty_M tyok_M nm_M hown hK hP hD hS 0 rfl rfl 39 (by decide) (ht _ zw_1300) (fun _ h9 => h9) rfl (by decide +kernel) rfl rfl (Nat.le_of_ble_eq_true rfl) d_M_findDate_181 (fun H locs hP hD hS => ?_)
  have hP : va_P (dC, dI) zCl [(h0, .inr (12, o_M (zu I0 39 ((I0 39) + (1 : Int32))) J0 a0_2 a0_4 a0_5 a0_6 a0_7 a0_8 a0_9 a0_10 a0_11 a0_22 a0_26 a0_29 a0_31 a0_32 a0_34))] H := hP
  have hD : va_D A [(h0, .inr (12, o_M (zu I0 39 ((I0 39) + (1 : Int32))) J0 a0_2 a0_4 a0_5 a0_6 a0_7 a0_8 a0_9 a0_10 a0_11 a0_22 a0_26 a0_29 a0_31 a0_32 a0_34))] := hD
  refine lv_goto (tgt := 145) hx hb d_M_findDate_184 (by decide) ?_
  exact hk145 (zu I0 39 ((I0 39) + (1 : Int32))) (s0 - s1) _ _ _ (lv_sub hl [1, 0] rfl) hK hP hD hS hv
set_option maxHeartbeats 4000000 in
set_option maxRecDepth 100000 in
theorem b_M_findDate_157 {h0 : Nat} {a0_2 : Nat} {a0_4 : Nat} {a0_5 : Nat} {a0_6 : Nat} {a0_7 : Nat} {a0_8 : Nat} {a0_9 : Nat} {a0_10 : Nat} {a0_11 : Nat} {a0_22 : Nat} {a0_26 : Nat} {a0_29 : Nat} {a0_31 : Nat} {a0_32 : Nat} {a0_34 : Nat} {I0 : Nat → Int32} {J0 : Nat → Int64} {x1 : Int32} {s0 : Int32} {s1 : Int32} {k145 : (Nat → Int32) → Int32 → Prop} {Z : (Nat → Int32) → Prop} {H : Heap} {locs : List Loc} {ls : Array Slot} (hc : zC p s m args meth c prog_14_method_58_code none 2 "NumberDressModel") (hA : ∀ q : Nat, s.heap.size ≤ q → A q) (hE : zE gE A s) (hk145 : ∀ (I0 : Nat → Int32) (x1 : Int32) (H : Heap) (locs : List Loc) (ls : Array Slot), lv_has ls 2 [(0, .ref h0), (1, .int x1)] → va_K (dC, dI) zCl [] s → va_P (dC, dI) zCl [(h0, .inr (12, o_M I0 J0 a0_2 a0_4 a0_5 a0_6 a0_7 a0_8 a0_9 a0_10 a0_11 a0_22 a0_26 a0_29 a0_31 a0_32 a0_34))] H → va_D A [(h0, .inr (12, o_M I0 J0 a0_2 a0_4 a0_5 a0_6 a0_7 a0_8 a0_9 a0_10 a0_11 a0_22 a0_26 a0_29 a0_31 a0_32 a0_34))] → va_S A s.heap H locs → k145 I0 x1 → W p l e (headSpec (Cond.code (⟨"NumberDressModel", "findDate", "()V"⟩ : MethodName) prog_14_method_58_code 2 none :: zT) { frames := 2, cells := 0, slots := 0, locals := 41 }).room s m args below meth c H locs 0 0 (MQ below (va_Qv Z (zB (dC, dI) zCl [] A (fun u : (Nat → Int32) => [(h0, .inr (12, o_M u J0 a0_2 a0_4 a0_5 a0_6 a0_7 a0_8 a0_9 a0_10 a0_11 a0_22 a0_26 a0_29 a0_31 a0_32 a0_34))])) A) args s 0 0 A) (F0 m 145 ls [])) (hl : lv_has ls 2 [(0, .ref h0), (1, .int x1)]) (hK : va_K (dC, dI) zCl [] s) (hP : va_P (dC, dI) zCl [(h0, .inr (12, o_M I0 J0 a0_2 a0_4 a0_5 a0_6 a0_7 a0_8 a0_9 a0_10 a0_11 a0_22 a0_26 a0_29 a0_31 a0_32 a0_34))] H) (hD : va_D A [(h0, .inr (12, o_M I0 J0 a0_2 a0_4 a0_5 a0_6 a0_7 a0_8 a0_9 a0_10 a0_11 a0_22 a0_26 a0_29 a0_31 a0_32 a0_34))]) (hS : va_S A s.heap H locs) (hv : v_M_findDate_157 I0 J0 x1 s0 s1 k145 Z) : W p l e (headSpec (Cond.code (⟨"NumberDressModel", "findDate", "()V"⟩ : MethodName) prog_14_method_58_code 2 none :: zT) { frames := 2, cells := 0, slots := 0, locals := 41 }).room s m args below meth c H locs 0 0 (MQ below (va_Qv Z (zB (dC, dI) zCl [] A (fun u : (Nat → Int32) => [(h0, .inr (12, o_M u J0 a0_2 a0_4 a0_5 a0_6 a0_7 a0_8 a0_9 a0_10 a0_11 a0_22 a0_26 a0_29 a0_31 a0_32 a0_34))])) A) args s 0 0 A) (F0 m 157 ls [.int s1, .int s0]) := by
  obtain ⟨hx, hb, hr, hml, hown, ht, hlocks⟩ := id hc
  unfold v_M_findDate_157 at hv
  refine lv_icmp_le (tgt := 187) hx hb d_M_findDate_157 (by decide) (fun c_1 => ?_) (fun c_1 => ?_)
  · have hv := hv.1 c_1
    refine lv_aload_n hx hb d_M_findDate_187 rfl (lv_at hl 0 rfl) ?_
    refine lv_iload_n hx hb d_M_findDate_188 rfl (lv_at hl 1 rfl) ?_
    refine va_put (D := (dC, dI)) (ci := 12) (v := .int x1) (ty := .int) (C := "NumberDressModel") (T := T_M) (N := 41) hx hb ht zin_M ty_M tyok_M nm_M hown hK hP hD hS 0 rfl rfl 40 (by decide) (ht _ zw_1301) (fun _ h9 => h9) rfl (by decide +kernel) rfl rfl (Nat.le_of_ble_eq_true rfl) d_M_findDate_189 (fun H locs hP hD hS => ?_)
    have hP : va_P (dC, dI) zCl [(h0, .inr (12, o_M (zu I0 40 x1) J0 a0_2 a0_4 a0_5 a0_6 a0_7 a0_8 a0_9 a0_10 a0_11 a0_22 a0_26 a0_29 a0_31 a0_32 a0_34))] H := hP
    have hD : va_D A [(h0, .inr (12, o_M (zu I0 40 x1) J0 a0_2 a0_4 a0_5 a0_6 a0_7 a0_8 a0_9 a0_10 a0_11 a0_22 a0_26 a0_29 a0_31 a0_32 a0_34))] := hD
    exact W.vret hx hb hr (fun t ht hW => ⟨⟨((zu I0 40 x1)), rfl, hv, ⟨by rw [ht]; exact hP, va_K.moved hW.alike hK, hD⟩⟩, hS.F ht⟩) hS.2.2 d_M_findDate_192
  · have hv := hv.2 c_1
    refine lv_iload_n hx hb d_M_findDate_160 rfl (lv_at hl 1 rfl) ?_
    refine lv_aload_n hx hb d_M_findDate_161 rfl (lv_at hl 0 rfl) ?_
    refine va_get (D := (dC, dI)) (ci := 12) (v := .int (I0 38)) (C := "NumberDressModel") (T := T_M) (N := 41) hx hb ht zin_M hown hK hP 0 rfl rfl 38 (by decide) (ht _ zw_1299) (fun _ h9 => h9) rfl d_M_findDate_162 ?_
    refine lv_aload_n hx hb d_M_findDate_165 rfl (lv_at hl 0 rfl) ?_
    refine va_get (D := (dC, dI)) (ci := 12) (v := .int (I0 39)) (C := "NumberDressModel") (T := T_M) (N := 41) hx hb ht zin_M hown hK hP 0 rfl rfl 39 (by decide) (ht _ zw_1300) (fun _ h9 => h9) rfl d_M_findDate_166 ?_
    refine z_calli (wc := []) (wr := [(h0, .inr (12, o_M I0 J0 a0_2 a0_4 a0_5 a0_6 a0_7 a0_8 a0_9 a0_10 a0_11 a0_22 a0_26 a0_29 a0_31 a0_32 a0_34))]) [] [0] (va_runS (As := [.int (I0 38), .int (I0 39)]) (rest := [.int x1]) ⟨hx, hb, hml, hown, ht⟩ (m_M_daysIn l dC dI hv) ⟨(callB_of 2 ht (zG_in zi_M_daysIn) rfl rfl rfl (ht _ zw_122) (ht _ zw_1634) zh_M_daysIn ⟨Nat.le_of_ble_eq_true rfl, Nat.le_of_ble_eq_true rfl⟩), (ht _ zw_1635)⟩ ⟨zPc_blind, zPc_pre hP hK hD hS hA hE [] [] rfl rfl (by decide) rfl⟩ rfl rfl hl.1 rfl (lv_room (Nat.le_of_ble_eq_true rfl)) d_M_findDate_169 ⟨Nat.le_of_ble_eq_true rfl, Nat.le_of_ble_eq_true rfl⟩) hP hD hS hA rfl rfl (by decide) (by decide) (fun r u H locs hv hP hD hS => ?_)
    have hP : va_P (dC, dI) zCl [(h0, .inr (12, o_M I0 J0 a0_2 a0_4 a0_5 a0_6 a0_7 a0_8 a0_9 a0_10 a0_11 a0_22 a0_26 a0_29 a0_31 a0_32 a0_34))] H := hP.sub [0] rfl
    have hD : va_D A [(h0, .inr (12, o_M I0 J0 a0_2 a0_4 a0_5 a0_6 a0_7 a0_8 a0_9 a0_10 a0_11 a0_22 a0_26 a0_29 a0_31 a0_32 a0_34))] := hD.sub [0] (by decide) rfl
    exact b_M_findDate_172 hc hA hE hk145 (lv_sub hl [0] rfl) hK hP hD hS hv
set_option maxHeartbeats 4000000 in
set_option maxRecDepth 100000 in
theorem b_M_findDate_145 {h0 : Nat} {a0_2 : Nat} {a0_4 : Nat} {a0_5 : Nat} {a0_6 : Nat} {a0_7 : Nat} {a0_8 : Nat} {a0_9 : Nat} {a0_10 : Nat} {a0_11 : Nat} {a0_22 : Nat} {a0_26 : Nat} {a0_29 : Nat} {a0_31 : Nat} {a0_32 : Nat} {a0_34 : Nat} {J0 : Nat → Int64}  {Z : (Nat → Int32) → Prop} (hc : zC p s m args meth c prog_14_method_58_code none 2 "NumberDressModel") (hA : ∀ q : Nat, s.heap.size ≤ q → A q) (hE : zE gE A s) : ∀ (N : Nat) (I0 : Nat → Int32) (x1 : Int32) (H : Heap) (locs : List Loc) (ls : Array Slot), lv_has ls 2 [(0, .ref h0), (1, .int x1)] → va_K (dC, dI) zCl [] s → va_P (dC, dI) zCl [(h0, .inr (12, o_M I0 J0 a0_2 a0_4 a0_5 a0_6 a0_7 a0_8 a0_9 a0_10 a0_11 a0_22 a0_26 a0_29 a0_31 a0_32 a0_34))] H → va_D A [(h0, .inr (12, o_M I0 J0 a0_2 a0_4 a0_5 a0_6 a0_7 a0_8 a0_9 a0_10 a0_11 a0_22 a0_26 a0_29 a0_31 a0_32 a0_34))] → va_S A s.heap H locs → v_M_findDate_145 J0  Z N I0 x1 → W p l e (headSpec (Cond.code (⟨"NumberDressModel", "findDate", "()V"⟩ : MethodName) prog_14_method_58_code 2 none :: zT) { frames := 2, cells := 0, slots := 0, locals := 41 }).room s m args below meth c H locs 0 0 (MQ below (va_Qv Z (zB (dC, dI) zCl [] A (fun u : (Nat → Int32) => [(h0, .inr (12, o_M u J0 a0_2 a0_4 a0_5 a0_6 a0_7 a0_8 a0_9 a0_10 a0_11 a0_22 a0_26 a0_29 a0_31 a0_32 a0_34))])) A) args s 0 0 A) (F0 m 145 ls []) := by
  obtain ⟨hx, hb, hr, hml, hown, ht, hlocks⟩ := id hc
  intro N
  induction N with
  | zero => intro I0 x1 H locs ls hl hK hP hD hS hv; exact hv.elim
  | succ N hk145 =>
    intro I0 x1 H locs ls hl hK hP hD hS hv
    unfold v_M_findDate_145 at hv
    refine lv_iload_n hx hb d_M_findDate_145 rfl (lv_at hl 1 rfl) ?_
    refine lv_aload_n hx hb d_M_findDate_146 rfl (lv_at hl 0 rfl) ?_
    refine va_get (D := (dC, dI)) (ci := 12) (v := .int (I0 38)) (C := "NumberDressModel") (T := T_M) (N := 41) hx hb ht zin_M hown hK hP 0 rfl rfl 38 (by decide) (ht _ zw_1299) (fun _ h9 => h9) rfl d_M_findDate_147 ?_
    refine lv_aload_n hx hb d_M_findDate_150 rfl (lv_at hl 0 rfl) ?_
    refine va_get (D := (dC, dI)) (ci := 12) (v := .int (I0 39)) (C := "NumberDressModel") (T := T_M) (N := 41) hx hb ht zin_M hown hK hP 0 rfl rfl 39 (by decide) (ht _ zw_1300) (fun _ h9 => h9) rfl d_M_findDate_151 ?_
    refine z_calli (wc := []) (wr := [(h0, .inr (12, o_M I0 J0 a0_2 a0_4 a0_5 a0_6 a0_7 a0_8 a0_9 a0_10 a0_11 a0_22 a0_26 a0_29 a0_31 a0_32 a0_34))]) [] [0] (va_runS (As := [.int (I0 38), .int (I0 39)]) (rest := [.int x1]) ⟨hx, hb, hml, hown, ht⟩ (m_M_daysIn l dC dI hv) ⟨(callB_of 2 ht (zG_in zi_M_daysIn) rfl rfl rfl (ht _ zw_122) (ht _ zw_1634) zh_M_daysIn ⟨Nat.le_of_ble_eq_true rfl, Nat.le_of_ble_eq_true rfl⟩), (ht _ zw_1635)⟩ ⟨zPc_blind, zPc_pre hP hK hD hS hA hE [] [] rfl rfl (by decide) rfl⟩ rfl rfl hl.1 rfl (lv_room (Nat.le_of_ble_eq_true rfl)) d_M_findDate_154 ⟨Nat.le_of_ble_eq_true rfl, Nat.le_of_ble_eq_true rfl⟩) hP hD hS hA rfl rfl (by decide) (by decide) (fun r u H locs hv hP hD hS => ?_)
    have hP : va_P (dC, dI) zCl [(h0, .inr (12, o_M I0 J0 a0_2 a0_4 a0_5 a0_6 a0_7 a0_8 a0_9 a0_10 a0_11 a0_22 a0_26 a0_29 a0_31 a0_32 a0_34))] H := hP.sub [0] rfl
    have hD : va_D A [(h0, .inr (12, o_M I0 J0 a0_2 a0_4 a0_5 a0_6 a0_7 a0_8 a0_9 a0_10 a0_11 a0_22 a0_26 a0_29 a0_31 a0_32 a0_34))] := hD.sub [0] (by decide) rfl
    exact b_M_findDate_157 hc hA hE hk145 (lv_sub hl [0, 1] rfl) hK hP hD hS hv
set_option maxHeartbeats 4000000 in
set_option maxRecDepth 100000 in
theorem b_M_findDate_107 {h0 : Nat} {a0_2 : Nat} {a0_4 : Nat} {a0_5 : Nat} {a0_6 : Nat} {a0_7 : Nat} {a0_8 : Nat} {a0_9 : Nat} {a0_10 : Nat} {a0_11 : Nat} {a0_22 : Nat} {a0_26 : Nat} {a0_29 : Nat} {a0_31 : Nat} {a0_32 : Nat} {a0_34 : Nat} {I0 : Nat → Int32} {J0 : Nat → Int64} {x1 : Int32} {s0 : Int32} {s1 : Int32} {k87 : (Nat → Int32) → Int32 → Prop} {Z : (Nat → Int32) → Prop} {H : Heap} {locs : List Loc} {ls : Array Slot} (hc : zC p s m args meth c prog_14_method_58_code none 2 "NumberDressModel") (hA : ∀ q : Nat, s.heap.size ≤ q → A q) (hE : zE gE A s) (hk87 : ∀ (I0 : Nat → Int32) (x1 : Int32) (H : Heap) (locs : List Loc) (ls : Array Slot), lv_has ls 2 [(0, .ref h0), (1, .int x1)] → va_K (dC, dI) zCl [] s → va_P (dC, dI) zCl [(h0, .inr (12, o_M I0 J0 a0_2 a0_4 a0_5 a0_6 a0_7 a0_8 a0_9 a0_10 a0_11 a0_22 a0_26 a0_29 a0_31 a0_32 a0_34))] H → va_D A [(h0, .inr (12, o_M I0 J0 a0_2 a0_4 a0_5 a0_6 a0_7 a0_8 a0_9 a0_10 a0_11 a0_22 a0_26 a0_29 a0_31 a0_32 a0_34))] → va_S A s.heap H locs → k87 I0 x1 → W p l e (headSpec (Cond.code (⟨"NumberDressModel", "findDate", "()V"⟩ : MethodName) prog_14_method_58_code 2 none :: zT) { frames := 2, cells := 0, slots := 0, locals := 41 }).room s m args below meth c H locs 0 0 (MQ below (va_Qv Z (zB (dC, dI) zCl [] A (fun u : (Nat → Int32) => [(h0, .inr (12, o_M u J0 a0_2 a0_4 a0_5 a0_6 a0_7 a0_8 a0_9 a0_10 a0_11 a0_22 a0_26 a0_29 a0_31 a0_32 a0_34))])) A) args s 0 0 A) (F0 m 87 ls [])) (hl : lv_has ls 2 [(0, .ref h0), (1, .int x1)]) (hK : va_K (dC, dI) zCl [] s) (hP : va_P (dC, dI) zCl [(h0, .inr (12, o_M I0 J0 a0_2 a0_4 a0_5 a0_6 a0_7 a0_8 a0_9 a0_10 a0_11 a0_22 a0_26 a0_29 a0_31 a0_32 a0_34))] H) (hD : va_D A [(h0, .inr (12, o_M I0 J0 a0_2 a0_4 a0_5 a0_6 a0_7 a0_8 a0_9 a0_10 a0_11 a0_22 a0_26 a0_29 a0_31 a0_32 a0_34))]) (hS : va_S A s.heap H locs) (hv : v_M_findDate_107 I0 J0 x1 s0 s1 k87 Z) : W p l e (headSpec (Cond.code (⟨"NumberDressModel", "findDate", "()V"⟩ : MethodName) prog_14_method_58_code 2 none :: zT) { frames := 2, cells := 0, slots := 0, locals := 41 }).room s m args below meth c H locs 0 0 (MQ below (va_Qv Z (zB (dC, dI) zCl [] A (fun u : (Nat → Int32) => [(h0, .inr (12, o_M u J0 a0_2 a0_4 a0_5 a0_6 a0_7 a0_8 a0_9 a0_10 a0_11 a0_22 a0_26 a0_29 a0_31 a0_32 a0_34))])) A) args s 0 0 A) (F0 m 107 ls [.int s1, .int s0]) := by
  obtain ⟨hx, hb, hr, hml, hown, ht, hlocks⟩ := id hc
  unfold v_M_findDate_107 at hv
  refine lv_icmp_le (tgt := 145) hx hb d_M_findDate_107 (by decide) (fun c_1 => ?_) (fun c_1 => ?_)
  · have hv := hv.1 c_1
    obtain ⟨Nx, hv⟩ := hv
    exact b_M_findDate_145 hc hA hE  Nx I0 x1 _ _ _ (lv_sub hl [0, 1] rfl) hK hP hD hS hv
  · have hv := hv.2 c_1
    refine lv_iload_n hx hb d_M_findDate_110 rfl (lv_at hl 1 rfl) ?_
    refine lv_aload_n hx hb d_M_findDate_111 rfl (lv_at hl 0 rfl) ?_
    refine va_get (D := (dC, dI)) (ci := 12) (v := .int (I0 38)) (C := "NumberDressModel") (T := T_M) (N := 41) hx hb ht zin_M hown hK hP 0 rfl rfl 38 (by decide) (ht _ zw_1299) (fun _ h9 => h9) rfl d_M_findDate_112 ?_
    refine z_calli (wc := []) (wr := [(h0, .inr (12, o_M I0 J0 a0_2 a0_4 a0_5 a0_6 a0_7 a0_8 a0_9 a0_10 a0_11 a0_22 a0_26 a0_29 a0_31 a0_32 a0_34))]) [] [0] (va_runS (As := [.int (I0 38)]) (rest := [.int x1]) ⟨hx, hb, hml, hown, ht⟩ (m_M_isLeap l dC dI hv) ⟨(callB_of 1 ht (zG_in zi_M_isLeap) rfl rfl rfl (ht _ zw_122) (ht _ zw_1631) zh_M_isLeap ⟨Nat.le_of_ble_eq_true rfl, Nat.le_of_ble_eq_true rfl⟩), (ht _ zw_1632)⟩ ⟨zPc_blind, zPc_pre hP hK hD hS hA hE [] [] rfl rfl (by decide) rfl⟩ rfl rfl hl.1 rfl (lv_room (Nat.le_of_ble_eq_true rfl)) d_M_findDate_115 ⟨Nat.le_of_ble_eq_true rfl, Nat.le_of_ble_eq_true rfl⟩) hP hD hS hA rfl rfl (by decide) (by decide) (fun r u H locs hv hP hD hS => ?_)
    have hP : va_P (dC, dI) zCl [(h0, .inr (12, o_M I0 J0 a0_2 a0_4 a0_5 a0_6 a0_7 a0_8 a0_9 a0_10 a0_11 a0_22 a0_26 a0_29 a0_31 a0_32 a0_34))] H := hP.sub [0] rfl
    have hD : va_D A [(h0, .inr (12, o_M I0 J0 a0_2 a0_4 a0_5 a0_6 a0_7 a0_8 a0_9 a0_10 a0_11 a0_22 a0_26 a0_29 a0_31 a0_32 a0_34))] := hD.sub [0] (by decide) rfl
    exact b_M_findDate_118 hc hA hE hk87 (lv_sub hl [0] rfl) hK hP hD hS hv
set_option maxHeartbeats 4000000 in
set_option maxRecDepth 100000 in
theorem b_M_findDate_95 {h0 : Nat} {a0_2 : Nat} {a0_4 : Nat} {a0_5 : Nat} {a0_6 : Nat} {a0_7 : Nat} {a0_8 : Nat} {a0_9 : Nat} {a0_10 : Nat} {a0_11 : Nat} {a0_22 : Nat} {a0_26 : Nat} {a0_29 : Nat} {a0_31 : Nat} {a0_32 : Nat} {a0_34 : Nat} {I0 : Nat → Int32} {J0 : Nat → Int64} {x1 : Int32} {s0 : Int32} {s1 : Int32} {k87 : (Nat → Int32) → Int32 → Prop} {Z : (Nat → Int32) → Prop} {H : Heap} {locs : List Loc} {ls : Array Slot} (hc : zC p s m args meth c prog_14_method_58_code none 2 "NumberDressModel") (hA : ∀ q : Nat, s.heap.size ≤ q → A q) (hE : zE gE A s) (hk87 : ∀ (I0 : Nat → Int32) (x1 : Int32) (H : Heap) (locs : List Loc) (ls : Array Slot), lv_has ls 2 [(0, .ref h0), (1, .int x1)] → va_K (dC, dI) zCl [] s → va_P (dC, dI) zCl [(h0, .inr (12, o_M I0 J0 a0_2 a0_4 a0_5 a0_6 a0_7 a0_8 a0_9 a0_10 a0_11 a0_22 a0_26 a0_29 a0_31 a0_32 a0_34))] H → va_D A [(h0, .inr (12, o_M I0 J0 a0_2 a0_4 a0_5 a0_6 a0_7 a0_8 a0_9 a0_10 a0_11 a0_22 a0_26 a0_29 a0_31 a0_32 a0_34))] → va_S A s.heap H locs → k87 I0 x1 → W p l e (headSpec (Cond.code (⟨"NumberDressModel", "findDate", "()V"⟩ : MethodName) prog_14_method_58_code 2 none :: zT) { frames := 2, cells := 0, slots := 0, locals := 41 }).room s m args below meth c H locs 0 0 (MQ below (va_Qv Z (zB (dC, dI) zCl [] A (fun u : (Nat → Int32) => [(h0, .inr (12, o_M u J0 a0_2 a0_4 a0_5 a0_6 a0_7 a0_8 a0_9 a0_10 a0_11 a0_22 a0_26 a0_29 a0_31 a0_32 a0_34))])) A) args s 0 0 A) (F0 m 87 ls [])) (hl : lv_has ls 2 [(0, .ref h0), (1, .int x1)]) (hK : va_K (dC, dI) zCl [] s) (hP : va_P (dC, dI) zCl [(h0, .inr (12, o_M I0 J0 a0_2 a0_4 a0_5 a0_6 a0_7 a0_8 a0_9 a0_10 a0_11 a0_22 a0_26 a0_29 a0_31 a0_32 a0_34))] H) (hD : va_D A [(h0, .inr (12, o_M I0 J0 a0_2 a0_4 a0_5 a0_6 a0_7 a0_8 a0_9 a0_10 a0_11 a0_22 a0_26 a0_29 a0_31 a0_32 a0_34))]) (hS : va_S A s.heap H locs) (hv : v_M_findDate_95 I0 J0 x1 s0 s1 k87 Z) : W p l e (headSpec (Cond.code (⟨"NumberDressModel", "findDate", "()V"⟩ : MethodName) prog_14_method_58_code 2 none :: zT) { frames := 2, cells := 0, slots := 0, locals := 41 }).room s m args below meth c H locs 0 0 (MQ below (va_Qv Z (zB (dC, dI) zCl [] A (fun u : (Nat → Int32) => [(h0, .inr (12, o_M u J0 a0_2 a0_4 a0_5 a0_6 a0_7 a0_8 a0_9 a0_10 a0_11 a0_22 a0_26 a0_29 a0_31 a0_32 a0_34))])) A) args s 0 0 A) (F0 m 95 ls [.int s1, .int s0]) := by
  obtain ⟨hx, hb, hr, hml, hown, ht, hlocks⟩ := id hc
  unfold v_M_findDate_95 at hv
  refine lv_if_eq (tgt := 104) hx hb d_M_findDate_95 (by decide) (fun c_1 => ?_) (fun c_1 => ?_)
  · have hv := hv.1 c_1
    refine lv_sipush (v := (365 : Int32)) hx hb d_M_findDate_104 (by decide) ?_
    exact b_M_findDate_107 hc hA hE hk87 (lv_sub hl [0, 1] rfl) hK hP hD hS hv
  · have hv := hv.2 c_1
    refine lv_sipush (v := (366 : Int32)) hx hb d_M_findDate_98 (by decide) ?_
    refine lv_goto (tgt := 107) hx hb d_M_findDate_101 (by decide) ?_
    exact b_M_findDate_107 hc hA hE hk87 (lv_sub hl [0, 1] rfl) hK hP hD hS hv
set_option maxHeartbeats 4000000 in
set_option maxRecDepth 100000 in
theorem b_M_findDate_87 {h0 : Nat} {a0_2 : Nat} {a0_4 : Nat} {a0_5 : Nat} {a0_6 : Nat} {a0_7 : Nat} {a0_8 : Nat} {a0_9 : Nat} {a0_10 : Nat} {a0_11 : Nat} {a0_22 : Nat} {a0_26 : Nat} {a0_29 : Nat} {a0_31 : Nat} {a0_32 : Nat} {a0_34 : Nat} {J0 : Nat → Int64}  {Z : (Nat → Int32) → Prop} (hc : zC p s m args meth c prog_14_method_58_code none 2 "NumberDressModel") (hA : ∀ q : Nat, s.heap.size ≤ q → A q) (hE : zE gE A s) : ∀ (N : Nat) (I0 : Nat → Int32) (x1 : Int32) (H : Heap) (locs : List Loc) (ls : Array Slot), lv_has ls 2 [(0, .ref h0), (1, .int x1)] → va_K (dC, dI) zCl [] s → va_P (dC, dI) zCl [(h0, .inr (12, o_M I0 J0 a0_2 a0_4 a0_5 a0_6 a0_7 a0_8 a0_9 a0_10 a0_11 a0_22 a0_26 a0_29 a0_31 a0_32 a0_34))] H → va_D A [(h0, .inr (12, o_M I0 J0 a0_2 a0_4 a0_5 a0_6 a0_7 a0_8 a0_9 a0_10 a0_11 a0_22 a0_26 a0_29 a0_31 a0_32 a0_34))] → va_S A s.heap H locs → v_M_findDate_87 J0  Z N I0 x1 → W p l e (headSpec (Cond.code (⟨"NumberDressModel", "findDate", "()V"⟩ : MethodName) prog_14_method_58_code 2 none :: zT) { frames := 2, cells := 0, slots := 0, locals := 41 }).room s m args below meth c H locs 0 0 (MQ below (va_Qv Z (zB (dC, dI) zCl [] A (fun u : (Nat → Int32) => [(h0, .inr (12, o_M u J0 a0_2 a0_4 a0_5 a0_6 a0_7 a0_8 a0_9 a0_10 a0_11 a0_22 a0_26 a0_29 a0_31 a0_32 a0_34))])) A) args s 0 0 A) (F0 m 87 ls []) := by
  obtain ⟨hx, hb, hr, hml, hown, ht, hlocks⟩ := id hc
  intro N
  induction N with
  | zero => intro I0 x1 H locs ls hl hK hP hD hS hv; exact hv.elim
  | succ N hk87 =>
    intro I0 x1 H locs ls hl hK hP hD hS hv
    unfold v_M_findDate_87 at hv
    refine lv_iload_n hx hb d_M_findDate_87 rfl (lv_at hl 1 rfl) ?_
    refine lv_aload_n hx hb d_M_findDate_88 rfl (lv_at hl 0 rfl) ?_
    refine va_get (D := (dC, dI)) (ci := 12) (v := .int (I0 38)) (C := "NumberDressModel") (T := T_M) (N := 41) hx hb ht zin_M hown hK hP 0 rfl rfl 38 (by decide) (ht _ zw_1299) (fun _ h9 => h9) rfl d_M_findDate_89 ?_
    refine z_calli (wc := []) (wr := [(h0, .inr (12, o_M I0 J0 a0_2 a0_4 a0_5 a0_6 a0_7 a0_8 a0_9 a0_10 a0_11 a0_22 a0_26 a0_29 a0_31 a0_32 a0_34))]) [] [0] (va_runS (As := [.int (I0 38)]) (rest := [.int x1]) ⟨hx, hb, hml, hown, ht⟩ (m_M_isLeap l dC dI hv) ⟨(callB_of 1 ht (zG_in zi_M_isLeap) rfl rfl rfl (ht _ zw_122) (ht _ zw_1631) zh_M_isLeap ⟨Nat.le_of_ble_eq_true rfl, Nat.le_of_ble_eq_true rfl⟩), (ht _ zw_1632)⟩ ⟨zPc_blind, zPc_pre hP hK hD hS hA hE [] [] rfl rfl (by decide) rfl⟩ rfl rfl hl.1 rfl (lv_room (Nat.le_of_ble_eq_true rfl)) d_M_findDate_92 ⟨Nat.le_of_ble_eq_true rfl, Nat.le_of_ble_eq_true rfl⟩) hP hD hS hA rfl rfl (by decide) (by decide) (fun r u H locs hv hP hD hS => ?_)
    have hP : va_P (dC, dI) zCl [(h0, .inr (12, o_M I0 J0 a0_2 a0_4 a0_5 a0_6 a0_7 a0_8 a0_9 a0_10 a0_11 a0_22 a0_26 a0_29 a0_31 a0_32 a0_34))] H := hP.sub [0] rfl
    have hD : va_D A [(h0, .inr (12, o_M I0 J0 a0_2 a0_4 a0_5 a0_6 a0_7 a0_8 a0_9 a0_10 a0_11 a0_22 a0_26 a0_29 a0_31 a0_32 a0_34))] := hD.sub [0] (by decide) rfl
    exact b_M_findDate_95 hc hA hE hk87 (lv_sub hl [0, 1] rfl) hK hP hD hS hv
set_option maxHeartbeats 4000000 in
set_option maxRecDepth 100000 in
theorem b_M_findDate_86 {h0 : Nat} {a0_2 : Nat} {a0_4 : Nat} {a0_5 : Nat} {a0_6 : Nat} {a0_7 : Nat} {a0_8 : Nat} {a0_9 : Nat} {a0_10 : Nat} {a0_11 : Nat} {a0_22 : Nat} {a0_26 : Nat} {a0_29 : Nat} {a0_31 : Nat} {a0_32 : Nat} {a0_34 : Nat} {I0 : Nat → Int32} {J0 : Nat → Int64} {s0 : Int32}  {Z : (Nat → Int32) → Prop} {H : Heap} {locs : List Loc} {ls : Array Slot} (hc : zC p s m args meth c prog_14_method_58_code none 2 "NumberDressModel") (hA : ∀ q : Nat, s.heap.size ≤ q → A q) (hE : zE gE A s) (hl : lv_has ls 2 [(0, .ref h0)]) (hK : va_K (dC, dI) zCl [] s) (hP : va_P (dC, dI) zCl [(h0, .inr (12, o_M I0 J0 a0_2 a0_4 a0_5 a0_6 a0_7 a0_8 a0_9 a0_10 a0_11 a0_22 a0_26 a0_29 a0_31 a0_32 a0_34))] H) (hD : va_D A [(h0, .inr (12, o_M I0 J0 a0_2 a0_4 a0_5 a0_6 a0_7 a0_8 a0_9 a0_10 a0_11 a0_22 a0_26 a0_29 a0_31 a0_32 a0_34))]) (hS : va_S A s.heap H locs) (hv : v_M_findDate_86 I0 J0 s0  Z) : W p l e (headSpec (Cond.code (⟨"NumberDressModel", "findDate", "()V"⟩ : MethodName) prog_14_method_58_code 2 none :: zT) { frames := 2, cells := 0, slots := 0, locals := 41 }).room s m args below meth c H locs 0 0 (MQ below (va_Qv Z (zB (dC, dI) zCl [] A (fun u : (Nat → Int32) => [(h0, .inr (12, o_M u J0 a0_2 a0_4 a0_5 a0_6 a0_7 a0_8 a0_9 a0_10 a0_11 a0_22 a0_26 a0_29 a0_31 a0_32 a0_34))])) A) args s 0 0 A) (F0 m 86 ls [.int s0]) := by
  obtain ⟨hx, hb, hr, hml, hown, ht, hlocks⟩ := id hc
  unfold v_M_findDate_86 at hv
  refine lv_istore_n (lv' := [(1, .int s0), (0, .ref h0)]) hx hb d_M_findDate_86 rfl hl (by decide) rfl (fun ls hl => ?_)
  obtain ⟨Nx, hv⟩ := hv
  exact b_M_findDate_87 hc hA hE  Nx I0 s0 _ _ _ (lv_sub hl [1, 0] rfl) hK hP hD hS hv
set_option maxHeartbeats 4000000 in
set_option maxRecDepth 100000 in
theorem b_M_findDate_44 {h0 : Nat} {a0_2 : Nat} {a0_4 : Nat} {a0_5 : Nat} {a0_6 : Nat} {a0_7 : Nat} {a0_8 : Nat} {a0_9 : Nat} {a0_10 : Nat} {a0_11 : Nat} {a0_22 : Nat} {a0_26 : Nat} {a0_29 : Nat} {a0_31 : Nat} {a0_32 : Nat} {a0_34 : Nat} {I0 : Nat → Int32} {J0 : Nat → Int64} {s1 : Int32}  {Z : (Nat → Int32) → Prop} {H : Heap} {locs : List Loc} {ls : Array Slot} (hc : zC p s m args meth c prog_14_method_58_code none 2 "NumberDressModel") (hA : ∀ q : Nat, s.heap.size ≤ q → A q) (hE : zE gE A s) (hl : lv_has ls 2 [(0, .ref h0)]) (hK : va_K (dC, dI) zCl [] s) (hP : va_P (dC, dI) zCl [(h0, .inr (12, o_M I0 J0 a0_2 a0_4 a0_5 a0_6 a0_7 a0_8 a0_9 a0_10 a0_11 a0_22 a0_26 a0_29 a0_31 a0_32 a0_34))] H) (hD : va_D A [(h0, .inr (12, o_M I0 J0 a0_2 a0_4 a0_5 a0_6 a0_7 a0_8 a0_9 a0_10 a0_11 a0_22 a0_26 a0_29 a0_31 a0_32 a0_34))]) (hS : va_S A s.heap H locs) (hv : v_M_findDate_44 I0 J0 s1  Z) : W p l e (headSpec (Cond.code (⟨"NumberDressModel", "findDate", "()V"⟩ : MethodName) prog_14_method_58_code 2 none :: zT) { frames := 2, cells := 0, slots := 0, locals := 41 }).room s m args below meth c H locs 0 0 (MQ below (va_Qv Z (zB (dC, dI) zCl [] A (fun u : (Nat → Int32) => [(h0, .inr (12, o_M u J0 a0_2 a0_4 a0_5 a0_6 a0_7 a0_8 a0_9 a0_10 a0_11 a0_22 a0_26 a0_29 a0_31 a0_32 a0_34))])) A) args s 0 0 A) (F0 m 44 ls [.int s1, .ref h0]) := by
  obtain ⟨hx, hb, hr, hml, hown, ht, hlocks⟩ := id hc
  unfold v_M_findDate_44 at hv
  refine va_put (D := (dC, dI)) (ci := 12) (v := .int s1) (ty := .int) (C := "NumberDressModel") (T := T_M) (N := 41) hx hb ht zin_M ty_M tyok_M nm_M hown hK hP hD hS 0 rfl rfl 40 (by decide) (ht _ zw_1301) (fun _ h9 => h9) rfl (by decide +kernel) rfl rfl (Nat.le_of_ble_eq_true rfl) d_M_findDate_44 (fun H locs hP hD hS => ?_)
  have hP : va_P (dC, dI) zCl [(h0, .inr (12, o_M (zu I0 40 s1) J0 a0_2 a0_4 a0_5 a0_6 a0_7 a0_8 a0_9 a0_10 a0_11 a0_22 a0_26 a0_29 a0_31 a0_32 a0_34))] H := hP
  have hD : va_D A [(h0, .inr (12, o_M (zu I0 40 s1) J0 a0_2 a0_4 a0_5 a0_6 a0_7 a0_8 a0_9 a0_10 a0_11 a0_22 a0_26 a0_29 a0_31 a0_32 a0_34))] := hD
  refine lv_aload_n hx hb d_M_findDate_47 rfl (lv_at hl 0 rfl) ?_
  refine va_get (D := (dC, dI)) (ci := 12) (v := .int (I0 35)) (C := "NumberDressModel") (T := T_M) (N := 41) hx hb ht zin_M hown hK hP 0 rfl rfl 35 (by decide) (ht _ zw_1296) (fun _ h9 => h9) rfl d_M_findDate_48 ?_
  refine lv_bipush (v := (60 : Int32)) hx hb d_M_findDate_51 (by decide) ?_
  refine lv_icmp_eq (tgt := 63) hx hb d_M_findDate_53 (by decide) (fun c_1 => ?_) (fun c_1 => ?_)
  · have hv := hv.1 c_1
    exact W.vret hx hb hr (fun t ht hW => ⟨⟨((zu I0 40 s1)), rfl, hv, ⟨by rw [ht]; exact hP, va_K.moved hW.alike hK, hD⟩⟩, hS.F ht⟩) hS.2.2 d_M_findDate_63
  · have hv := hv.2 c_1
    refine lv_aload_n hx hb d_M_findDate_56 rfl (lv_at hl 0 rfl) ?_
    refine va_get (D := (dC, dI)) (ci := 12) (v := .int (I0 35)) (C := "NumberDressModel") (T := T_M) (N := 41) hx hb ht zin_M hown hK hP 0 rfl rfl 35 (by decide) (ht _ zw_1296) (fun _ h9 => h9) rfl d_M_findDate_57 ?_
    refine lv_if_ne (tgt := 64) hx hb d_M_findDate_60 (by decide) (fun c_2 => ?_) (fun c_2 => ?_)
    · have hv := hv.1 c_2
      refine lv_aload_n hx hb d_M_findDate_64 rfl (lv_at hl 0 rfl) ?_
      refine va_get (D := (dC, dI)) (ci := 12) (v := .int (I0 35)) (C := "NumberDressModel") (T := T_M) (N := 41) hx hb ht zin_M hown hK hP 0 rfl rfl 35 (by decide) (ht _ zw_1296) (fun _ h9 => h9) rfl d_M_findDate_65 ?_
      refine lv_bipush (v := (60 : Int32)) hx hb d_M_findDate_68 (by decide) ?_
      refine lv_icmp_le (tgt := 82) hx hb d_M_findDate_70 (by decide) (fun c_3 => ?_) (fun c_3 => ?_)
      · have hv := hv.1 c_3
        refine lv_aload_n hx hb d_M_findDate_82 rfl (lv_at hl 0 rfl) ?_
        refine va_get (D := (dC, dI)) (ci := 12) (v := .int (I0 35)) (C := "NumberDressModel") (T := T_M) (N := 41) hx hb ht zin_M hown hK hP 0 rfl rfl 35 (by decide) (ht _ zw_1296) (fun _ h9 => h9) rfl d_M_findDate_83 ?_
        exact b_M_findDate_86 hc hA hE  (lv_sub hl [0] rfl) hK hP hD hS hv
      · have hv := hv.2 c_3
        refine lv_aload_n hx hb d_M_findDate_73 rfl (lv_at hl 0 rfl) ?_
        refine va_get (D := (dC, dI)) (ci := 12) (v := .int (I0 35)) (C := "NumberDressModel") (T := T_M) (N := 41) hx hb ht zin_M hown hK hP 0 rfl rfl 35 (by decide) (ht _ zw_1296) (fun _ h9 => h9) rfl d_M_findDate_74 ?_
        refine lv_iconst (v := (1 : Int32)) hx hb d_M_findDate_77 (by decide) ?_
        refine lv_isub hx hb d_M_findDate_78 ?_
        refine lv_goto (tgt := 86) hx hb d_M_findDate_79 (by decide) ?_
        exact b_M_findDate_86 hc hA hE  (lv_sub hl [0] rfl) hK hP hD hS hv
    · have hv := hv.2 c_2
      exact W.vret hx hb hr (fun t ht hW => ⟨⟨((zu I0 40 s1)), rfl, hv, ⟨by rw [ht]; exact hP, va_K.moved hW.alike hK, hD⟩⟩, hS.F ht⟩) hS.2.2 d_M_findDate_63
set_option maxHeartbeats 4000000 in
set_option maxRecDepth 100000 in
theorem b_M_findDate_22 {h0 : Nat} {a0_2 : Nat} {a0_4 : Nat} {a0_5 : Nat} {a0_6 : Nat} {a0_7 : Nat} {a0_8 : Nat} {a0_9 : Nat} {a0_10 : Nat} {a0_11 : Nat} {a0_22 : Nat} {a0_26 : Nat} {a0_29 : Nat} {a0_31 : Nat} {a0_32 : Nat} {a0_34 : Nat} {I0 : Nat → Int32} {J0 : Nat → Int64} {s1 : Int32}  {Z : (Nat → Int32) → Prop} {H : Heap} {locs : List Loc} {ls : Array Slot} (hc : zC p s m args meth c prog_14_method_58_code none 2 "NumberDressModel") (hA : ∀ q : Nat, s.heap.size ≤ q → A q) (hE : zE gE A s) (hl : lv_has ls 2 [(0, .ref h0)]) (hK : va_K (dC, dI) zCl [] s) (hP : va_P (dC, dI) zCl [(h0, .inr (12, o_M I0 J0 a0_2 a0_4 a0_5 a0_6 a0_7 a0_8 a0_9 a0_10 a0_11 a0_22 a0_26 a0_29 a0_31 a0_32 a0_34))] H) (hD : va_D A [(h0, .inr (12, o_M I0 J0 a0_2 a0_4 a0_5 a0_6 a0_7 a0_8 a0_9 a0_10 a0_11 a0_22 a0_26 a0_29 a0_31 a0_32 a0_34))]) (hS : va_S A s.heap H locs) (hv : v_M_findDate_22 I0 J0 s1  Z) : W p l e (headSpec (Cond.code (⟨"NumberDressModel", "findDate", "()V"⟩ : MethodName) prog_14_method_58_code 2 none :: zT) { frames := 2, cells := 0, slots := 0, locals := 41 }).room s m args below meth c H locs 0 0 (MQ below (va_Qv Z (zB (dC, dI) zCl [] A (fun u : (Nat → Int32) => [(h0, .inr (12, o_M u J0 a0_2 a0_4 a0_5 a0_6 a0_7 a0_8 a0_9 a0_10 a0_11 a0_22 a0_26 a0_29 a0_31 a0_32 a0_34))])) A) args s 0 0 A) (F0 m 22 ls [.int s1, .ref h0]) := by
  obtain ⟨hx, hb, hr, hml, hown, ht, hlocks⟩ := id hc
  unfold v_M_findDate_22 at hv
  refine va_put (D := (dC, dI)) (ci := 12) (v := .int s1) (ty := .int) (C := "NumberDressModel") (T := T_M) (N := 41) hx hb ht zin_M ty_M tyok_M nm_M hown hK hP hD hS 0 rfl rfl 39 (by decide) (ht _ zw_1300) (fun _ h9 => h9) rfl (by decide +kernel) rfl rfl (Nat.le_of_ble_eq_true rfl) d_M_findDate_22 (fun H locs hP hD hS => ?_)
  have hP : va_P (dC, dI) zCl [(h0, .inr (12, o_M (zu I0 39 s1) J0 a0_2 a0_4 a0_5 a0_6 a0_7 a0_8 a0_9 a0_10 a0_11 a0_22 a0_26 a0_29 a0_31 a0_32 a0_34))] H := hP
  have hD : va_D A [(h0, .inr (12, o_M (zu I0 39 s1) J0 a0_2 a0_4 a0_5 a0_6 a0_7 a0_8 a0_9 a0_10 a0_11 a0_22 a0_26 a0_29 a0_31 a0_32 a0_34))] := hD
  refine lv_aload_n hx hb d_M_findDate_25 rfl (lv_at hl 0 rfl) ?_
  refine lv_aload_n hx hb d_M_findDate_26 rfl (lv_at hl 0 rfl) ?_
  refine va_get (D := (dC, dI)) (ci := 12) (v := .int (I0 35)) (C := "NumberDressModel") (T := T_M) (N := 41) hx hb ht zin_M hown hK hP 0 rfl rfl 35 (by decide) (ht _ zw_1296) (fun _ h9 => h9) rfl d_M_findDate_27 ?_
  refine lv_bipush (v := (60 : Int32)) hx hb d_M_findDate_30 (by decide) ?_
  refine lv_icmp_ne (tgt := 40) hx hb d_M_findDate_32 (by decide) (fun c_1 => ?_) (fun c_1 => ?_)
  · have hv := hv.1 c_1
    refine lv_aload_n hx hb d_M_findDate_40 rfl (lv_at hl 0 rfl) ?_
    refine va_get (D := (dC, dI)) (ci := 12) (v := .int (I0 35)) (C := "NumberDressModel") (T := T_M) (N := 41) hx hb ht zin_M hown hK hP 0 rfl rfl 35 (by decide) (ht _ zw_1296) (fun _ h9 => h9) rfl d_M_findDate_41 ?_
    exact b_M_findDate_44 hc hA hE  (lv_sub hl [0] rfl) hK hP hD hS hv
  · have hv := hv.2 c_1
    refine lv_bipush (v := (29 : Int32)) hx hb d_M_findDate_35 (by decide) ?_
    refine lv_goto (tgt := 44) hx hb d_M_findDate_37 (by decide) ?_
    exact b_M_findDate_44 hc hA hE  (lv_sub hl [0] rfl) hK hP hD hS hv
set_option maxHeartbeats 4000000 in
set_option maxRecDepth 100000 in
theorem b_M_findDate_0 {h0 : Nat} {a0_2 : Nat} {a0_4 : Nat} {a0_5 : Nat} {a0_6 : Nat} {a0_7 : Nat} {a0_8 : Nat} {a0_9 : Nat} {a0_10 : Nat} {a0_11 : Nat} {a0_22 : Nat} {a0_26 : Nat} {a0_29 : Nat} {a0_31 : Nat} {a0_32 : Nat} {a0_34 : Nat} {I0 : Nat → Int32} {J0 : Nat → Int64}  {Z : (Nat → Int32) → Prop} {H : Heap} {locs : List Loc} {ls : Array Slot} (hc : zC p s m args meth c prog_14_method_58_code none 2 "NumberDressModel") (hA : ∀ q : Nat, s.heap.size ≤ q → A q) (hE : zE gE A s) (hl : lv_has ls 2 [(0, .ref h0)]) (hK : va_K (dC, dI) zCl [] s) (hP : va_P (dC, dI) zCl [(h0, .inr (12, o_M I0 J0 a0_2 a0_4 a0_5 a0_6 a0_7 a0_8 a0_9 a0_10 a0_11 a0_22 a0_26 a0_29 a0_31 a0_32 a0_34))] H) (hD : va_D A [(h0, .inr (12, o_M I0 J0 a0_2 a0_4 a0_5 a0_6 a0_7 a0_8 a0_9 a0_10 a0_11 a0_22 a0_26 a0_29 a0_31 a0_32 a0_34))]) (hS : va_S A s.heap H locs) (hv : v_M_findDate_0 I0 J0  Z) : W p l e (headSpec (Cond.code (⟨"NumberDressModel", "findDate", "()V"⟩ : MethodName) prog_14_method_58_code 2 none :: zT) { frames := 2, cells := 0, slots := 0, locals := 41 }).room s m args below meth c H locs 0 0 (MQ below (va_Qv Z (zB (dC, dI) zCl [] A (fun u : (Nat → Int32) => [(h0, .inr (12, o_M u J0 a0_2 a0_4 a0_5 a0_6 a0_7 a0_8 a0_9 a0_10 a0_11 a0_22 a0_26 a0_29 a0_31 a0_32 a0_34))])) A) args s 0 0 A) (F0 m 0 ls []) := by
  obtain ⟨hx, hb, hr, hml, hown, ht, hlocks⟩ := id hc
  unfold v_M_findDate_0 at hv
  refine lv_aload_n hx hb d_M_findDate_0 rfl (lv_at hl 0 rfl) ?_
  refine lv_sipush (v := (1900 : Int32)) hx hb d_M_findDate_1 (by decide) ?_
  refine va_put (D := (dC, dI)) (ci := 12) (v := .int (1900 : Int32)) (ty := .int) (C := "NumberDressModel") (T := T_M) (N := 41) hx hb ht zin_M ty_M tyok_M nm_M hown hK hP hD hS 0 rfl rfl 38 (by decide) (ht _ zw_1299) (fun _ h9 => h9) rfl (by decide +kernel) rfl rfl (Nat.le_of_ble_eq_true rfl) d_M_findDate_4 (fun H locs hP hD hS => ?_)
  have hP : va_P (dC, dI) zCl [(h0, .inr (12, o_M (zu I0 38 (1900 : Int32)) J0 a0_2 a0_4 a0_5 a0_6 a0_7 a0_8 a0_9 a0_10 a0_11 a0_22 a0_26 a0_29 a0_31 a0_32 a0_34))] H := hP
  have hD : va_D A [(h0, .inr (12, o_M (zu I0 38 (1900 : Int32)) J0 a0_2 a0_4 a0_5 a0_6 a0_7 a0_8 a0_9 a0_10 a0_11 a0_22 a0_26 a0_29 a0_31 a0_32 a0_34))] := hD
  refine lv_aload_n hx hb d_M_findDate_7 rfl (lv_at hl 0 rfl) ?_
  refine lv_aload_n hx hb d_M_findDate_8 rfl (lv_at hl 0 rfl) ?_
  refine va_get (D := (dC, dI)) (ci := 12) (v := .int (I0 35)) (C := "NumberDressModel") (T := T_M) (N := 41) hx hb ht zin_M hown hK hP 0 rfl rfl 35 (by decide) (ht _ zw_1296) (fun _ h9 => h9) rfl d_M_findDate_9 ?_
  refine lv_bipush (v := (60 : Int32)) hx hb d_M_findDate_12 (by decide) ?_
  refine lv_icmp_ne (tgt := 21) hx hb d_M_findDate_14 (by decide) (fun c_1 => ?_) (fun c_1 => ?_)
  · have hv := hv.1 c_1
    refine lv_iconst (v := (1 : Int32)) hx hb d_M_findDate_21 (by decide) ?_
    exact b_M_findDate_22 hc hA hE  (lv_sub hl [0] rfl) hK hP hD hS hv
  · have hv := hv.2 c_1
    refine lv_iconst (v := (2 : Int32)) hx hb d_M_findDate_17 (by decide) ?_
    refine lv_goto (tgt := 22) hx hb d_M_findDate_18 (by decide) ?_
    exact b_M_findDate_22 hc hA hE  (lv_sub hl [0] rfl) hK hP hD hS hv
theorem zi_M_findDate : Cond.code (⟨"NumberDressModel", "findDate", "()V"⟩ : MethodName) prog_14_method_58_code 2 none ∈ zT := zw_1630
theorem zh_M_findDate : (((⟨"NumberDressModel", "findDate", "()V"⟩ : MethodName)).cls ≠ "java/lang/invoke/MethodHandle" ∧ ((⟨"NumberDressModel", "findDate", "()V"⟩ : MethodName)).cls ≠ "java/lang/invoke/VarHandle" ∧ (parseMethodDescriptor ((⟨"NumberDressModel", "findDate", "()V"⟩ : MethodName)).desc).map (fun d => d.parameters.length) = some 0) := by decide +kernel
set_option maxHeartbeats 4000000 in
set_option maxRecDepth 100000 in
theorem m_M_findDate (l : Launch) (dC : Nat → ClassId) (dI : Nat → Nat → Nat) {gE : zG} {h0 : Nat} {a0_2 : Nat} {a0_4 : Nat} {a0_5 : Nat} {a0_6 : Nat} {a0_7 : Nat} {a0_8 : Nat} {a0_9 : Nat} {a0_10 : Nat} {a0_11 : Nat} {a0_22 : Nat} {a0_26 : Nat} {a0_29 : Nat} {a0_31 : Nat} {a0_32 : Nat} {a0_34 : Nat} {I0 : Nat → Int32} {J0 : Nat → Int64} {sz : Nat} {Z : (Nat → Int32) → Prop} (hv : v_M_findDate_0 I0 J0 Z) : Met l (⟨"NumberDressModel", "findDate", "()V"⟩ : MethodName) (Cond.code (⟨"NumberDressModel", "findDate", "()V"⟩ : MethodName) prog_14_method_58_code 2 none :: zT) { frames := 2, cells := 0, slots := 0, locals := 41 } (zPc gE (dC, dI) zCl [] [.ref h0] sz [(h0, .inr (12, o_M I0 J0 a0_2 a0_4 a0_5 a0_6 a0_7 a0_8 a0_9 a0_10 a0_11 a0_22 a0_26 a0_29 a0_31 a0_32 a0_34))]) (va_Qv Z (zB (dC, dI) zCl [] (va_A [(h0, .inr (12, o_M I0 J0 a0_2 a0_4 a0_5 a0_6 a0_7 a0_8 a0_9 a0_10 a0_11 a0_22 a0_26 a0_29 a0_31 a0_32 a0_34))] sz) (fun u : (Nat → Int32) => [(h0, .inr (12, o_M u J0 a0_2 a0_4 a0_5 a0_6 a0_7 a0_8 a0_9 a0_10 a0_11 a0_22 a0_26 a0_29 a0_31 a0_32 a0_34))])) (va_A [(h0, .inr (12, o_M I0 J0 a0_2 a0_4 a0_5 a0_6 a0_7 a0_8 a0_9 a0_10 a0_11 a0_22 a0_26 a0_29 a0_31 a0_32 a0_34))] sz)) 0 0 (va_A [(h0, .inr (12, o_M I0 J0 a0_2 a0_4 a0_5 a0_6 a0_7 a0_8 a0_9 a0_10 a0_11 a0_22 a0_26 a0_29 a0_31 a0_32 a0_34))] sz) := by
  refine Met.ofW (cc := prog_14_method_58_code) (maxL := 2) (ret := none) (by decide +kernel) rfl ?_
  intro p e s m args below meth c s₁ B hml hp
  obtain ⟨rfl, hsz, hP, hK, hD0, hE⟩ := hp
  have hts := atoms_spec (ws := (Cond.code (⟨"NumberDressModel", "findDate", "()V"⟩ : MethodName) prog_14_method_58_code 2 none :: zT)) B.pre
  have hown : s.vm.findClass "NumberDressModel" = some m.cls := findClass_of_methodNamed B.named
  have hc : zC p s m _ meth c prog_14_method_58_code none 2 "NumberDressModel" := ⟨B.exec, B.bytes, B.returns, hml, hown, fun w h => hts w (List.mem_cons_of_mem _ h), B.notSynchronized⟩
  subst hsz
  have hD := hD0.self (sz := s.heap.size)
  generalize hAe : va_A [(h0, .inr (12, o_M I0 J0 a0_2 a0_4 a0_5 a0_6 a0_7 a0_8 a0_9 a0_10 a0_11 a0_22 a0_26 a0_29 a0_31 a0_32 a0_34))] s.heap.size = A at hD hE ⊢
  have hA : ∀ q : Nat, s.heap.size ≤ q → A q := fun q h => by rw [← hAe]; exact Or.inr h
  have hl := lv_entry ([.ref h0]) (n := 2) (Nat.le_of_ble_eq_true rfl)
  rw [lg_entry_eq]
  exact b_M_findDate_0 hc hA hE hl hK hP hD va_S.rf hv
end
