section
variable {p : Program} {l : Launch} {e : Env} {s : State} {m : MethodId} {args : Array Value} {below : List Frame} {meth : Method} {c : Code} {dC : Nat → ClassId} {dI : Nat → Nat → Nat} {A : Nat → Prop} {gE : zG}
theorem d_Code_change_0 : decode prog_2_method_8_code 0 = .ok (.iload_n 1, 1) := by decide +kernel
theorem d_Code_change_1 : decode prog_2_method_8_code 1 = .ok (.ifCond .lt 27, 3) := by decide +kernel
theorem d_Code_change_4 : decode prog_2_method_8_code 4 = .ok (.iload_n 1, 1) := by decide +kernel
theorem d_Code_change_5 : decode prog_2_method_8_code 5 = .ok (.aload_n 0, 1) := by decide +kernel
theorem d_Code_change_6 : decode prog_2_method_8_code 6 = .ok (.getfield 29, 3) := by decide +kernel
theorem d_Code_change_9 : decode prog_2_method_8_code 9 = .ok (.if_icmp .ge 19, 3) := by decide +kernel
theorem d_Code_change_12 : decode prog_2_method_8_code 12 = .ok (.iload_n 1, 1) := by decide +kernel
theorem d_Code_change_13 : decode prog_2_method_8_code 13 = .ok (.aload_n 0, 1) := by decide +kernel
theorem d_Code_change_14 : decode prog_2_method_8_code 14 = .ok (.getfield 21, 3) := by decide +kernel
theorem d_Code_change_17 : decode prog_2_method_8_code 17 = .ok (.arraylength, 1) := by decide +kernel
theorem d_Code_change_18 : decode prog_2_method_8_code 18 = .ok (.if_icmp .ge 10, 3) := by decide +kernel
theorem d_Code_change_21 : decode prog_2_method_8_code 21 = .ok (.aload_n 0, 1) := by decide +kernel
theorem d_Code_change_22 : decode prog_2_method_8_code 22 = .ok (.getfield 21, 3) := by decide +kernel
theorem d_Code_change_25 : decode prog_2_method_8_code 25 = .ok (.iload_n 1, 1) := by decide +kernel
theorem d_Code_change_26 : decode prog_2_method_8_code 26 = .ok (.iload_n 2, 1) := by decide +kernel
theorem d_Code_change_27 : decode prog_2_method_8_code 27 = .ok (.iastore, 1) := by decide +kernel
theorem d_Code_change_28 : decode prog_2_method_8_code 28 = .ok (.return_, 1) := by decide +kernel
set_option maxHeartbeats 4000000 in
set_option maxRecDepth 100000 in
theorem b_Code_change_0 {h0 : Nat} {a0_0 : Nat} {a0_3 : Nat} {h1 : Nat} {cA1 : ClassId} {I0 : Nat → Int32} {n1 : Nat} {f1 : Nat → Int32} {x1 : Int32} {x2 : Int32}  {Z : (Nat → Int32) → Prop} {H : Heap} {locs : List Loc} {ls : Array Slot} (hc : zC p s m args meth c prog_2_method_8_code none 3 "NumberDress$Code") (hA : ∀ q : Nat, s.heap.size ≤ q → A q) (hE : zE gE A s) (hl : lv_has ls 3 [(0, .ref h0), (1, .int x1), (2, .int x2)]) (hK : va_K (dC, dI) zCl [(cA1, .int)] s) (hP : va_P (dC, dI) zCl [(h0, .inr (1, o_Code I0 a0_0 h1 a0_3)), (h1, .inl (cA1, n1, .inl f1))] H) (hD : va_D A [(h0, .inr (1, o_Code I0 a0_0 h1 a0_3)), (h1, .inl (cA1, n1, .inl f1))]) (hS : va_S A s.heap H locs) (hv : v_Code_change_0 I0 n1 f1 x1 x2  Z) : W p l e (headSpec (Cond.code (⟨"NumberDress$Code", "change", "(II)V"⟩ : MethodName) prog_2_method_8_code 3 none :: zT) { frames := 0, cells := 0, slots := 0, locals := 0 }).room s m args below meth c H locs 0 0 (MQ below (va_Qv Z (zB (dC, dI) zCl [(cA1, .int)] A (fun u : (Nat → Int32) => [(h0, .inr (1, o_Code I0 a0_0 h1 a0_3)), (h1, .inl (cA1, n1, .inl u))])) A) args s 0 0 A) (F0 m 0 ls []) := by
  obtain ⟨hx, hb, hr, hml, hown, ht, hlocks⟩ := id hc
  unfold v_Code_change_0 at hv
  refine lv_iload_n hx hb d_Code_change_0 rfl (lv_at hl 1 rfl) ?_
  refine lv_if_lt (tgt := 28) hx hb d_Code_change_1 (by decide) (fun c_1 => ?_) (fun c_1 => ?_)
  · have hv := hv.1 c_1
    exact W.vret hx hb hr (fun t ht hW => ⟨⟨(f1), rfl, hv, ⟨by rw [ht]; exact hP, va_K.moved hW.alike hK, hD⟩⟩, hS.F ht⟩) hS.2.2 d_Code_change_28
  · have hv := hv.2 c_1
    refine lv_iload_n hx hb d_Code_change_4 rfl (lv_at hl 1 rfl) ?_
    refine lv_aload_n hx hb d_Code_change_5 rfl (lv_at hl 0 rfl) ?_
    refine va_get (D := (dC, dI)) (ci := 1) (v := .int (I0 4)) (C := "NumberDress$Code") (T := T_Code) (N := 5) hx hb ht zin_Code hown hK hP 0 rfl rfl 4 (by decide) (ht _ zw_248) (fun _ h9 => h9) rfl d_Code_change_6 ?_
    refine lv_icmp_ge (tgt := 28) hx hb d_Code_change_9 (by decide) (fun c_2 => ?_) (fun c_2 => ?_)
    · have hv := hv.1 c_2
      exact W.vret hx hb hr (fun t ht hW => ⟨⟨(f1), rfl, hv, ⟨by rw [ht]; exact hP, va_K.moved hW.alike hK, hD⟩⟩, hS.F ht⟩) hS.2.2 d_Code_change_28
    · have hv := hv.2 c_2
      refine lv_iload_n hx hb d_Code_change_12 rfl (lv_at hl 1 rfl) ?_
      refine lv_aload_n hx hb d_Code_change_13 rfl (lv_at hl 0 rfl) ?_
      refine va_get (D := (dC, dI)) (ci := 1) (v := .ref h1) (C := "NumberDress$Code") (T := T_Code) (N := 5) hx hb ht zin_Code hown hK hP 0 rfl rfl 2 (by decide) (ht _ zw_246) (fun _ h9 => h9) rfl d_Code_change_14 ?_
      refine va_alen (v := (nI n1)) hx hb hK hP 1 0 rfl rfl rfl d_Code_change_17 ?_
      refine lv_icmp_ge (tgt := 28) hx hb d_Code_change_18 (by decide) (fun c_3 => ?_) (fun c_3 => ?_)
      · have hv := hv.1 c_3
        exact W.vret hx hb hr (fun t ht hW => ⟨⟨(f1), rfl, hv, ⟨by rw [ht]; exact hP, va_K.moved hW.alike hK, hD⟩⟩, hS.F ht⟩) hS.2.2 d_Code_change_28
      · have hv := hv.2 c_3
        refine lv_aload_n hx hb d_Code_change_21 rfl (lv_at hl 0 rfl) ?_
        refine va_get (D := (dC, dI)) (ci := 1) (v := .ref h1) (C := "NumberDress$Code") (T := T_Code) (N := 5) hx hb ht zin_Code hown hK hP 0 rfl rfl 2 (by decide) (ht _ zw_246) (fun _ h9 => h9) rfl d_Code_change_22 ?_
        refine lv_iload_n hx hb d_Code_change_25 rfl (lv_at hl 1 rfl) ?_
        refine lv_iload_n hx hb d_Code_change_26 rfl (lv_at hl 2 rfl) ?_
        obtain ⟨q_4, hv⟩ := hv
        refine va_iast hx hb hK hP hD hS 1 0 rfl rfl q_4 d_Code_change_27 (fun H locs hP hD hS => ?_)
        have hP : va_P (dC, dI) zCl [(h0, .inr (1, o_Code I0 a0_0 h1 a0_3)), (h1, .inl (cA1, n1, .inl (upd f1 x1.toNatClampNeg x2)))] H := hP
        have hD : va_D A [(h0, .inr (1, o_Code I0 a0_0 h1 a0_3)), (h1, .inl (cA1, n1, .inl (upd f1 x1.toNatClampNeg x2)))] := hD
        exact W.vret hx hb hr (fun t ht hW => ⟨⟨((upd f1 x1.toNatClampNeg x2)), rfl, hv, ⟨by rw [ht]; exact hP, va_K.moved hW.alike hK, hD⟩⟩, hS.F ht⟩) hS.2.2 d_Code_change_28
theorem zi_Code_change : Cond.code (⟨"NumberDress$Code", "change", "(II)V"⟩ : MethodName) prog_2_method_8_code 3 none ∈ zT := zw_772
theorem zh_Code_change : (((⟨"NumberDress$Code", "change", "(II)V"⟩ : MethodName)).cls ≠ "java/lang/invoke/MethodHandle" ∧ ((⟨"NumberDress$Code", "change", "(II)V"⟩ : MethodName)).cls ≠ "java/lang/invoke/VarHandle" ∧ (parseMethodDescriptor ((⟨"NumberDress$Code", "change", "(II)V"⟩ : MethodName)).desc).map (fun d => d.parameters.length) = some 2) := by decide +kernel
set_option maxHeartbeats 4000000 in
set_option maxRecDepth 100000 in
theorem m_Code_change (l : Launch) (dC : Nat → ClassId) (dI : Nat → Nat → Nat) {gE : zG} {h0 : Nat} {a0_0 : Nat} {a0_3 : Nat} {h1 : Nat} {cA1 : ClassId} {I0 : Nat → Int32} {n1 : Nat} {f1 : Nat → Int32} {x1 : Int32} {x2 : Int32} {sz : Nat} {Z : (Nat → Int32) → Prop} (hv : v_Code_change_0 I0 n1 f1 x1 x2 Z) : Met l (⟨"NumberDress$Code", "change", "(II)V"⟩ : MethodName) (Cond.code (⟨"NumberDress$Code", "change", "(II)V"⟩ : MethodName) prog_2_method_8_code 3 none :: zT) { frames := 0, cells := 0, slots := 0, locals := 0 } (zPc gE (dC, dI) zCl [(cA1, .int)] [.ref h0, .int x1, .int x2] sz [(h0, .inr (1, o_Code I0 a0_0 h1 a0_3)), (h1, .inl (cA1, n1, .inl f1))]) (va_Qv Z (zB (dC, dI) zCl [(cA1, .int)] (va_A [(h0, .inr (1, o_Code I0 a0_0 h1 a0_3)), (h1, .inl (cA1, n1, .inl f1))] sz) (fun u : (Nat → Int32) => [(h0, .inr (1, o_Code I0 a0_0 h1 a0_3)), (h1, .inl (cA1, n1, .inl u))])) (va_A [(h0, .inr (1, o_Code I0 a0_0 h1 a0_3)), (h1, .inl (cA1, n1, .inl f1))] sz)) 0 0 (va_A [(h0, .inr (1, o_Code I0 a0_0 h1 a0_3)), (h1, .inl (cA1, n1, .inl f1))] sz) := by
  refine Met.ofW (cc := prog_2_method_8_code) (maxL := 3) (ret := none) (by decide +kernel) rfl ?_
  intro p e s m args below meth c s₁ B hml hp
  obtain ⟨rfl, hsz, hP, hK, hD0, hE⟩ := hp
  have hts := atoms_spec (ws := (Cond.code (⟨"NumberDress$Code", "change", "(II)V"⟩ : MethodName) prog_2_method_8_code 3 none :: zT)) B.pre
  have hown : s.vm.findClass "NumberDress$Code" = some m.cls := findClass_of_methodNamed B.named
  have hc : zC p s m _ meth c prog_2_method_8_code none 3 "NumberDress$Code" := ⟨B.exec, B.bytes, B.returns, hml, hown, fun w h => hts w (List.mem_cons_of_mem _ h), B.notSynchronized⟩
  subst hsz
  have hD := hD0.self (sz := s.heap.size)
  generalize hAe : va_A [(h0, .inr (1, o_Code I0 a0_0 h1 a0_3)), (h1, .inl (cA1, n1, .inl f1))] s.heap.size = A at hD hE ⊢
  have hA : ∀ q : Nat, s.heap.size ≤ q → A q := fun q h => by rw [← hAe]; exact Or.inr h
  have hl := lv_entry ([.ref h0, .int x1, .int x2]) (n := 3) (Nat.le_of_ble_eq_true rfl)
  rw [lg_entry_eq]
  exact b_Code_change_0 hc hA hE hl hK hP hD va_S.rf hv
theorem d_Code_kind_0 : decode prog_2_method_6_code 0 = .ok (.iload_n 1, 1) := by decide +kernel
theorem d_Code_kind_1 : decode prog_2_method_6_code 1 = .ok (.ifCond .lt 29, 3) := by decide +kernel
theorem d_Code_kind_4 : decode prog_2_method_6_code 4 = .ok (.iload_n 1, 1) := by decide +kernel
theorem d_Code_kind_5 : decode prog_2_method_6_code 5 = .ok (.aload_n 0, 1) := by decide +kernel
theorem d_Code_kind_6 : decode prog_2_method_6_code 6 = .ok (.getfield 29, 3) := by decide +kernel
theorem d_Code_kind_9 : decode prog_2_method_6_code 9 = .ok (.if_icmp .ge 21, 3) := by decide +kernel
theorem d_Code_kind_12 : decode prog_2_method_6_code 12 = .ok (.iload_n 1, 1) := by decide +kernel
theorem d_Code_kind_13 : decode prog_2_method_6_code 13 = .ok (.aload_n 0, 1) := by decide +kernel
theorem d_Code_kind_14 : decode prog_2_method_6_code 14 = .ok (.getfield 21, 3) := by decide +kernel
theorem d_Code_kind_17 : decode prog_2_method_6_code 17 = .ok (.arraylength, 1) := by decide +kernel
theorem d_Code_kind_18 : decode prog_2_method_6_code 18 = .ok (.if_icmp .ge 12, 3) := by decide +kernel
theorem d_Code_kind_21 : decode prog_2_method_6_code 21 = .ok (.aload_n 0, 1) := by decide +kernel
theorem d_Code_kind_22 : decode prog_2_method_6_code 22 = .ok (.getfield 21, 3) := by decide +kernel
theorem d_Code_kind_25 : decode prog_2_method_6_code 25 = .ok (.iload_n 1, 1) := by decide +kernel
theorem d_Code_kind_26 : decode prog_2_method_6_code 26 = .ok (.iaload, 1) := by decide +kernel
theorem d_Code_kind_27 : decode prog_2_method_6_code 27 = .ok (.goto 4, 3) := by decide +kernel
theorem d_Code_kind_30 : decode prog_2_method_6_code 30 = .ok (.iconst 0, 1) := by decide +kernel
theorem d_Code_kind_31 : decode prog_2_method_6_code 31 = .ok (.ireturn, 1) := by decide +kernel
set_option maxHeartbeats 4000000 in
set_option maxRecDepth 100000 in
theorem b_Code_kind_0 {h0 : Nat} {a0_0 : Nat} {a0_3 : Nat} {h1 : Nat} {cA1 : ClassId} {I0 : Nat → Int32} {n1 : Nat} {f1 : Nat → Int32} {x1 : Int32}  {Z : Int32 → Unit → Prop} {H : Heap} {locs : List Loc} {ls : Array Slot} (hc : zC p s m args meth c prog_2_method_6_code (some .int) 2 "NumberDress$Code") (hA : ∀ q : Nat, s.heap.size ≤ q → A q) (hE : zE gE A s) (hl : lv_has ls 2 [(0, .ref h0), (1, .int x1)]) (hK : va_K (dC, dI) zCl [(cA1, .int)] s) (hP : va_P (dC, dI) zCl [(h0, .inr (1, o_Code I0 a0_0 h1 a0_3)), (h1, .inl (cA1, n1, .inl f1))] H) (hD : va_D A [(h0, .inr (1, o_Code I0 a0_0 h1 a0_3)), (h1, .inl (cA1, n1, .inl f1))]) (hS : va_S A s.heap H locs) (hv : v_Code_kind_0 I0 n1 f1 x1  Z) : W p l e (headSpec (Cond.code (⟨"NumberDress$Code", "kind", "(I)I"⟩ : MethodName) prog_2_method_6_code 2 (some .int) :: zT) { frames := 0, cells := 0, slots := 0, locals := 0 }).room s m args below meth c H locs 0 0 (MQ below (va_Qi Z (zB (dC, dI) zCl [(cA1, .int)] A (fun u : Unit => [(h0, .inr (1, o_Code I0 a0_0 h1 a0_3)), (h1, .inl (cA1, n1, .inl f1))])) A) args s 0 0 A) (F0 m 0 ls []) := by
  obtain ⟨hx, hb, hr, hml, hown, ht, hlocks⟩ := id hc
  unfold v_Code_kind_0 at hv
  refine lv_iload_n hx hb d_Code_kind_0 rfl (lv_at hl 1 rfl) ?_
  refine lv_if_lt (tgt := 30) hx hb d_Code_kind_1 (by decide) (fun c_1 => ?_) (fun c_1 => ?_)
  · have hv := hv.1 c_1
    refine lv_iconst (v := (0 : Int32)) hx hb d_Code_kind_30 (by decide) ?_
    exact W.iret (v := (0 : Int32)) hx hb hr (fun t ht hW => ⟨⟨_, (), rfl, hv, ⟨by rw [ht]; exact hP, va_K.moved hW.alike hK, hD⟩⟩, hS.F ht⟩) hS.2.2 d_Code_kind_31
  · have hv := hv.2 c_1
    refine lv_iload_n hx hb d_Code_kind_4 rfl (lv_at hl 1 rfl) ?_
    refine lv_aload_n hx hb d_Code_kind_5 rfl (lv_at hl 0 rfl) ?_
    refine va_get (D := (dC, dI)) (ci := 1) (v := .int (I0 4)) (C := "NumberDress$Code") (T := T_Code) (N := 5) hx hb ht zin_Code hown hK hP 0 rfl rfl 4 (by decide) (ht _ zw_248) (fun _ h9 => h9) rfl d_Code_kind_6 ?_
    refine lv_icmp_ge (tgt := 30) hx hb d_Code_kind_9 (by decide) (fun c_2 => ?_) (fun c_2 => ?_)
    · have hv := hv.1 c_2
      refine lv_iconst (v := (0 : Int32)) hx hb d_Code_kind_30 (by decide) ?_
      exact W.iret (v := (0 : Int32)) hx hb hr (fun t ht hW => ⟨⟨_, (), rfl, hv, ⟨by rw [ht]; exact hP, va_K.moved hW.alike hK, hD⟩⟩, hS.F ht⟩) hS.2.2 d_Code_kind_31
    · have hv := hv.2 c_2
      refine lv_iload_n hx hb d_Code_kind_12 rfl (lv_at hl 1 rfl) ?_
      refine lv_aload_n hx hb d_Code_kind_13 rfl (lv_at hl 0 rfl) ?_
      refine va_get (D := (dC, dI)) (ci := 1) (v := .ref h1) (C := "NumberDress$Code") (T := T_Code) (N := 5) hx hb ht zin_Code hown hK hP 0 rfl rfl 2 (by decide) (ht _ zw_246) (fun _ h9 => h9) rfl d_Code_kind_14 ?_
      refine va_alen (v := (nI n1)) hx hb hK hP 1 0 rfl rfl rfl d_Code_kind_17 ?_
      refine lv_icmp_ge (tgt := 30) hx hb d_Code_kind_18 (by decide) (fun c_3 => ?_) (fun c_3 => ?_)
      · have hv := hv.1 c_3
        refine lv_iconst (v := (0 : Int32)) hx hb d_Code_kind_30 (by decide) ?_
        exact W.iret (v := (0 : Int32)) hx hb hr (fun t ht hW => ⟨⟨_, (), rfl, hv, ⟨by rw [ht]; exact hP, va_K.moved hW.alike hK, hD⟩⟩, hS.F ht⟩) hS.2.2 d_Code_kind_31
      · have hv := hv.2 c_3
        refine lv_aload_n hx hb d_Code_kind_21 rfl (lv_at hl 0 rfl) ?_
        refine va_get (D := (dC, dI)) (ci := 1) (v := .ref h1) (C := "NumberDress$Code") (T := T_Code) (N := 5) hx hb ht zin_Code hown hK hP 0 rfl rfl 2 (by decide) (ht _ zw_246) (fun _ h9 => h9) rfl d_Code_kind_22 ?_
        refine lv_iload_n hx hb d_Code_kind_25 rfl (lv_at hl 1 rfl) ?_
        obtain ⟨q_4, hv⟩ := hv
        refine va_iald hx hb hK hP 1 0 rfl rfl q_4 d_Code_kind_26 ?_
        refine lv_goto (tgt := 31) hx hb d_Code_kind_27 (by decide) ?_
        exact W.iret (v := (f1 x1.toNatClampNeg)) hx hb hr (fun t ht hW => ⟨⟨_, (), rfl, hv, ⟨by rw [ht]; exact hP, va_K.moved hW.alike hK, hD⟩⟩, hS.F ht⟩) hS.2.2 d_Code_kind_31
theorem zi_Code_kind : Cond.code (⟨"NumberDress$Code", "kind", "(I)I"⟩ : MethodName) prog_2_method_6_code 2 (some .int) ∈ zT := zw_741
theorem zh_Code_kind : (((⟨"NumberDress$Code", "kind", "(I)I"⟩ : MethodName)).cls ≠ "java/lang/invoke/MethodHandle" ∧ ((⟨"NumberDress$Code", "kind", "(I)I"⟩ : MethodName)).cls ≠ "java/lang/invoke/VarHandle" ∧ (parseMethodDescriptor ((⟨"NumberDress$Code", "kind", "(I)I"⟩ : MethodName)).desc).map (fun d => d.parameters.length) = some 1) := by decide +kernel
set_option maxHeartbeats 4000000 in
set_option maxRecDepth 100000 in
theorem m_Code_kind (l : Launch) (dC : Nat → ClassId) (dI : Nat → Nat → Nat) {gE : zG} {h0 : Nat} {a0_0 : Nat} {a0_3 : Nat} {h1 : Nat} {cA1 : ClassId} {I0 : Nat → Int32} {n1 : Nat} {f1 : Nat → Int32} {x1 : Int32} {sz : Nat} {Z : Int32 → Unit → Prop} (hv : v_Code_kind_0 I0 n1 f1 x1 Z) : Met l (⟨"NumberDress$Code", "kind", "(I)I"⟩ : MethodName) (Cond.code (⟨"NumberDress$Code", "kind", "(I)I"⟩ : MethodName) prog_2_method_6_code 2 (some .int) :: zT) { frames := 0, cells := 0, slots := 0, locals := 0 } (zPc gE (dC, dI) zCl [(cA1, .int)] [.ref h0, .int x1] sz [(h0, .inr (1, o_Code I0 a0_0 h1 a0_3)), (h1, .inl (cA1, n1, .inl f1))]) (va_Qi Z (zB (dC, dI) zCl [(cA1, .int)] (va_A [(h0, .inr (1, o_Code I0 a0_0 h1 a0_3)), (h1, .inl (cA1, n1, .inl f1))] sz) (fun u : Unit => [(h0, .inr (1, o_Code I0 a0_0 h1 a0_3)), (h1, .inl (cA1, n1, .inl f1))])) (va_A [(h0, .inr (1, o_Code I0 a0_0 h1 a0_3)), (h1, .inl (cA1, n1, .inl f1))] sz)) 0 0 (va_A [(h0, .inr (1, o_Code I0 a0_0 h1 a0_3)), (h1, .inl (cA1, n1, .inl f1))] sz) := by
  refine Met.ofW (cc := prog_2_method_6_code) (maxL := 2) (ret := (some .int)) (by decide +kernel) rfl ?_
  intro p e s m args below meth c s₁ B hml hp
  obtain ⟨rfl, hsz, hP, hK, hD0, hE⟩ := hp
  have hts := atoms_spec (ws := (Cond.code (⟨"NumberDress$Code", "kind", "(I)I"⟩ : MethodName) prog_2_method_6_code 2 (some .int) :: zT)) B.pre
  have hown : s.vm.findClass "NumberDress$Code" = some m.cls := findClass_of_methodNamed B.named
  have hc : zC p s m _ meth c prog_2_method_6_code (some .int) 2 "NumberDress$Code" := ⟨B.exec, B.bytes, B.returns, hml, hown, fun w h => hts w (List.mem_cons_of_mem _ h), B.notSynchronized⟩
  subst hsz
  have hD := hD0.self (sz := s.heap.size)
  generalize hAe : va_A [(h0, .inr (1, o_Code I0 a0_0 h1 a0_3)), (h1, .inl (cA1, n1, .inl f1))] s.heap.size = A at hD hE ⊢
  have hA : ∀ q : Nat, s.heap.size ≤ q → A q := fun q h => by rw [← hAe]; exact Or.inr h
  have hl := lv_entry ([.ref h0, .int x1]) (n := 2) (Nat.le_of_ble_eq_true rfl)
  rw [lg_entry_eq]
  exact b_Code_kind_0 hc hA hE hl hK hP hD va_S.rf hv
theorem d_Code_mark_0 : decode prog_2_method_7_code 0 = .ok (.iload_n 1, 1) := by decide +kernel
theorem d_Code_mark_1 : decode prog_2_method_7_code 1 = .ok (.ifCond .lt 29, 3) := by decide +kernel
theorem d_Code_mark_4 : decode prog_2_method_7_code 4 = .ok (.iload_n 1, 1) := by decide +kernel
theorem d_Code_mark_5 : decode prog_2_method_7_code 5 = .ok (.aload_n 0, 1) := by decide +kernel
theorem d_Code_mark_6 : decode prog_2_method_7_code 6 = .ok (.getfield 29, 3) := by decide +kernel
theorem d_Code_mark_9 : decode prog_2_method_7_code 9 = .ok (.if_icmp .ge 21, 3) := by decide +kernel
theorem d_Code_mark_12 : decode prog_2_method_7_code 12 = .ok (.iload_n 1, 1) := by decide +kernel
theorem d_Code_mark_13 : decode prog_2_method_7_code 13 = .ok (.aload_n 0, 1) := by decide +kernel
theorem d_Code_mark_14 : decode prog_2_method_7_code 14 = .ok (.getfield 25, 3) := by decide +kernel
theorem d_Code_mark_17 : decode prog_2_method_7_code 17 = .ok (.arraylength, 1) := by decide +kernel
theorem d_Code_mark_18 : decode prog_2_method_7_code 18 = .ok (.if_icmp .ge 12, 3) := by decide +kernel
theorem d_Code_mark_21 : decode prog_2_method_7_code 21 = .ok (.aload_n 0, 1) := by decide +kernel
theorem d_Code_mark_22 : decode prog_2_method_7_code 22 = .ok (.getfield 25, 3) := by decide +kernel
theorem d_Code_mark_25 : decode prog_2_method_7_code 25 = .ok (.iload_n 1, 1) := by decide +kernel
theorem d_Code_mark_26 : decode prog_2_method_7_code 26 = .ok (.iaload, 1) := by decide +kernel
theorem d_Code_mark_27 : decode prog_2_method_7_code 27 = .ok (.goto 4, 3) := by decide +kernel
theorem d_Code_mark_30 : decode prog_2_method_7_code 30 = .ok (.iconst 0, 1) := by decide +kernel
theorem d_Code_mark_31 : decode prog_2_method_7_code 31 = .ok (.ireturn, 1) := by decide +kernel
set_option maxHeartbeats 4000000 in
set_option maxRecDepth 100000 in
theorem b_Code_mark_0 {h0 : Nat} {a0_0 : Nat} {a0_2 : Nat} {h1 : Nat} {cA1 : ClassId} {I0 : Nat → Int32} {n1 : Nat} {f1 : Nat → Int32} {x1 : Int32}  {Z : Int32 → Unit → Prop} {H : Heap} {locs : List Loc} {ls : Array Slot} (hc : zC p s m args meth c prog_2_method_7_code (some .int) 2 "NumberDress$Code") (hA : ∀ q : Nat, s.heap.size ≤ q → A q) (hE : zE gE A s) (hl : lv_has ls 2 [(0, .ref h0), (1, .int x1)]) (hK : va_K (dC, dI) zCl [(cA1, .int)] s) (hP : va_P (dC, dI) zCl [(h0, .inr (1, o_Code I0 a0_0 a0_2 h1)), (h1, .inl (cA1, n1, .inl f1))] H) (hD : va_D A [(h0, .inr (1, o_Code I0 a0_0 a0_2 h1)), (h1, .inl (cA1, n1, .inl f1))]) (hS : va_S A s.heap H locs) (hv : v_Code_mark_0 I0 n1 f1 x1  Z) : W p l e (headSpec (Cond.code (⟨"NumberDress$Code", "mark", "(I)I"⟩ : MethodName) prog_2_method_7_code 2 (some .int) :: zT) { frames := 0, cells := 0, slots := 0, locals := 0 }).room s m args below meth c H locs 0 0 (MQ below (va_Qi Z (zB (dC, dI) zCl [(cA1, .int)] A (fun u : Unit => [(h0, .inr (1, o_Code I0 a0_0 a0_2 h1)), (h1, .inl (cA1, n1, .inl f1))])) A) args s 0 0 A) (F0 m 0 ls []) := by
  obtain ⟨hx, hb, hr, hml, hown, ht, hlocks⟩ := id hc
  unfold v_Code_mark_0 at hv
  refine lv_iload_n hx hb d_Code_mark_0 rfl (lv_at hl 1 rfl) ?_
  refine lv_if_lt (tgt := 30) hx hb d_Code_mark_1 (by decide) (fun c_1 => ?_) (fun c_1 => ?_)
  · have hv := hv.1 c_1
    refine lv_iconst (v := (0 : Int32)) hx hb d_Code_mark_30 (by decide) ?_
    exact W.iret (v := (0 : Int32)) hx hb hr (fun t ht hW => ⟨⟨_, (), rfl, hv, ⟨by rw [ht]; exact hP, va_K.moved hW.alike hK, hD⟩⟩, hS.F ht⟩) hS.2.2 d_Code_mark_31
  · have hv := hv.2 c_1
    refine lv_iload_n hx hb d_Code_mark_4 rfl (lv_at hl 1 rfl) ?_
    refine lv_aload_n hx hb d_Code_mark_5 rfl (lv_at hl 0 rfl) ?_
    refine va_get (D := (dC, dI)) (ci := 1) (v := .int (I0 4)) (C := "NumberDress$Code") (T := T_Code) (N := 5) hx hb ht zin_Code hown hK hP 0 rfl rfl 4 (by decide) (ht _ zw_248) (fun _ h9 => h9) rfl d_Code_mark_6 ?_
    refine lv_icmp_ge (tgt := 30) hx hb d_Code_mark_9 (by decide) (fun c_2 => ?_) (fun c_2 => ?_)
    · have hv := hv.1 c_2
      refine lv_iconst (v := (0 : Int32)) hx hb d_Code_mark_30 (by decide) ?_
      exact W.iret (v := (0 : Int32)) hx hb hr (fun t ht hW => ⟨⟨_, (), rfl, hv, ⟨by rw [ht]; exact hP, va_K.moved hW.alike hK, hD⟩⟩, hS.F ht⟩) hS.2.2 d_Code_mark_31
    · have hv := hv.2 c_2
      refine lv_iload_n hx hb d_Code_mark_12 rfl (lv_at hl 1 rfl) ?_
      refine lv_aload_n hx hb d_Code_mark_13 rfl (lv_at hl 0 rfl) ?_
      refine va_get (D := (dC, dI)) (ci := 1) (v := .ref h1) (C := "NumberDress$Code") (T := T_Code) (N := 5) hx hb ht zin_Code hown hK hP 0 rfl rfl 3 (by decide) (ht _ zw_247) (fun _ h9 => h9) rfl d_Code_mark_14 ?_
      refine va_alen (v := (nI n1)) hx hb hK hP 1 0 rfl rfl rfl d_Code_mark_17 ?_
      refine lv_icmp_ge (tgt := 30) hx hb d_Code_mark_18 (by decide) (fun c_3 => ?_) (fun c_3 => ?_)
      · have hv := hv.1 c_3
        refine lv_iconst (v := (0 : Int32)) hx hb d_Code_mark_30 (by decide) ?_
        exact W.iret (v := (0 : Int32)) hx hb hr (fun t ht hW => ⟨⟨_, (), rfl, hv, ⟨by rw [ht]; exact hP, va_K.moved hW.alike hK, hD⟩⟩, hS.F ht⟩) hS.2.2 d_Code_mark_31
      · have hv := hv.2 c_3
        refine lv_aload_n hx hb d_Code_mark_21 rfl (lv_at hl 0 rfl) ?_
        refine va_get (D := (dC, dI)) (ci := 1) (v := .ref h1) (C := "NumberDress$Code") (T := T_Code) (N := 5) hx hb ht zin_Code hown hK hP 0 rfl rfl 3 (by decide) (ht _ zw_247) (fun _ h9 => h9) rfl d_Code_mark_22 ?_
        refine lv_iload_n hx hb d_Code_mark_25 rfl (lv_at hl 1 rfl) ?_
        obtain ⟨q_4, hv⟩ := hv
        refine va_iald hx hb hK hP 1 0 rfl rfl q_4 d_Code_mark_26 ?_
        refine lv_goto (tgt := 31) hx hb d_Code_mark_27 (by decide) ?_
        exact W.iret (v := (f1 x1.toNatClampNeg)) hx hb hr (fun t ht hW => ⟨⟨_, (), rfl, hv, ⟨by rw [ht]; exact hP, va_K.moved hW.alike hK, hD⟩⟩, hS.F ht⟩) hS.2.2 d_Code_mark_31
theorem zi_Code_mark : Cond.code (⟨"NumberDress$Code", "mark", "(I)I"⟩ : MethodName) prog_2_method_7_code 2 (some .int) ∈ zT := zw_808
theorem zh_Code_mark : (((⟨"NumberDress$Code", "mark", "(I)I"⟩ : MethodName)).cls ≠ "java/lang/invoke/MethodHandle" ∧ ((⟨"NumberDress$Code", "mark", "(I)I"⟩ : MethodName)).cls ≠ "java/lang/invoke/VarHandle" ∧ (parseMethodDescriptor ((⟨"NumberDress$Code", "mark", "(I)I"⟩ : MethodName)).desc).map (fun d => d.parameters.length) = some 1) := by decide +kernel
set_option maxHeartbeats 4000000 in
set_option maxRecDepth 100000 in
theorem m_Code_mark (l : Launch) (dC : Nat → ClassId) (dI : Nat → Nat → Nat) {gE : zG} {h0 : Nat} {a0_0 : Nat} {a0_2 : Nat} {h1 : Nat} {cA1 : ClassId} {I0 : Nat → Int32} {n1 : Nat} {f1 : Nat → Int32} {x1 : Int32} {sz : Nat} {Z : Int32 → Unit → Prop} (hv : v_Code_mark_0 I0 n1 f1 x1 Z) : Met l (⟨"NumberDress$Code", "mark", "(I)I"⟩ : MethodName) (Cond.code (⟨"NumberDress$Code", "mark", "(I)I"⟩ : MethodName) prog_2_method_7_code 2 (some .int) :: zT) { frames := 0, cells := 0, slots := 0, locals := 0 } (zPc gE (dC, dI) zCl [(cA1, .int)] [.ref h0, .int x1] sz [(h0, .inr (1, o_Code I0 a0_0 a0_2 h1)), (h1, .inl (cA1, n1, .inl f1))]) (va_Qi Z (zB (dC, dI) zCl [(cA1, .int)] (va_A [(h0, .inr (1, o_Code I0 a0_0 a0_2 h1)), (h1, .inl (cA1, n1, .inl f1))] sz) (fun u : Unit => [(h0, .inr (1, o_Code I0 a0_0 a0_2 h1)), (h1, .inl (cA1, n1, .inl f1))])) (va_A [(h0, .inr (1, o_Code I0 a0_0 a0_2 h1)), (h1, .inl (cA1, n1, .inl f1))] sz)) 0 0 (va_A [(h0, .inr (1, o_Code I0 a0_0 a0_2 h1)), (h1, .inl (cA1, n1, .inl f1))] sz) := by
  refine Met.ofW (cc := prog_2_method_7_code) (maxL := 2) (ret := (some .int)) (by decide +kernel) rfl ?_
  intro p e s m args below meth c s₁ B hml hp
  obtain ⟨rfl, hsz, hP, hK, hD0, hE⟩ := hp
  have hts := atoms_spec (ws := (Cond.code (⟨"NumberDress$Code", "mark", "(I)I"⟩ : MethodName) prog_2_method_7_code 2 (some .int) :: zT)) B.pre
  have hown : s.vm.findClass "NumberDress$Code" = some m.cls := findClass_of_methodNamed B.named
  have hc : zC p s m _ meth c prog_2_method_7_code (some .int) 2 "NumberDress$Code" := ⟨B.exec, B.bytes, B.returns, hml, hown, fun w h => hts w (List.mem_cons_of_mem _ h), B.notSynchronized⟩
  subst hsz
  have hD := hD0.self (sz := s.heap.size)
  generalize hAe : va_A [(h0, .inr (1, o_Code I0 a0_0 a0_2 h1)), (h1, .inl (cA1, n1, .inl f1))] s.heap.size = A at hD hE ⊢
  have hA : ∀ q : Nat, s.heap.size ≤ q → A q := fun q h => by rw [← hAe]; exact Or.inr h
  have hl := lv_entry ([.ref h0, .int x1]) (n := 2) (Nat.le_of_ble_eq_true rfl)
  rw [lg_entry_eq]
  exact b_Code_mark_0 hc hA hE hl hK hP hD va_S.rf hv
theorem d_Reader_isBeforeSeconds_0 : decode prog_9_method_32_code 0 = .ok (.iload_n 1, 1) := by decide +kernel
theorem d_Reader_isBeforeSeconds_1 : decode prog_9_method_32_code 1 = .ok (.iconst 1, 1) := by decide +kernel
theorem d_Reader_isBeforeSeconds_2 : decode prog_9_method_32_code 2 = .ok (.iadd, 1) := by decide +kernel
theorem d_Reader_isBeforeSeconds_3 : decode prog_9_method_32_code 3 = .ok (.istore_n 2, 1) := by decide +kernel
theorem d_Reader_isBeforeSeconds_4 : decode prog_9_method_32_code 4 = .ok (.iload_n 2, 1) := by decide +kernel
theorem d_Reader_isBeforeSeconds_5 : decode prog_9_method_32_code 5 = .ok (.aload_n 0, 1) := by decide +kernel
theorem d_Reader_isBeforeSeconds_6 : decode prog_9_method_32_code 6 = .ok (.getfield 25, 3) := by decide +kernel
theorem d_Reader_isBeforeSeconds_9 : decode prog_9_method_32_code 9 = .ok (.getfield 80, 3) := by decide +kernel
theorem d_Reader_isBeforeSeconds_12 : decode prog_9_method_32_code 12 = .ok (.if_icmp .ge 22, 3) := by decide +kernel
theorem d_Reader_isBeforeSeconds_15 : decode prog_9_method_32_code 15 = .ok (.aload_n 0, 1) := by decide +kernel
theorem d_Reader_isBeforeSeconds_16 : decode prog_9_method_32_code 16 = .ok (.getfield 18, 3) := by decide +kernel
theorem d_Reader_isBeforeSeconds_19 : decode prog_9_method_32_code 19 = .ok (.iload_n 2, 1) := by decide +kernel
theorem d_Reader_isBeforeSeconds_20 : decode prog_9_method_32_code 20 = .ok (.invokevirtual 213, 3) := by decide +kernel
theorem d_Reader_isBeforeSeconds_23 : decode prog_9_method_32_code 23 = .ok (.bipush 20, 2) := by decide +kernel
theorem d_Reader_isBeforeSeconds_25 : decode prog_9_method_32_code 25 = .ok (.if_icmp .ge 9, 3) := by decide +kernel
theorem d_Reader_isBeforeSeconds_28 : decode prog_9_method_32_code 28 = .ok (.iinc 2 1, 3) := by decide +kernel
theorem d_Reader_isBeforeSeconds_31 : decode prog_9_method_32_code 31 = .ok (.goto (-27), 3) := by decide +kernel
theorem d_Reader_isBeforeSeconds_34 : decode prog_9_method_32_code 34 = .ok (.iload_n 2, 1) := by decide +kernel
theorem d_Reader_isBeforeSeconds_35 : decode prog_9_method_32_code 35 = .ok (.aload_n 0, 1) := by decide +kernel
theorem d_Reader_isBeforeSeconds_36 : decode prog_9_method_32_code 36 = .ok (.getfield 25, 3) := by decide +kernel
theorem d_Reader_isBeforeSeconds_39 : decode prog_9_method_32_code 39 = .ok (.getfield 80, 3) := by decide +kernel
theorem d_Reader_isBeforeSeconds_42 : decode prog_9_method_32_code 42 = .ok (.if_icmp .ge 14, 3) := by decide +kernel
theorem d_Reader_isBeforeSeconds_45 : decode prog_9_method_32_code 45 = .ok (.aload_n 0, 1) := by decide +kernel
theorem d_Reader_isBeforeSeconds_46 : decode prog_9_method_32_code 46 = .ok (.getfield 18, 3) := by decide +kernel
theorem d_Reader_isBeforeSeconds_49 : decode prog_9_method_32_code 49 = .ok (.iload_n 2, 1) := by decide +kernel
theorem d_Reader_isBeforeSeconds_50 : decode prog_9_method_32_code 50 = .ok (.invokevirtual 213, 3) := by decide +kernel
theorem d_Reader_isBeforeSeconds_53 : decode prog_9_method_32_code 53 = .ok (.goto 4, 3) := by decide +kernel
theorem d_Reader_isBeforeSeconds_56 : decode prog_9_method_32_code 56 = .ok (.iconst 0, 1) := by decide +kernel
theorem d_Reader_isBeforeSeconds_57 : decode prog_9_method_32_code 57 = .ok (.istore_n 3, 1) := by decide +kernel
theorem d_Reader_isBeforeSeconds_58 : decode prog_9_method_32_code 58 = .ok (.iload_n 3, 1) := by decide +kernel
theorem d_Reader_isBeforeSeconds_59 : decode prog_9_method_32_code 59 = .ok (.bipush 25, 2) := by decide +kernel
theorem d_Reader_isBeforeSeconds_61 : decode prog_9_method_32_code 61 = .ok (.if_icmp .eq 9, 3) := by decide +kernel
theorem d_Reader_isBeforeSeconds_64 : decode prog_9_method_32_code 64 = .ok (.iload_n 3, 1) := by decide +kernel
theorem d_Reader_isBeforeSeconds_65 : decode prog_9_method_32_code 65 = .ok (.bipush 28, 2) := by decide +kernel
theorem d_Reader_isBeforeSeconds_67 : decode prog_9_method_32_code 67 = .ok (.if_icmp .ne 7, 3) := by decide +kernel
theorem d_Reader_isBeforeSeconds_70 : decode prog_9_method_32_code 70 = .ok (.iconst 1, 1) := by decide +kernel
theorem d_Reader_isBeforeSeconds_71 : decode prog_9_method_32_code 71 = .ok (.goto 4, 3) := by decide +kernel
theorem d_Reader_isBeforeSeconds_74 : decode prog_9_method_32_code 74 = .ok (.iconst 0, 1) := by decide +kernel
theorem d_Reader_isBeforeSeconds_75 : decode prog_9_method_32_code 75 = .ok (.ireturn, 1) := by decide +kernel
set_option maxHeartbeats 4000000 in
set_option maxRecDepth 100000 in
theorem b_Reader_isBeforeSeconds_57 {h0 : Nat} {a0_0 : Nat} {h1 : Nat} {h2 : Nat} {a2_0 : Nat} {a2_3 : Nat} {h3 : Nat} {cA3 : ClassId} {I0 : Nat → Int32} {I1 : Nat → Int32} {I2 : Nat → Int32} {n3 : Nat} {f3 : Nat → Int32} {s0 : Int32}  {Z : Int32 → Unit → Prop} {H : Heap} {locs : List Loc} {ls : Array Slot} (hc : zC p s m args meth c prog_9_method_32_code (some .boolean) 4 "NumberDress$Reader") (hA : ∀ q : Nat, s.heap.size ≤ q → A q) (hE : zE gE A s) (hl : lv_has ls 4 []) (hK : va_K (dC, dI) zCl [(cA3, .int)] s) (hP : va_P (dC, dI) zCl [(h0, .inr (8, o_Reader I0 a0_0 h2 h1)), (h1, .inr (9, o_Section I1)), (h2, .inr (1, o_Code I2 a2_0 h3 a2_3)), (h3, .inl (cA3, n3, .inl f3))] H) (hD : va_D A [(h0, .inr (8, o_Reader I0 a0_0 h2 h1)), (h1, .inr (9, o_Section I1)), (h2, .inr (1, o_Code I2 a2_0 h3 a2_3)), (h3, .inl (cA3, n3, .inl f3))]) (hS : va_S A s.heap H locs) (hv : v_Reader_isBeforeSeconds_57 I0 I1 I2 n3 f3 s0  Z) : W p l e (headSpec (Cond.code (⟨"NumberDress$Reader", "isBeforeSeconds", "(I)Z"⟩ : MethodName) prog_9_method_32_code 4 (some .boolean) :: zT) { frames := 1, cells := 0, slots := 0, locals := 21 }).room s m args below meth c H locs 0 0 (MQ below (va_Qi Z (zB (dC, dI) zCl [(cA3, .int)] A (fun u : Unit => [(h0, .inr (8, o_Reader I0 a0_0 h2 h1)), (h1, .inr (9, o_Section I1)), (h2, .inr (1, o_Code I2 a2_0 h3 a2_3)), (h3, .inl (cA3, n3, .inl f3))])) A) args s 0 0 A) (F0 m 57 ls [.int s0]) := by
  obtain ⟨hx, hb, hr, hml, hown, ht, hlocks⟩ := id hc
  unfold v_Reader_isBeforeSeconds_57 at hv
  refine lv_istore_n (lv' := [(3, .int s0)]) hx hb d_Reader_isBeforeSeconds_57 rfl hl (by decide) rfl (fun ls hl => ?_)
  refine lv_iload_n hx hb d_Reader_isBeforeSeconds_58 rfl (lv_at hl 0 rfl) ?_
  refine lv_bipush (v := (25 : Int32)) hx hb d_Reader_isBeforeSeconds_59 (by decide) ?_
  refine lv_icmp_eq (tgt := 70) hx hb d_Reader_isBeforeSeconds_61 (by decide) (fun c_1 => ?_) (fun c_1 => ?_)
  · have hv := hv.1 c_1
    refine lv_iconst (v := (1 : Int32)) hx hb d_Reader_isBeforeSeconds_70 (by decide) ?_
    refine lv_goto (tgt := 75) hx hb d_Reader_isBeforeSeconds_71 (by decide) ?_
    exact W.zret (v := (1 : Int32)) hx hb hr (by decide) (fun t ht hW => ⟨⟨_, (), rfl, hv, ⟨by rw [ht]; exact hP, va_K.moved hW.alike hK, hD⟩⟩, hS.F ht⟩) hS.2.2 d_Reader_isBeforeSeconds_75
  · have hv := hv.2 c_1
    refine lv_iload_n hx hb d_Reader_isBeforeSeconds_64 rfl (lv_at hl 0 rfl) ?_
    refine lv_bipush (v := (28 : Int32)) hx hb d_Reader_isBeforeSeconds_65 (by decide) ?_
    refine lv_icmp_ne (tgt := 74) hx hb d_Reader_isBeforeSeconds_67 (by decide) (fun c_2 => ?_) (fun c_2 => ?_)
    · have hv := hv.1 c_2
      refine lv_iconst (v := (0 : Int32)) hx hb d_Reader_isBeforeSeconds_74 (by decide) ?_
      exact W.zret (v := (0 : Int32)) hx hb hr (by decide) (fun t ht hW => ⟨⟨_, (), rfl, hv, ⟨by rw [ht]; exact hP, va_K.moved hW.alike hK, hD⟩⟩, hS.F ht⟩) hS.2.2 d_Reader_isBeforeSeconds_75
    · have hv := hv.2 c_2
      refine lv_iconst (v := (1 : Int32)) hx hb d_Reader_isBeforeSeconds_70 (by decide) ?_
      refine lv_goto (tgt := 75) hx hb d_Reader_isBeforeSeconds_71 (by decide) ?_
      exact W.zret (v := (1 : Int32)) hx hb hr (by decide) (fun t ht hW => ⟨⟨_, (), rfl, hv, ⟨by rw [ht]; exact hP, va_K.moved hW.alike hK, hD⟩⟩, hS.F ht⟩) hS.2.2 d_Reader_isBeforeSeconds_75
set_option maxHeartbeats 4000000 in
set_option maxRecDepth 100000 in
theorem b_Reader_isBeforeSeconds_53 {h0 : Nat} {a0_0 : Nat} {h1 : Nat} {h2 : Nat} {a2_0 : Nat} {a2_3 : Nat} {h3 : Nat} {cA3 : ClassId} {I0 : Nat → Int32} {I1 : Nat → Int32} {I2 : Nat → Int32} {n3 : Nat} {f3 : Nat → Int32} {s0 : Int32}  {Z : Int32 → Unit → Prop} {H : Heap} {locs : List Loc} {ls : Array Slot} (hc : zC p s m args meth c prog_9_method_32_code (some .boolean) 4 "NumberDress$Reader") (hA : ∀ q : Nat, s.heap.size ≤ q → A q) (hE : zE gE A s) (hl : lv_has ls 4 []) (hK : va_K (dC, dI) zCl [(cA3, .int)] s) (hP : va_P (dC, dI) zCl [(h0, .inr (8, o_Reader I0 a0_0 h2 h1)), (h1, .inr (9, o_Section I1)), (h2, .inr (1, o_Code I2 a2_0 h3 a2_3)), (h3, .inl (cA3, n3, .inl f3))] H) (hD : va_D A [(h0, .inr (8, o_Reader I0 a0_0 h2 h1)), (h1, .inr (9, o_Section I1)), (h2, .inr (1, o_Code I2 a2_0 h3 a2_3)), (h3, .inl (cA3, n3, .inl f3))]) (hS : va_S A s.heap H locs) (hv : v_Reader_isBeforeSeconds_53 I0 I1 I2 n3 f3 s0  Z) : W p l e (headSpec (Cond.code (⟨"NumberDress$Reader", "isBeforeSeconds", "(I)Z"⟩ : MethodName) prog_9_method_32_code 4 (some .boolean) :: zT) { frames := 1, cells := 0, slots := 0, locals := 21 }).room s m args below meth c H locs 0 0 (MQ below (va_Qi Z (zB (dC, dI) zCl [(cA3, .int)] A (fun u : Unit => [(h0, .inr (8, o_Reader I0 a0_0 h2 h1)), (h1, .inr (9, o_Section I1)), (h2, .inr (1, o_Code I2 a2_0 h3 a2_3)), (h3, .inl (cA3, n3, .inl f3))])) A) args s 0 0 A) (F0 m 53 ls [.int s0]) := by
  obtain ⟨hx, hb, hr, hml, hown, ht, hlocks⟩ := id hc
  unfold v_Reader_isBeforeSeconds_53 at hv
  refine lv_goto (tgt := 57) hx hb d_Reader_isBeforeSeconds_53 (by decide) ?_
  exact b_Reader_isBeforeSeconds_57 hc hA hE  (lv_sub hl [] rfl) hK hP hD hS hv
set_option maxHeartbeats 4000000 in
set_option maxRecDepth 100000 in
theorem b_Reader_isBeforeSeconds_34 {h0 : Nat} {a0_0 : Nat} {h1 : Nat} {h2 : Nat} {a2_0 : Nat} {a2_3 : Nat} {h3 : Nat} {cA3 : ClassId} {I0 : Nat → Int32} {I1 : Nat → Int32} {I2 : Nat → Int32} {n3 : Nat} {f3 : Nat → Int32} {x2 : Int32}  {Z : Int32 → Unit → Prop} {H : Heap} {locs : List Loc} {ls : Array Slot} (hc : zC p s m args meth c prog_9_method_32_code (some .boolean) 4 "NumberDress$Reader") (hA : ∀ q : Nat, s.heap.size ≤ q → A q) (hE : zE gE A s) (hl : lv_has ls 4 [(0, .ref h0), (2, .int x2)]) (hK : va_K (dC, dI) zCl [(cA3, .int)] s) (hP : va_P (dC, dI) zCl [(h0, .inr (8, o_Reader I0 a0_0 h2 h1)), (h1, .inr (9, o_Section I1)), (h2, .inr (1, o_Code I2 a2_0 h3 a2_3)), (h3, .inl (cA3, n3, .inl f3))] H) (hD : va_D A [(h0, .inr (8, o_Reader I0 a0_0 h2 h1)), (h1, .inr (9, o_Section I1)), (h2, .inr (1, o_Code I2 a2_0 h3 a2_3)), (h3, .inl (cA3, n3, .inl f3))]) (hS : va_S A s.heap H locs) (hv : v_Reader_isBeforeSeconds_34 I0 I1 I2 n3 f3 x2  Z) : W p l e (headSpec (Cond.code (⟨"NumberDress$Reader", "isBeforeSeconds", "(I)Z"⟩ : MethodName) prog_9_method_32_code 4 (some .boolean) :: zT) { frames := 1, cells := 0, slots := 0, locals := 21 }).room s m args below meth c H locs 0 0 (MQ below (va_Qi Z (zB (dC, dI) zCl [(cA3, .int)] A (fun u : Unit => [(h0, .inr (8, o_Reader I0 a0_0 h2 h1)), (h1, .inr (9, o_Section I1)), (h2, .inr (1, o_Code I2 a2_0 h3 a2_3)), (h3, .inl (cA3, n3, .inl f3))])) A) args s 0 0 A) (F0 m 34 ls []) := by
  obtain ⟨hx, hb, hr, hml, hown, ht, hlocks⟩ := id hc
  unfold v_Reader_isBeforeSeconds_34 at hv
  refine lv_iload_n hx hb d_Reader_isBeforeSeconds_34 rfl (lv_at hl 1 rfl) ?_
  refine lv_aload_n hx hb d_Reader_isBeforeSeconds_35 rfl (lv_at hl 0 rfl) ?_
  refine va_get (D := (dC, dI)) (ci := 8) (v := .ref h1) (C := "NumberDress$Reader") (T := T_Reader) (N := 5) hx hb ht zin_Reader hown hK hP 0 rfl rfl 3 (by decide) (ht _ zw_274) (fun _ h9 => h9) rfl d_Reader_isBeforeSeconds_36 ?_
  refine va_get (D := (dC, dI)) (ci := 9) (v := .int (I1 2)) (C := "NumberDress$Section") (T := T_Section) (N := 15) hx hb ht zin_Section hown hK hP 1 rfl rfl 2 (by decide) (ht _ zw_172) (fun _ h9 => h9) rfl d_Reader_isBeforeSeconds_39 ?_
  refine lv_icmp_ge (tgt := 56) hx hb d_Reader_isBeforeSeconds_42 (by decide) (fun c_1 => ?_) (fun c_1 => ?_)
  · have hv := hv.1 c_1
    refine lv_iconst (v := (0 : Int32)) hx hb d_Reader_isBeforeSeconds_56 (by decide) ?_
    exact b_Reader_isBeforeSeconds_57 hc hA hE  (lv_sub hl [] rfl) hK hP hD hS hv
  · have hv := hv.2 c_1
    refine lv_aload_n hx hb d_Reader_isBeforeSeconds_45 rfl (lv_at hl 0 rfl) ?_
    refine va_get (D := (dC, dI)) (ci := 8) (v := .ref h2) (C := "NumberDress$Reader") (T := T_Reader) (N := 5) hx hb ht zin_Reader hown hK hP 0 rfl rfl 2 (by decide) (ht _ zw_273) (fun _ h9 => h9) rfl d_Reader_isBeforeSeconds_46 ?_
    refine lv_iload_n hx hb d_Reader_isBeforeSeconds_49 rfl (lv_at hl 1 rfl) ?_
    refine z_calli (wc := [(h2, .inr (1, o_Code I2 a2_0 h3 a2_3)), (h3, .inl (cA3, n3, .inl f3))]) (wr := [(h0, .inr (8, o_Reader I0 a0_0 h2 h1)), (h1, .inr (9, o_Section I1))]) [2, 3] [0, 1] (va_runV (As := [.int x2]) (rest := []) ⟨hx, hb, hml, hown, ht⟩ (m_Code_kind l dC dI hv) ⟨(callB_of 1 ht (zG_in zi_Code_kind) rfl rfl rfl (ht _ zw_111) (ht _ zw_738) zh_Code_kind ⟨Nat.le_of_ble_eq_true rfl, Nat.le_of_ble_eq_true rfl⟩), (ht _ zw_739), (ht _ zw_740)⟩ ⟨zPc_blind, va_recv hK hP (ci := 1) (q0 := 2) rfl rfl, zPc_pre hP hK hD hS hA hE [2, 3] [0] rfl rfl (by decide) rfl⟩ rfl rfl hl.1 rfl (lv_room (Nat.le_of_ble_eq_true rfl)) d_Reader_isBeforeSeconds_50 ⟨Nat.le_of_ble_eq_true rfl, Nat.le_of_ble_eq_true rfl⟩) hP hD hS hA rfl rfl (by decide) (by decide) (fun r u H locs hv hP hD hS => ?_)
    have hP : va_P (dC, dI) zCl [(h0, .inr (8, o_Reader I0 a0_0 h2 h1)), (h1, .inr (9, o_Section I1)), (h2, .inr (1, o_Code I2 a2_0 h3 a2_3)), (h3, .inl (cA3, n3, .inl f3))] H := hP.sub [0, 1, 2, 3] rfl
    have hD : va_D A [(h0, .inr (8, o_Reader I0 a0_0 h2 h1)), (h1, .inr (9, o_Section I1)), (h2, .inr (1, o_Code I2 a2_0 h3 a2_3)), (h3, .inl (cA3, n3, .inl f3))] := hD.sub [0, 1, 2, 3] (by decide) rfl
    exact b_Reader_isBeforeSeconds_53 hc hA hE  (lv_sub hl [] rfl) hK hP hD hS hv
set_option maxHeartbeats 4000000 in
set_option maxRecDepth 100000 in
theorem b_Reader_isBeforeSeconds_23 {h0 : Nat} {a0_0 : Nat} {h1 : Nat} {h2 : Nat} {a2_0 : Nat} {a2_3 : Nat} {h3 : Nat} {cA3 : ClassId} {I0 : Nat → Int32} {I1 : Nat → Int32} {I2 : Nat → Int32} {n3 : Nat} {f3 : Nat → Int32} {x2 : Int32} {s0 : Int32} {k4 : Int32 → Prop} {Z : Int32 → Unit → Prop} {H : Heap} {locs : List Loc} {ls : Array Slot} (hc : zC p s m args meth c prog_9_method_32_code (some .boolean) 4 "NumberDress$Reader") (hA : ∀ q : Nat, s.heap.size ≤ q → A q) (hE : zE gE A s) (hk4 : ∀ (x2 : Int32) (H : Heap) (locs : List Loc) (ls : Array Slot), lv_has ls 4 [(0, .ref h0), (2, .int x2)] → va_K (dC, dI) zCl [(cA3, .int)] s → va_P (dC, dI) zCl [(h0, .inr (8, o_Reader I0 a0_0 h2 h1)), (h1, .inr (9, o_Section I1)), (h2, .inr (1, o_Code I2 a2_0 h3 a2_3)), (h3, .inl (cA3, n3, .inl f3))] H → va_D A [(h0, .inr (8, o_Reader I0 a0_0 h2 h1)), (h1, .inr (9, o_Section I1)), (h2, .inr (1, o_Code I2 a2_0 h3 a2_3)), (h3, .inl (cA3, n3, .inl f3))] → va_S A s.heap H locs → k4 x2 → W p l e (headSpec (Cond.code (⟨"NumberDress$Reader", "isBeforeSeconds", "(I)Z"⟩ : MethodName) prog_9_method_32_code 4 (some .boolean) :: zT) { frames := 1, cells := 0, slots := 0, locals := 21 }).room s m args below meth c H locs 0 0 (MQ below (va_Qi Z (zB (dC, dI) zCl [(cA3, .int)] A (fun u : Unit => [(h0, .inr (8, o_Reader I0 a0_0 h2 h1)), (h1, .inr (9, o_Section I1)), (h2, .inr (1, o_Code I2 a2_0 h3 a2_3)), (h3, .inl (cA3, n3, .inl f3))])) A) args s 0 0 A) (F0 m 4 ls [])) (hl : lv_has ls 4 [(0, .ref h0), (2, .int x2)]) (hK : va_K (dC, dI) zCl [(cA3, .int)] s) (hP : va_P (dC, dI) zCl [(h0, .inr (8, o_Reader I0 a0_0 h2 h1)), (h1, .inr (9, o_Section I1)), (h2, .inr (1, o_Code I2 a2_0 h3 a2_3)), (h3, .inl (cA3, n3, .inl f3))] H) (hD : va_D A [(h0, .inr (8, o_Reader I0 a0_0 h2 h1)), (h1, .inr (9, o_Section I1)), (h2, .inr (1, o_Code I2 a2_0 h3 a2_3)), (h3, .inl (cA3, n3, .inl f3))]) (hS : va_S A s.heap H locs) (hv : v_Reader_isBeforeSeconds_23 I0 I1 I2 n3 f3 x2 s0 k4 Z) : W p l e (headSpec (Cond.code (⟨"NumberDress$Reader", "isBeforeSeconds", "(I)Z"⟩ : MethodName) prog_9_method_32_code 4 (some .boolean) :: zT) { frames := 1, cells := 0, slots := 0, locals := 21 }).room s m args below meth c H locs 0 0 (MQ below (va_Qi Z (zB (dC, dI) zCl [(cA3, .int)] A (fun u : Unit => [(h0, .inr (8, o_Reader I0 a0_0 h2 h1)), (h1, .inr (9, o_Section I1)), (h2, .inr (1, o_Code I2 a2_0 h3 a2_3)), (h3, .inl (cA3, n3, .inl f3))])) A) args s 0 0 A) (F0 m 23 ls [.int s0]) := by
  obtain ⟨hx, hb, hr, hml, hown, ht, hlocks⟩ := id hc
  unfold v_Reader_isBeforeSeconds_23 at hv
  refine lv_bipush (v := (20 : Int32)) hx hb d_Reader_isBeforeSeconds_23 (by decide) ?_
  refine lv_icmp_ge (tgt := 34) hx hb d_Reader_isBeforeSeconds_25 (by decide) (fun c_1 => ?_) (fun c_1 => ?_)
  · have hv := hv.1 c_1
    exact b_Reader_isBeforeSeconds_34 hc hA hE  (lv_sub hl [0, 1] rfl) hK hP hD hS hv
  · have hv := hv.2 c_1
    refine lv_iinc (v := (x2 + (1 : Int32))) (lv' := [(2, .int (x2 + (1 : Int32))), (0, .ref h0)]) hx hb d_Reader_isBeforeSeconds_28 hl (k := 1) rfl rfl (by decide) rfl (fun ls hl => ?_)
    refine lv_goto (tgt := 4) hx hb d_Reader_isBeforeSeconds_31 (by decide) ?_
    exact hk4 (x2 + (1 : Int32)) _ _ _ (lv_sub hl [1, 0] rfl) hK hP hD hS hv
set_option maxHeartbeats 4000000 in
set_option maxRecDepth 100000 in
theorem b_Reader_isBeforeSeconds_4 {h0 : Nat} {a0_0 : Nat} {h1 : Nat} {h2 : Nat} {a2_0 : Nat} {a2_3 : Nat} {h3 : Nat} {cA3 : ClassId} {I0 : Nat → Int32} {I1 : Nat → Int32} {I2 : Nat → Int32} {n3 : Nat} {f3 : Nat → Int32}  {Z : Int32 → Unit → Prop} (hc : zC p s m args meth c prog_9_method_32_code (some .boolean) 4 "NumberDress$Reader") (hA : ∀ q : Nat, s.heap.size ≤ q → A q) (hE : zE gE A s) : ∀ (N : Nat) (x2 : Int32) (H : Heap) (locs : List Loc) (ls : Array Slot), lv_has ls 4 [(0, .ref h0), (2, .int x2)] → va_K (dC, dI) zCl [(cA3, .int)] s → va_P (dC, dI) zCl [(h0, .inr (8, o_Reader I0 a0_0 h2 h1)), (h1, .inr (9, o_Section I1)), (h2, .inr (1, o_Code I2 a2_0 h3 a2_3)), (h3, .inl (cA3, n3, .inl f3))] H → va_D A [(h0, .inr (8, o_Reader I0 a0_0 h2 h1)), (h1, .inr (9, o_Section I1)), (h2, .inr (1, o_Code I2 a2_0 h3 a2_3)), (h3, .inl (cA3, n3, .inl f3))] → va_S A s.heap H locs → v_Reader_isBeforeSeconds_4 I0 I1 I2 n3 f3  Z N x2 → W p l e (headSpec (Cond.code (⟨"NumberDress$Reader", "isBeforeSeconds", "(I)Z"⟩ : MethodName) prog_9_method_32_code 4 (some .boolean) :: zT) { frames := 1, cells := 0, slots := 0, locals := 21 }).room s m args below meth c H locs 0 0 (MQ below (va_Qi Z (zB (dC, dI) zCl [(cA3, .int)] A (fun u : Unit => [(h0, .inr (8, o_Reader I0 a0_0 h2 h1)), (h1, .inr (9, o_Section I1)), (h2, .inr (1, o_Code I2 a2_0 h3 a2_3)), (h3, .inl (cA3, n3, .inl f3))])) A) args s 0 0 A) (F0 m 4 ls []) := by
  obtain ⟨hx, hb, hr, hml, hown, ht, hlocks⟩ := id hc
  intro N
  induction N with
  | zero => intro x2 H locs ls hl hK hP hD hS hv; exact hv.elim
  | succ N hk4 =>
    intro x2 H locs ls hl hK hP hD hS hv
    unfold v_Reader_isBeforeSeconds_4 at hv
    refine lv_iload_n hx hb d_Reader_isBeforeSeconds_4 rfl (lv_at hl 1 rfl) ?_
    refine lv_aload_n hx hb d_Reader_isBeforeSeconds_5 rfl (lv_at hl 0 rfl) ?_
    refine va_get (D := (dC, dI)) (ci := 8) (v := .ref h1) (C := "NumberDress$Reader") (T := T_Reader) (N := 5) hx hb ht zin_Reader hown hK hP 0 rfl rfl 3 (by decide) (ht _ zw_274) (fun _ h9 => h9) rfl d_Reader_isBeforeSeconds_6 ?_
    refine va_get (D := (dC, dI)) (ci := 9) (v := .int (I1 2)) (C := "NumberDress$Section") (T := T_Section) (N := 15) hx hb ht zin_Section hown hK hP 1 rfl rfl 2 (by decide) (ht _ zw_172) (fun _ h9 => h9) rfl d_Reader_isBeforeSeconds_9 ?_
    refine lv_icmp_ge (tgt := 34) hx hb d_Reader_isBeforeSeconds_12 (by decide) (fun c_1 => ?_) (fun c_1 => ?_)
    · have hv := hv.1 c_1
      exact b_Reader_isBeforeSeconds_34 hc hA hE  (lv_sub hl [0, 1] rfl) hK hP hD hS hv
    · have hv := hv.2 c_1
      refine lv_aload_n hx hb d_Reader_isBeforeSeconds_15 rfl (lv_at hl 0 rfl) ?_
      refine va_get (D := (dC, dI)) (ci := 8) (v := .ref h2) (C := "NumberDress$Reader") (T := T_Reader) (N := 5) hx hb ht zin_Reader hown hK hP 0 rfl rfl 2 (by decide) (ht _ zw_273) (fun _ h9 => h9) rfl d_Reader_isBeforeSeconds_16 ?_
      refine lv_iload_n hx hb d_Reader_isBeforeSeconds_19 rfl (lv_at hl 1 rfl) ?_
      refine z_calli (wc := [(h2, .inr (1, o_Code I2 a2_0 h3 a2_3)), (h3, .inl (cA3, n3, .inl f3))]) (wr := [(h0, .inr (8, o_Reader I0 a0_0 h2 h1)), (h1, .inr (9, o_Section I1))]) [2, 3] [0, 1] (va_runV (As := [.int x2]) (rest := []) ⟨hx, hb, hml, hown, ht⟩ (m_Code_kind l dC dI hv) ⟨(callB_of 1 ht (zG_in zi_Code_kind) rfl rfl rfl (ht _ zw_111) (ht _ zw_738) zh_Code_kind ⟨Nat.le_of_ble_eq_true rfl, Nat.le_of_ble_eq_true rfl⟩), (ht _ zw_739), (ht _ zw_740)⟩ ⟨zPc_blind, va_recv hK hP (ci := 1) (q0 := 2) rfl rfl, zPc_pre hP hK hD hS hA hE [2, 3] [0] rfl rfl (by decide) rfl⟩ rfl rfl hl.1 rfl (lv_room (Nat.le_of_ble_eq_true rfl)) d_Reader_isBeforeSeconds_20 ⟨Nat.le_of_ble_eq_true rfl, Nat.le_of_ble_eq_true rfl⟩) hP hD hS hA rfl rfl (by decide) (by decide) (fun r u H locs hv hP hD hS => ?_)
      have hP : va_P (dC, dI) zCl [(h0, .inr (8, o_Reader I0 a0_0 h2 h1)), (h1, .inr (9, o_Section I1)), (h2, .inr (1, o_Code I2 a2_0 h3 a2_3)), (h3, .inl (cA3, n3, .inl f3))] H := hP.sub [0, 1, 2, 3] rfl
      have hD : va_D A [(h0, .inr (8, o_Reader I0 a0_0 h2 h1)), (h1, .inr (9, o_Section I1)), (h2, .inr (1, o_Code I2 a2_0 h3 a2_3)), (h3, .inl (cA3, n3, .inl f3))] := hD.sub [0, 1, 2, 3] (by decide) rfl
      exact b_Reader_isBeforeSeconds_23 hc hA hE hk4 (lv_sub hl [0, 1] rfl) hK hP hD hS hv
set_option maxHeartbeats 4000000 in
set_option maxRecDepth 100000 in
theorem b_Reader_isBeforeSeconds_0 {h0 : Nat} {a0_0 : Nat} {h1 : Nat} {h2 : Nat} {a2_0 : Nat} {a2_3 : Nat} {h3 : Nat} {cA3 : ClassId} {I0 : Nat → Int32} {I1 : Nat → Int32} {I2 : Nat → Int32} {n3 : Nat} {f3 : Nat → Int32} {x1 : Int32}  {Z : Int32 → Unit → Prop} {H : Heap} {locs : List Loc} {ls : Array Slot} (hc : zC p s m args meth c prog_9_method_32_code (some .boolean) 4 "NumberDress$Reader") (hA : ∀ q : Nat, s.heap.size ≤ q → A q) (hE : zE gE A s) (hl : lv_has ls 4 [(0, .ref h0), (1, .int x1)]) (hK : va_K (dC, dI) zCl [(cA3, .int)] s) (hP : va_P (dC, dI) zCl [(h0, .inr (8, o_Reader I0 a0_0 h2 h1)), (h1, .inr (9, o_Section I1)), (h2, .inr (1, o_Code I2 a2_0 h3 a2_3)), (h3, .inl (cA3, n3, .inl f3))] H) (hD : va_D A [(h0, .inr (8, o_Reader I0 a0_0 h2 h1)), (h1, .inr (9, o_Section I1)), (h2, .inr (1, o_Code I2 a2_0 h3 a2_3)), (h3, .inl (cA3, n3, .inl f3))]) (hS : va_S A s.heap H locs) (hv : v_Reader_isBeforeSeconds_0 I0 I1 I2 n3 f3 x1  Z) : W p l e (headSpec (Cond.code (⟨"NumberDress$Reader", "isBeforeSeconds", "(I)Z"⟩ : MethodName) prog_9_method_32_code 4 (some .boolean) :: zT) { frames := 1, cells := 0, slots := 0, locals := 21 }).room s m args below meth c H locs 0 0 (MQ below (va_Qi Z (zB (dC, dI) zCl [(cA3, .int)] A (fun u : Unit => [(h0, .inr (8, o_Reader I0 a0_0 h2 h1)), (h1, .inr (9, o_Section I1)), (h2, .inr (1, o_Code I2 a2_0 h3 a2_3)), (h3, .inl (cA3, n3, .inl f3))])) A) args s 0 0 A) (F0 m 0 ls []) := by
  obtain ⟨hx, hb, hr, hml, hown, ht, hlocks⟩ := id hc
  unfold v_Reader_isBeforeSeconds_0 at hv
  refine lv_iload_n hx hb d_Reader_isBeforeSeconds_0 rfl (lv_at hl 1 rfl) ?_
  refine lv_iconst (v := (1 : Int32)) hx hb d_Reader_isBeforeSeconds_1 (by decide) ?_
  refine lv_iadd hx hb d_Reader_isBeforeSeconds_2 ?_
  refine lv_istore_n (lv' := [(2, .int (x1 + (1 : Int32))), (0, .ref h0), (1, .int x1)]) hx hb d_Reader_isBeforeSeconds_3 rfl hl (by decide) rfl (fun ls hl => ?_)
  obtain ⟨Nx, hv⟩ := hv
  exact b_Reader_isBeforeSeconds_4 hc hA hE  Nx (x1 + (1 : Int32)) _ _ _ (lv_sub hl [1, 0] rfl) hK hP hD hS hv
theorem zi_Reader_isBeforeSeconds : Cond.code (⟨"NumberDress$Reader", "isBeforeSeconds", "(I)Z"⟩ : MethodName) prog_9_method_32_code 4 (some .boolean) ∈ zT := zw_816
theorem zh_Reader_isBeforeSeconds : (((⟨"NumberDress$Reader", "isBeforeSeconds", "(I)Z"⟩ : MethodName)).cls ≠ "java/lang/invoke/MethodHandle" ∧ ((⟨"NumberDress$Reader", "isBeforeSeconds", "(I)Z"⟩ : MethodName)).cls ≠ "java/lang/invoke/VarHandle" ∧ (parseMethodDescriptor ((⟨"NumberDress$Reader", "isBeforeSeconds", "(I)Z"⟩ : MethodName)).desc).map (fun d => d.parameters.length) = some 1) := by decide +kernel
set_option maxHeartbeats 4000000 in
set_option maxRecDepth 100000 in
theorem m_Reader_isBeforeSeconds (l : Launch) (dC : Nat → ClassId) (dI : Nat → Nat → Nat) {gE : zG} {h0 : Nat} {a0_0 : Nat} {h1 : Nat} {h2 : Nat} {a2_0 : Nat} {a2_3 : Nat} {h3 : Nat} {cA3 : ClassId} {I0 : Nat → Int32} {I1 : Nat → Int32} {I2 : Nat → Int32} {n3 : Nat} {f3 : Nat → Int32} {x1 : Int32} {sz : Nat} {Z : Int32 → Unit → Prop} (hv : v_Reader_isBeforeSeconds_0 I0 I1 I2 n3 f3 x1 Z) : Met l (⟨"NumberDress$Reader", "isBeforeSeconds", "(I)Z"⟩ : MethodName) (Cond.code (⟨"NumberDress$Reader", "isBeforeSeconds", "(I)Z"⟩ : MethodName) prog_9_method_32_code 4 (some .boolean) :: zT) { frames := 1, cells := 0, slots := 0, locals := 21 } (zPc gE (dC, dI) zCl [(cA3, .int)] [.ref h0, .int x1] sz [(h0, .inr (8, o_Reader I0 a0_0 h2 h1)), (h1, .inr (9, o_Section I1)), (h2, .inr (1, o_Code I2 a2_0 h3 a2_3)), (h3, .inl (cA3, n3, .inl f3))]) (va_Qi Z (zB (dC, dI) zCl [(cA3, .int)] (va_A [(h0, .inr (8, o_Reader I0 a0_0 h2 h1)), (h1, .inr (9, o_Section I1)), (h2, .inr (1, o_Code I2 a2_0 h3 a2_3)), (h3, .inl (cA3, n3, .inl f3))] sz) (fun u : Unit => [(h0, .inr (8, o_Reader I0 a0_0 h2 h1)), (h1, .inr (9, o_Section I1)), (h2, .inr (1, o_Code I2 a2_0 h3 a2_3)), (h3, .inl (cA3, n3, .inl f3))])) (va_A [(h0, .inr (8, o_Reader I0 a0_0 h2 h1)), (h1, .inr (9, o_Section I1)), (h2, .inr (1, o_Code I2 a2_0 h3 a2_3)), (h3, .inl (cA3, n3, .inl f3))] sz)) 0 0 (va_A [(h0, .inr (8, o_Reader I0 a0_0 h2 h1)), (h1, .inr (9, o_Section I1)), (h2, .inr (1, o_Code I2 a2_0 h3 a2_3)), (h3, .inl (cA3, n3, .inl f3))] sz) := by
  refine Met.ofW (cc := prog_9_method_32_code) (maxL := 4) (ret := (some .boolean)) (by decide +kernel) rfl ?_
  intro p e s m args below meth c s₁ B hml hp
  obtain ⟨rfl, hsz, hP, hK, hD0, hE⟩ := hp
  have hts := atoms_spec (ws := (Cond.code (⟨"NumberDress$Reader", "isBeforeSeconds", "(I)Z"⟩ : MethodName) prog_9_method_32_code 4 (some .boolean) :: zT)) B.pre
  have hown : s.vm.findClass "NumberDress$Reader" = some m.cls := findClass_of_methodNamed B.named
  have hc : zC p s m _ meth c prog_9_method_32_code (some .boolean) 4 "NumberDress$Reader" := ⟨B.exec, B.bytes, B.returns, hml, hown, fun w h => hts w (List.mem_cons_of_mem _ h), B.notSynchronized⟩
  subst hsz
  have hD := hD0.self (sz := s.heap.size)
  generalize hAe : va_A [(h0, .inr (8, o_Reader I0 a0_0 h2 h1)), (h1, .inr (9, o_Section I1)), (h2, .inr (1, o_Code I2 a2_0 h3 a2_3)), (h3, .inl (cA3, n3, .inl f3))] s.heap.size = A at hD hE ⊢
  have hA : ∀ q : Nat, s.heap.size ≤ q → A q := fun q h => by rw [← hAe]; exact Or.inr h
  have hl := lv_entry ([.ref h0, .int x1]) (n := 4) (Nat.le_of_ble_eq_true rfl)
  rw [lg_entry_eq]
  exact b_Reader_isBeforeSeconds_0 hc hA hE hl hK hP hD va_S.rf hv
theorem d_Reader_isBehindHours_0 : decode prog_9_method_31_code 0 = .ok (.iload_n 1, 1) := by decide +kernel
theorem d_Reader_isBehindHours_1 : decode prog_9_method_31_code 1 = .ok (.iconst 1, 1) := by decide +kernel
theorem d_Reader_isBehindHours_2 : decode prog_9_method_31_code 2 = .ok (.isub, 1) := by decide +kernel
theorem d_Reader_isBehindHours_3 : decode prog_9_method_31_code 3 = .ok (.istore_n 2, 1) := by decide +kernel
theorem d_Reader_isBehindHours_4 : decode prog_9_method_31_code 4 = .ok (.iload_n 2, 1) := by decide +kernel
theorem d_Reader_isBehindHours_5 : decode prog_9_method_31_code 5 = .ok (.aload_n 0, 1) := by decide +kernel
theorem d_Reader_isBehindHours_6 : decode prog_9_method_31_code 6 = .ok (.getfield 25, 3) := by decide +kernel
theorem d_Reader_isBehindHours_9 : decode prog_9_method_31_code 9 = .ok (.getfield 210, 3) := by decide +kernel
theorem d_Reader_isBehindHours_12 : decode prog_9_method_31_code 12 = .ok (.if_icmp .lt 22, 3) := by decide +kernel
theorem d_Reader_isBehindHours_15 : decode prog_9_method_31_code 15 = .ok (.aload_n 0, 1) := by decide +kernel
theorem d_Reader_isBehindHours_16 : decode prog_9_method_31_code 16 = .ok (.getfield 18, 3) := by decide +kernel
theorem d_Reader_isBehindHours_19 : decode prog_9_method_31_code 19 = .ok (.iload_n 2, 1) := by decide +kernel
theorem d_Reader_isBehindHours_20 : decode prog_9_method_31_code 20 = .ok (.invokevirtual 213, 3) := by decide +kernel
theorem d_Reader_isBehindHours_23 : decode prog_9_method_31_code 23 = .ok (.bipush 20, 2) := by decide +kernel
theorem d_Reader_isBehindHours_25 : decode prog_9_method_31_code 25 = .ok (.if_icmp .ge 9, 3) := by decide +kernel
theorem d_Reader_isBehindHours_28 : decode prog_9_method_31_code 28 = .ok (.iinc 2 (-1), 3) := by decide +kernel
theorem d_Reader_isBehindHours_31 : decode prog_9_method_31_code 31 = .ok (.goto (-27), 3) := by decide +kernel
theorem d_Reader_isBehindHours_34 : decode prog_9_method_31_code 34 = .ok (.iload_n 2, 1) := by decide +kernel
theorem d_Reader_isBehindHours_35 : decode prog_9_method_31_code 35 = .ok (.aload_n 0, 1) := by decide +kernel
theorem d_Reader_isBehindHours_36 : decode prog_9_method_31_code 36 = .ok (.getfield 25, 3) := by decide +kernel
theorem d_Reader_isBehindHours_39 : decode prog_9_method_31_code 39 = .ok (.getfield 210, 3) := by decide +kernel
theorem d_Reader_isBehindHours_42 : decode prog_9_method_31_code 42 = .ok (.if_icmp .lt 14, 3) := by decide +kernel
theorem d_Reader_isBehindHours_45 : decode prog_9_method_31_code 45 = .ok (.aload_n 0, 1) := by decide +kernel
theorem d_Reader_isBehindHours_46 : decode prog_9_method_31_code 46 = .ok (.getfield 18, 3) := by decide +kernel
theorem d_Reader_isBehindHours_49 : decode prog_9_method_31_code 49 = .ok (.iload_n 2, 1) := by decide +kernel
theorem d_Reader_isBehindHours_50 : decode prog_9_method_31_code 50 = .ok (.invokevirtual 213, 3) := by decide +kernel
theorem d_Reader_isBehindHours_53 : decode prog_9_method_31_code 53 = .ok (.goto 4, 3) := by decide +kernel
theorem d_Reader_isBehindHours_56 : decode prog_9_method_31_code 56 = .ok (.iconst 0, 1) := by decide +kernel
theorem d_Reader_isBehindHours_57 : decode prog_9_method_31_code 57 = .ok (.istore_n 3, 1) := by decide +kernel
theorem d_Reader_isBehindHours_58 : decode prog_9_method_31_code 58 = .ok (.iload_n 3, 1) := by decide +kernel
theorem d_Reader_isBehindHours_59 : decode prog_9_method_31_code 59 = .ok (.bipush 23, 2) := by decide +kernel
theorem d_Reader_isBehindHours_61 : decode prog_9_method_31_code 61 = .ok (.if_icmp .eq 9, 3) := by decide +kernel
theorem d_Reader_isBehindHours_64 : decode prog_9_method_31_code 64 = .ok (.iload_n 3, 1) := by decide +kernel
theorem d_Reader_isBehindHours_65 : decode prog_9_method_31_code 65 = .ok (.bipush 26, 2) := by decide +kernel
theorem d_Reader_isBehindHours_67 : decode prog_9_method_31_code 67 = .ok (.if_icmp .ne 7, 3) := by decide +kernel
theorem d_Reader_isBehindHours_70 : decode prog_9_method_31_code 70 = .ok (.iconst 1, 1) := by decide +kernel
theorem d_Reader_isBehindHours_71 : decode prog_9_method_31_code 71 = .ok (.goto 4, 3) := by decide +kernel
theorem d_Reader_isBehindHours_74 : decode prog_9_method_31_code 74 = .ok (.iconst 0, 1) := by decide +kernel
theorem d_Reader_isBehindHours_75 : decode prog_9_method_31_code 75 = .ok (.ireturn, 1) := by decide +kernel
set_option maxHeartbeats 4000000 in
set_option maxRecDepth 100000 in
theorem b_Reader_isBehindHours_57 {h0 : Nat} {a0_0 : Nat} {h1 : Nat} {h2 : Nat} {a2_0 : Nat} {a2_3 : Nat} {h3 : Nat} {cA3 : ClassId} {I0 : Nat → Int32} {I1 : Nat → Int32} {I2 : Nat → Int32} {n3 : Nat} {f3 : Nat → Int32} {s0 : Int32}  {Z : Int32 → Unit → Prop} {H : Heap} {locs : List Loc} {ls : Array Slot} (hc : zC p s m args meth c prog_9_method_31_code (some .boolean) 4 "NumberDress$Reader") (hA : ∀ q : Nat, s.heap.size ≤ q → A q) (hE : zE gE A s) (hl : lv_has ls 4 []) (hK : va_K (dC, dI) zCl [(cA3, .int)] s) (hP : va_P (dC, dI) zCl [(h0, .inr (8, o_Reader I0 a0_0 h2 h1)), (h1, .inr (9, o_Section I1)), (h2, .inr (1, o_Code I2 a2_0 h3 a2_3)), (h3, .inl (cA3, n3, .inl f3))] H) (hD : va_D A [(h0, .inr (8, o_Reader I0 a0_0 h2 h1)), (h1, .inr (9, o_Section I1)), (h2, .inr (1, o_Code I2 a2_0 h3 a2_3)), (h3, .inl (cA3, n3, .inl f3))]) (hS : va_S A s.heap H locs) (hv : v_Reader_isBehindHours_57 I0 I1 I2 n3 f3 s0  Z) : W p l e (headSpec (Cond.code (⟨"NumberDress$Reader", "isBehindHours", "(I)Z"⟩ : MethodName) prog_9_method_31_code 4 (some .boolean) :: zT) { frames := 1, cells := 0, slots := 0, locals := 21 }).room s m args below meth c H locs 0 0 (MQ below (va_Qi Z (zB (dC, dI) zCl [(cA3, .int)] A (fun u : Unit => [(h0, .inr (8, o_Reader I0 a0_0 h2 h1)), (h1, .inr (9, o_Section I1)), (h2, .inr (1, o_Code I2 a2_0 h3 a2_3)), (h3, .inl (cA3, n3, .inl f3))])) A) args s 0 0 A) (F0 m 57 ls [.int s0]) := by
  obtain ⟨hx, hb, hr, hml, hown, ht, hlocks⟩ := id hc
  unfold v_Reader_isBehindHours_57 at hv
  refine lv_istore_n (lv' := [(3, .int s0)]) hx hb d_Reader_isBehindHours_57 rfl hl (by decide) rfl (fun ls hl => ?_)
  refine lv_iload_n hx hb d_Reader_isBehindHours_58 rfl (lv_at hl 0 rfl) ?_
  refine lv_bipush (v := (23 : Int32)) hx hb d_Reader_isBehindHours_59 (by decide) ?_
  refine lv_icmp_eq (tgt := 70) hx hb d_Reader_isBehindHours_61 (by decide) (fun c_1 => ?_) (fun c_1 => ?_)
  · have hv := hv.1 c_1
    refine lv_iconst (v := (1 : Int32)) hx hb d_Reader_isBehindHours_70 (by decide) ?_
    refine lv_goto (tgt := 75) hx hb d_Reader_isBehindHours_71 (by decide) ?_
    exact W.zret (v := (1 : Int32)) hx hb hr (by decide) (fun t ht hW => ⟨⟨_, (), rfl, hv, ⟨by rw [ht]; exact hP, va_K.moved hW.alike hK, hD⟩⟩, hS.F ht⟩) hS.2.2 d_Reader_isBehindHours_75
  · have hv := hv.2 c_1
    refine lv_iload_n hx hb d_Reader_isBehindHours_64 rfl (lv_at hl 0 rfl) ?_
    refine lv_bipush (v := (26 : Int32)) hx hb d_Reader_isBehindHours_65 (by decide) ?_
    refine lv_icmp_ne (tgt := 74) hx hb d_Reader_isBehindHours_67 (by decide) (fun c_2 => ?_) (fun c_2 => ?_)
    · have hv := hv.1 c_2
      refine lv_iconst (v := (0 : Int32)) hx hb d_Reader_isBehindHours_74 (by decide) ?_
      exact W.zret (v := (0 : Int32)) hx hb hr (by decide) (fun t ht hW => ⟨⟨_, (), rfl, hv, ⟨by rw [ht]; exact hP, va_K.moved hW.alike hK, hD⟩⟩, hS.F ht⟩) hS.2.2 d_Reader_isBehindHours_75
    · have hv := hv.2 c_2
      refine lv_iconst (v := (1 : Int32)) hx hb d_Reader_isBehindHours_70 (by decide) ?_
      refine lv_goto (tgt := 75) hx hb d_Reader_isBehindHours_71 (by decide) ?_
      exact W.zret (v := (1 : Int32)) hx hb hr (by decide) (fun t ht hW => ⟨⟨_, (), rfl, hv, ⟨by rw [ht]; exact hP, va_K.moved hW.alike hK, hD⟩⟩, hS.F ht⟩) hS.2.2 d_Reader_isBehindHours_75
set_option maxHeartbeats 4000000 in
set_option maxRecDepth 100000 in
theorem b_Reader_isBehindHours_53 {h0 : Nat} {a0_0 : Nat} {h1 : Nat} {h2 : Nat} {a2_0 : Nat} {a2_3 : Nat} {h3 : Nat} {cA3 : ClassId} {I0 : Nat → Int32} {I1 : Nat → Int32} {I2 : Nat → Int32} {n3 : Nat} {f3 : Nat → Int32} {s0 : Int32}  {Z : Int32 → Unit → Prop} {H : Heap} {locs : List Loc} {ls : Array Slot} (hc : zC p s m args meth c prog_9_method_31_code (some .boolean) 4 "NumberDress$Reader") (hA : ∀ q : Nat, s.heap.size ≤ q → A q) (hE : zE gE A s) (hl : lv_has ls 4 []) (hK : va_K (dC, dI) zCl [(cA3, .int)] s) (hP : va_P (dC, dI) zCl [(h0, .inr (8, o_Reader I0 a0_0 h2 h1)), (h1, .inr (9, o_Section I1)), (h2, .inr (1, o_Code I2 a2_0 h3 a2_3)), (h3, .inl (cA3, n3, .inl f3))] H) (hD : va_D A [(h0, .inr (8, o_Reader I0 a0_0 h2 h1)), (h1, .inr (9, o_Section I1)), (h2, .inr (1, o_Code I2 a2_0 h3 a2_3)), (h3, .inl (cA3, n3, .inl f3))]) (hS : va_S A s.heap H locs) (hv : v_Reader_isBehindHours_53 I0 I1 I2 n3 f3 s0  Z) : W p l e (headSpec (Cond.code (⟨"NumberDress$Reader", "isBehindHours", "(I)Z"⟩ : MethodName) prog_9_method_31_code 4 (some .boolean) :: zT) { frames := 1, cells := 0, slots := 0, locals := 21 }).room s m args below meth c H locs 0 0 (MQ below (va_Qi Z (zB (dC, dI) zCl [(cA3, .int)] A (fun u : Unit => [(h0, .inr (8, o_Reader I0 a0_0 h2 h1)), (h1, .inr (9, o_Section I1)), (h2, .inr (1, o_Code I2 a2_0 h3 a2_3)), (h3, .inl (cA3, n3, .inl f3))])) A) args s 0 0 A) (F0 m 53 ls [.int s0]) := by
  obtain ⟨hx, hb, hr, hml, hown, ht, hlocks⟩ := id hc
  unfold v_Reader_isBehindHours_53 at hv
  refine lv_goto (tgt := 57) hx hb d_Reader_isBehindHours_53 (by decide) ?_
  exact b_Reader_isBehindHours_57 hc hA hE  (lv_sub hl [] rfl) hK hP hD hS hv
set_option maxHeartbeats 4000000 in
set_option maxRecDepth 100000 in
theorem b_Reader_isBehindHours_34 {h0 : Nat} {a0_0 : Nat} {h1 : Nat} {h2 : Nat} {a2_0 : Nat} {a2_3 : Nat} {h3 : Nat} {cA3 : ClassId} {I0 : Nat → Int32} {I1 : Nat → Int32} {I2 : Nat → Int32} {n3 : Nat} {f3 : Nat → Int32} {x2 : Int32}  {Z : Int32 → Unit → Prop} {H : Heap} {locs : List Loc} {ls : Array Slot} (hc : zC p s m args meth c prog_9_method_31_code (some .boolean) 4 "NumberDress$Reader") (hA : ∀ q : Nat, s.heap.size ≤ q → A q) (hE : zE gE A s) (hl : lv_has ls 4 [(0, .ref h0), (2, .int x2)]) (hK : va_K (dC, dI) zCl [(cA3, .int)] s) (hP : va_P (dC, dI) zCl [(h0, .inr (8, o_Reader I0 a0_0 h2 h1)), (h1, .inr (9, o_Section I1)), (h2, .inr (1, o_Code I2 a2_0 h3 a2_3)), (h3, .inl (cA3, n3, .inl f3))] H) (hD : va_D A [(h0, .inr (8, o_Reader I0 a0_0 h2 h1)), (h1, .inr (9, o_Section I1)), (h2, .inr (1, o_Code I2 a2_0 h3 a2_3)), (h3, .inl (cA3, n3, .inl f3))]) (hS : va_S A s.heap H locs) (hv : v_Reader_isBehindHours_34 I0 I1 I2 n3 f3 x2  Z) : W p l e (headSpec (Cond.code (⟨"NumberDress$Reader", "isBehindHours", "(I)Z"⟩ : MethodName) prog_9_method_31_code 4 (some .boolean) :: zT) { frames := 1, cells := 0, slots := 0, locals := 21 }).room s m args below meth c H locs 0 0 (MQ below (va_Qi Z (zB (dC, dI) zCl [(cA3, .int)] A (fun u : Unit => [(h0, .inr (8, o_Reader I0 a0_0 h2 h1)), (h1, .inr (9, o_Section I1)), (h2, .inr (1, o_Code I2 a2_0 h3 a2_3)), (h3, .inl (cA3, n3, .inl f3))])) A) args s 0 0 A) (F0 m 34 ls []) := by
  obtain ⟨hx, hb, hr, hml, hown, ht, hlocks⟩ := id hc
  unfold v_Reader_isBehindHours_34 at hv
  refine lv_iload_n hx hb d_Reader_isBehindHours_34 rfl (lv_at hl 1 rfl) ?_
  refine lv_aload_n hx hb d_Reader_isBehindHours_35 rfl (lv_at hl 0 rfl) ?_
  refine va_get (D := (dC, dI)) (ci := 8) (v := .ref h1) (C := "NumberDress$Reader") (T := T_Reader) (N := 5) hx hb ht zin_Reader hown hK hP 0 rfl rfl 3 (by decide) (ht _ zw_274) (fun _ h9 => h9) rfl d_Reader_isBehindHours_36 ?_
  refine va_get (D := (dC, dI)) (ci := 9) (v := .int (I1 1)) (C := "NumberDress$Section") (T := T_Section) (N := 15) hx hb ht zin_Section hown hK hP 1 rfl rfl 1 (by decide) (ht _ zw_167) (fun _ h9 => h9) rfl d_Reader_isBehindHours_39 ?_
  refine lv_icmp_lt (tgt := 56) hx hb d_Reader_isBehindHours_42 (by decide) (fun c_1 => ?_) (fun c_1 => ?_)
  · have hv := hv.1 c_1
    refine lv_iconst (v := (0 : Int32)) hx hb d_Reader_isBehindHours_56 (by decide) ?_
    exact b_Reader_isBehindHours_57 hc hA hE  (lv_sub hl [] rfl) hK hP hD hS hv
  · have hv := hv.2 c_1
    refine lv_aload_n hx hb d_Reader_isBehindHours_45 rfl (lv_at hl 0 rfl) ?_
    refine va_get (D := (dC, dI)) (ci := 8) (v := .ref h2) (C := "NumberDress$Reader") (T := T_Reader) (N := 5) hx hb ht zin_Reader hown hK hP 0 rfl rfl 2 (by decide) (ht _ zw_273) (fun _ h9 => h9) rfl d_Reader_isBehindHours_46 ?_
    refine lv_iload_n hx hb d_Reader_isBehindHours_49 rfl (lv_at hl 1 rfl) ?_
    refine z_calli (wc := [(h2, .inr (1, o_Code I2 a2_0 h3 a2_3)), (h3, .inl (cA3, n3, .inl f3))]) (wr := [(h0, .inr (8, o_Reader I0 a0_0 h2 h1)), (h1, .inr (9, o_Section I1))]) [2, 3] [0, 1] (va_runV (As := [.int x2]) (rest := []) ⟨hx, hb, hml, hown, ht⟩ (m_Code_kind l dC dI hv) ⟨(callB_of 1 ht (zG_in zi_Code_kind) rfl rfl rfl (ht _ zw_111) (ht _ zw_738) zh_Code_kind ⟨Nat.le_of_ble_eq_true rfl, Nat.le_of_ble_eq_true rfl⟩), (ht _ zw_739), (ht _ zw_740)⟩ ⟨zPc_blind, va_recv hK hP (ci := 1) (q0 := 2) rfl rfl, zPc_pre hP hK hD hS hA hE [2, 3] [0] rfl rfl (by decide) rfl⟩ rfl rfl hl.1 rfl (lv_room (Nat.le_of_ble_eq_true rfl)) d_Reader_isBehindHours_50 ⟨Nat.le_of_ble_eq_true rfl, Nat.le_of_ble_eq_true rfl⟩) hP hD hS hA rfl rfl (by decide) (by decide) (fun r u H locs hv hP hD hS => ?_)
    have hP : va_P (dC, dI) zCl [(h0, .inr (8, o_Reader I0 a0_0 h2 h1)), (h1, .inr (9, o_Section I1)), (h2, .inr (1, o_Code I2 a2_0 h3 a2_3)), (h3, .inl (cA3, n3, .inl f3))] H := hP.sub [0, 1, 2, 3] rfl
    have hD : va_D A [(h0, .inr (8, o_Reader I0 a0_0 h2 h1)), (h1, .inr (9, o_Section I1)), (h2, .inr (1, o_Code I2 a2_0 h3 a2_3)), (h3, .inl (cA3, n3, .inl f3))] := hD.sub [0, 1, 2, 3] (by decide) rfl
    exact b_Reader_isBehindHours_53 hc hA hE  (lv_sub hl [] rfl) hK hP hD hS hv
set_option maxHeartbeats 4000000 in
set_option maxRecDepth 100000 in
theorem b_Reader_isBehindHours_23 {h0 : Nat} {a0_0 : Nat} {h1 : Nat} {h2 : Nat} {a2_0 : Nat} {a2_3 : Nat} {h3 : Nat} {cA3 : ClassId} {I0 : Nat → Int32} {I1 : Nat → Int32} {I2 : Nat → Int32} {n3 : Nat} {f3 : Nat → Int32} {x2 : Int32} {s0 : Int32} {k4 : Int32 → Prop} {Z : Int32 → Unit → Prop} {H : Heap} {locs : List Loc} {ls : Array Slot} (hc : zC p s m args meth c prog_9_method_31_code (some .boolean) 4 "NumberDress$Reader") (hA : ∀ q : Nat, s.heap.size ≤ q → A q) (hE : zE gE A s) (hk4 : ∀ (x2 : Int32) (H : Heap) (locs : List Loc) (ls : Array Slot), lv_has ls 4 [(0, .ref h0), (2, .int x2)] → va_K (dC, dI) zCl [(cA3, .int)] s → va_P (dC, dI) zCl [(h0, .inr (8, o_Reader I0 a0_0 h2 h1)), (h1, .inr (9, o_Section I1)), (h2, .inr (1, o_Code I2 a2_0 h3 a2_3)), (h3, .inl (cA3, n3, .inl f3))] H → va_D A [(h0, .inr (8, o_Reader I0 a0_0 h2 h1)), (h1, .inr (9, o_Section I1)), (h2, .inr (1, o_Code I2 a2_0 h3 a2_3)), (h3, .inl (cA3, n3, .inl f3))] → va_S A s.heap H locs → k4 x2 → W p l e (headSpec (Cond.code (⟨"NumberDress$Reader", "isBehindHours", "(I)Z"⟩ : MethodName) prog_9_method_31_code 4 (some .boolean) :: zT) { frames := 1, cells := 0, slots := 0, locals := 21 }).room s m args below meth c H locs 0 0 (MQ below (va_Qi Z (zB (dC, dI) zCl [(cA3, .int)] A (fun u : Unit => [(h0, .inr (8, o_Reader I0 a0_0 h2 h1)), (h1, .inr (9, o_Section I1)), (h2, .inr (1, o_Code I2 a2_0 h3 a2_3)), (h3, .inl (cA3, n3, .inl f3))])) A) args s 0 0 A) (F0 m 4 ls [])) (hl : lv_has ls 4 [(0, .ref h0), (2, .int x2)]) (hK : va_K (dC, dI) zCl [(cA3, .int)] s) (hP : va_P (dC, dI) zCl [(h0, .inr (8, o_Reader I0 a0_0 h2 h1)), (h1, .inr (9, o_Section I1)), (h2, .inr (1, o_Code I2 a2_0 h3 a2_3)), (h3, .inl (cA3, n3, .inl f3))] H) (hD : va_D A [(h0, .inr (8, o_Reader I0 a0_0 h2 h1)), (h1, .inr (9, o_Section I1)), (h2, .inr (1, o_Code I2 a2_0 h3 a2_3)), (h3, .inl (cA3, n3, .inl f3))]) (hS : va_S A s.heap H locs) (hv : v_Reader_isBehindHours_23 I0 I1 I2 n3 f3 x2 s0 k4 Z) : W p l e (headSpec (Cond.code (⟨"NumberDress$Reader", "isBehindHours", "(I)Z"⟩ : MethodName) prog_9_method_31_code 4 (some .boolean) :: zT) { frames := 1, cells := 0, slots := 0, locals := 21 }).room s m args below meth c H locs 0 0 (MQ below (va_Qi Z (zB (dC, dI) zCl [(cA3, .int)] A (fun u : Unit => [(h0, .inr (8, o_Reader I0 a0_0 h2 h1)), (h1, .inr (9, o_Section I1)), (h2, .inr (1, o_Code I2 a2_0 h3 a2_3)), (h3, .inl (cA3, n3, .inl f3))])) A) args s 0 0 A) (F0 m 23 ls [.int s0]) := by
  obtain ⟨hx, hb, hr, hml, hown, ht, hlocks⟩ := id hc
  unfold v_Reader_isBehindHours_23 at hv
  refine lv_bipush (v := (20 : Int32)) hx hb d_Reader_isBehindHours_23 (by decide) ?_
  refine lv_icmp_ge (tgt := 34) hx hb d_Reader_isBehindHours_25 (by decide) (fun c_1 => ?_) (fun c_1 => ?_)
  · have hv := hv.1 c_1
    exact b_Reader_isBehindHours_34 hc hA hE  (lv_sub hl [0, 1] rfl) hK hP hD hS hv
  · have hv := hv.2 c_1
    refine lv_iinc (v := (x2 + (-1 : Int32))) (lv' := [(2, .int (x2 + (-1 : Int32))), (0, .ref h0)]) hx hb d_Reader_isBehindHours_28 hl (k := 1) rfl rfl (by decide) rfl (fun ls hl => ?_)
    refine lv_goto (tgt := 4) hx hb d_Reader_isBehindHours_31 (by decide) ?_
    exact hk4 (x2 + (-1 : Int32)) _ _ _ (lv_sub hl [1, 0] rfl) hK hP hD hS hv
set_option maxHeartbeats 4000000 in
set_option maxRecDepth 100000 in
theorem b_Reader_isBehindHours_4 {h0 : Nat} {a0_0 : Nat} {h1 : Nat} {h2 : Nat} {a2_0 : Nat} {a2_3 : Nat} {h3 : Nat} {cA3 : ClassId} {I0 : Nat → Int32} {I1 : Nat → Int32} {I2 : Nat → Int32} {n3 : Nat} {f3 : Nat → Int32}  {Z : Int32 → Unit → Prop} (hc : zC p s m args meth c prog_9_method_31_code (some .boolean) 4 "NumberDress$Reader") (hA : ∀ q : Nat, s.heap.size ≤ q → A q) (hE : zE gE A s) : ∀ (N : Nat) (x2 : Int32) (H : Heap) (locs : List Loc) (ls : Array Slot), lv_has ls 4 [(0, .ref h0), (2, .int x2)] → va_K (dC, dI) zCl [(cA3, .int)] s → va_P (dC, dI) zCl [(h0, .inr (8, o_Reader I0 a0_0 h2 h1)), (h1, .inr (9, o_Section I1)), (h2, .inr (1, o_Code I2 a2_0 h3 a2_3)), (h3, .inl (cA3, n3, .inl f3))] H → va_D A [(h0, .inr (8, o_Reader I0 a0_0 h2 h1)), (h1, .inr (9, o_Section I1)), (h2, .inr (1, o_Code I2 a2_0 h3 a2_3)), (h3, .inl (cA3, n3, .inl f3))] → va_S A s.heap H locs → v_Reader_isBehindHours_4 I0 I1 I2 n3 f3  Z N x2 → W p l e (headSpec (Cond.code (⟨"NumberDress$Reader", "isBehindHours", "(I)Z"⟩ : MethodName) prog_9_method_31_code 4 (some .boolean) :: zT) { frames := 1, cells := 0, slots := 0, locals := 21 }).room s m args below meth c H locs 0 0 (MQ below (va_Qi Z (zB (dC, dI) zCl [(cA3, .int)] A (fun u : Unit => [(h0, .inr (8, o_Reader I0 a0_0 h2 h1)), (h1, .inr (9, o_Section I1)), (h2, .inr (1, o_Code I2 a2_0 h3 a2_3)), (h3, .inl (cA3, n3, .inl f3))])) A) args s 0 0 A) (F0 m 4 ls []) := by
  obtain ⟨hx, hb, hr, hml, hown, ht, hlocks⟩ := id hc
  intro N
  induction N with
  | zero => intro x2 H locs ls hl hK hP hD hS hv; exact hv.elim
  | succ N hk4 =>
    intro x2 H locs ls hl hK hP hD hS hv
    unfold v_Reader_isBehindHours_4 at hv
    refine lv_iload_n hx hb d_Reader_isBehindHours_4 rfl (lv_at hl 1 rfl) ?_
    refine lv_aload_n hx hb d_Reader_isBehindHours_5 rfl (lv_at hl 0 rfl) ?_
    refine va_get (D := (dC, dI)) (ci := 8) (v := .ref h1) (C := "NumberDress$Reader") (T := T_Reader) (N := 5) hx hb ht zin_Reader hown hK hP 0 rfl rfl 3 (by decide) (ht _ zw_274) (fun _ h9 => h9) rfl d_Reader_isBehindHours_6 ?_
    refine va_get (D := (dC, dI)) (ci := 9) (v := .int (I1 1)) (C := "NumberDress$Section") (T := T_Section) (N := 15) hx hb ht zin_Section hown hK hP 1 rfl rfl 1 (by decide) (ht _ zw_167) (fun _ h9 => h9) rfl d_Reader_isBehindHours_9 ?_
    refine lv_icmp_lt (tgt := 34) hx hb d_Reader_isBehindHours_12 (by decide) (fun c_1 => ?_) (fun c_1 => ?_)
    · have hv := hv.1 c_1
      exact b_Reader_isBehindHours_34 hc hA hE  (lv_sub hl [0, 1] rfl) hK hP hD hS hv
    · have hv := hv.2 c_1
      refine lv_aload_n hx hb d_Reader_isBehindHours_15 rfl (lv_at hl 0 rfl) ?_
      refine va_get (D := (dC, dI)) (ci := 8) (v := .ref h2) (C := "NumberDress$Reader") (T := T_Reader) (N := 5) hx hb ht zin_Reader hown hK hP 0 rfl rfl 2 (by decide) (ht _ zw_273) (fun _ h9 => h9) rfl d_Reader_isBehindHours_16 ?_
      refine lv_iload_n hx hb d_Reader_isBehindHours_19 rfl (lv_at hl 1 rfl) ?_
      refine z_calli (wc := [(h2, .inr (1, o_Code I2 a2_0 h3 a2_3)), (h3, .inl (cA3, n3, .inl f3))]) (wr := [(h0, .inr (8, o_Reader I0 a0_0 h2 h1)), (h1, .inr (9, o_Section I1))]) [2, 3] [0, 1] (va_runV (As := [.int x2]) (rest := []) ⟨hx, hb, hml, hown, ht⟩ (m_Code_kind l dC dI hv) ⟨(callB_of 1 ht (zG_in zi_Code_kind) rfl rfl rfl (ht _ zw_111) (ht _ zw_738) zh_Code_kind ⟨Nat.le_of_ble_eq_true rfl, Nat.le_of_ble_eq_true rfl⟩), (ht _ zw_739), (ht _ zw_740)⟩ ⟨zPc_blind, va_recv hK hP (ci := 1) (q0 := 2) rfl rfl, zPc_pre hP hK hD hS hA hE [2, 3] [0] rfl rfl (by decide) rfl⟩ rfl rfl hl.1 rfl (lv_room (Nat.le_of_ble_eq_true rfl)) d_Reader_isBehindHours_20 ⟨Nat.le_of_ble_eq_true rfl, Nat.le_of_ble_eq_true rfl⟩) hP hD hS hA rfl rfl (by decide) (by decide) (fun r u H locs hv hP hD hS => ?_)
      have hP : va_P (dC, dI) zCl [(h0, .inr (8, o_Reader I0 a0_0 h2 h1)), (h1, .inr (9, o_Section I1)), (h2, .inr (1, o_Code I2 a2_0 h3 a2_3)), (h3, .inl (cA3, n3, .inl f3))] H := hP.sub [0, 1, 2, 3] rfl
      have hD : va_D A [(h0, .inr (8, o_Reader I0 a0_0 h2 h1)), (h1, .inr (9, o_Section I1)), (h2, .inr (1, o_Code I2 a2_0 h3 a2_3)), (h3, .inl (cA3, n3, .inl f3))] := hD.sub [0, 1, 2, 3] (by decide) rfl
      exact b_Reader_isBehindHours_23 hc hA hE hk4 (lv_sub hl [0, 1] rfl) hK hP hD hS hv
set_option maxHeartbeats 4000000 in
set_option maxRecDepth 100000 in
theorem b_Reader_isBehindHours_0 {h0 : Nat} {a0_0 : Nat} {h1 : Nat} {h2 : Nat} {a2_0 : Nat} {a2_3 : Nat} {h3 : Nat} {cA3 : ClassId} {I0 : Nat → Int32} {I1 : Nat → Int32} {I2 : Nat → Int32} {n3 : Nat} {f3 : Nat → Int32} {x1 : Int32}  {Z : Int32 → Unit → Prop} {H : Heap} {locs : List Loc} {ls : Array Slot} (hc : zC p s m args meth c prog_9_method_31_code (some .boolean) 4 "NumberDress$Reader") (hA : ∀ q : Nat, s.heap.size ≤ q → A q) (hE : zE gE A s) (hl : lv_has ls 4 [(0, .ref h0), (1, .int x1)]) (hK : va_K (dC, dI) zCl [(cA3, .int)] s) (hP : va_P (dC, dI) zCl [(h0, .inr (8, o_Reader I0 a0_0 h2 h1)), (h1, .inr (9, o_Section I1)), (h2, .inr (1, o_Code I2 a2_0 h3 a2_3)), (h3, .inl (cA3, n3, .inl f3))] H) (hD : va_D A [(h0, .inr (8, o_Reader I0 a0_0 h2 h1)), (h1, .inr (9, o_Section I1)), (h2, .inr (1, o_Code I2 a2_0 h3 a2_3)), (h3, .inl (cA3, n3, .inl f3))]) (hS : va_S A s.heap H locs) (hv : v_Reader_isBehindHours_0 I0 I1 I2 n3 f3 x1  Z) : W p l e (headSpec (Cond.code (⟨"NumberDress$Reader", "isBehindHours", "(I)Z"⟩ : MethodName) prog_9_method_31_code 4 (some .boolean) :: zT) { frames := 1, cells := 0, slots := 0, locals := 21 }).room s m args below meth c H locs 0 0 (MQ below (va_Qi Z (zB (dC, dI) zCl [(cA3, .int)] A (fun u : Unit => [(h0, .inr (8, o_Reader I0 a0_0 h2 h1)), (h1, .inr (9, o_Section I1)), (h2, .inr (1, o_Code I2 a2_0 h3 a2_3)), (h3, .inl (cA3, n3, .inl f3))])) A) args s 0 0 A) (F0 m 0 ls []) := by
  obtain ⟨hx, hb, hr, hml, hown, ht, hlocks⟩ := id hc
  unfold v_Reader_isBehindHours_0 at hv
  refine lv_iload_n hx hb d_Reader_isBehindHours_0 rfl (lv_at hl 1 rfl) ?_
  refine lv_iconst (v := (1 : Int32)) hx hb d_Reader_isBehindHours_1 (by decide) ?_
  refine lv_isub hx hb d_Reader_isBehindHours_2 ?_
  refine lv_istore_n (lv' := [(2, .int (x1 - (1 : Int32))), (0, .ref h0), (1, .int x1)]) hx hb d_Reader_isBehindHours_3 rfl hl (by decide) rfl (fun ls hl => ?_)
  obtain ⟨Nx, hv⟩ := hv
  exact b_Reader_isBehindHours_4 hc hA hE  Nx (x1 - (1 : Int32)) _ _ _ (lv_sub hl [1, 0] rfl) hK hP hD hS hv
theorem zi_Reader_isBehindHours : Cond.code (⟨"NumberDress$Reader", "isBehindHours", "(I)Z"⟩ : MethodName) prog_9_method_31_code 4 (some .boolean) ∈ zT := zw_812
theorem zh_Reader_isBehindHours : (((⟨"NumberDress$Reader", "isBehindHours", "(I)Z"⟩ : MethodName)).cls ≠ "java/lang/invoke/MethodHandle" ∧ ((⟨"NumberDress$Reader", "isBehindHours", "(I)Z"⟩ : MethodName)).cls ≠ "java/lang/invoke/VarHandle" ∧ (parseMethodDescriptor ((⟨"NumberDress$Reader", "isBehindHours", "(I)Z"⟩ : MethodName)).desc).map (fun d => d.parameters.length) = some 1) := by decide +kernel
set_option maxHeartbeats 4000000 in
set_option maxRecDepth 100000 in
theorem m_Reader_isBehindHours (l : Launch) (dC : Nat → ClassId) (dI : Nat → Nat → Nat) {gE : zG} {h0 : Nat} {a0_0 : Nat} {h1 : Nat} {h2 : Nat} {a2_0 : Nat} {a2_3 : Nat} {h3 : Nat} {cA3 : ClassId} {I0 : Nat → Int32} {I1 : Nat → Int32} {I2 : Nat → Int32} {n3 : Nat} {f3 : Nat → Int32} {x1 : Int32} {sz : Nat} {Z : Int32 → Unit → Prop} (hv : v_Reader_isBehindHours_0 I0 I1 I2 n3 f3 x1 Z) : Met l (⟨"NumberDress$Reader", "isBehindHours", "(I)Z"⟩ : MethodName) (Cond.code (⟨"NumberDress$Reader", "isBehindHours", "(I)Z"⟩ : MethodName) prog_9_method_31_code 4 (some .boolean) :: zT) { frames := 1, cells := 0, slots := 0, locals := 21 } (zPc gE (dC, dI) zCl [(cA3, .int)] [.ref h0, .int x1] sz [(h0, .inr (8, o_Reader I0 a0_0 h2 h1)), (h1, .inr (9, o_Section I1)), (h2, .inr (1, o_Code I2 a2_0 h3 a2_3)), (h3, .inl (cA3, n3, .inl f3))]) (va_Qi Z (zB (dC, dI) zCl [(cA3, .int)] (va_A [(h0, .inr (8, o_Reader I0 a0_0 h2 h1)), (h1, .inr (9, o_Section I1)), (h2, .inr (1, o_Code I2 a2_0 h3 a2_3)), (h3, .inl (cA3, n3, .inl f3))] sz) (fun u : Unit => [(h0, .inr (8, o_Reader I0 a0_0 h2 h1)), (h1, .inr (9, o_Section I1)), (h2, .inr (1, o_Code I2 a2_0 h3 a2_3)), (h3, .inl (cA3, n3, .inl f3))])) (va_A [(h0, .inr (8, o_Reader I0 a0_0 h2 h1)), (h1, .inr (9, o_Section I1)), (h2, .inr (1, o_Code I2 a2_0 h3 a2_3)), (h3, .inl (cA3, n3, .inl f3))] sz)) 0 0 (va_A [(h0, .inr (8, o_Reader I0 a0_0 h2 h1)), (h1, .inr (9, o_Section I1)), (h2, .inr (1, o_Code I2 a2_0 h3 a2_3)), (h3, .inl (cA3, n3, .inl f3))] sz) := by
  refine Met.ofW (cc := prog_9_method_31_code) (maxL := 4) (ret := (some .boolean)) (by decide +kernel) rfl ?_
  intro p e s m args below meth c s₁ B hml hp
  obtain ⟨rfl, hsz, hP, hK, hD0, hE⟩ := hp
  have hts := atoms_spec (ws := (Cond.code (⟨"NumberDress$Reader", "isBehindHours", "(I)Z"⟩ : MethodName) prog_9_method_31_code 4 (some .boolean) :: zT)) B.pre
  have hown : s.vm.findClass "NumberDress$Reader" = some m.cls := findClass_of_methodNamed B.named
  have hc : zC p s m _ meth c prog_9_method_31_code (some .boolean) 4 "NumberDress$Reader" := ⟨B.exec, B.bytes, B.returns, hml, hown, fun w h => hts w (List.mem_cons_of_mem _ h), B.notSynchronized⟩
  subst hsz
  have hD := hD0.self (sz := s.heap.size)
  generalize hAe : va_A [(h0, .inr (8, o_Reader I0 a0_0 h2 h1)), (h1, .inr (9, o_Section I1)), (h2, .inr (1, o_Code I2 a2_0 h3 a2_3)), (h3, .inl (cA3, n3, .inl f3))] s.heap.size = A at hD hE ⊢
  have hA : ∀ q : Nat, s.heap.size ≤ q → A q := fun q h => by rw [← hAe]; exact Or.inr h
  have hl := lv_entry ([.ref h0, .int x1]) (n := 4) (Nat.le_of_ble_eq_true rfl)
  rw [lg_entry_eq]
  exact b_Reader_isBehindHours_0 hc hA hE hl hK hP hD va_S.rf hv
theorem d_Reader_findMinutes_0 : decode prog_9_method_30_code 0 = .ok (.aload_n 0, 1) := by decide +kernel
theorem d_Reader_findMinutes_1 : decode prog_9_method_30_code 1 = .ok (.getfield 25, 3) := by decide +kernel
theorem d_Reader_findMinutes_4 : decode prog_9_method_30_code 4 = .ok (.getfield 210, 3) := by decide +kernel
theorem d_Reader_findMinutes_7 : decode prog_9_method_30_code 7 = .ok (.istore_n 1, 1) := by decide +kernel
theorem d_Reader_findMinutes_8 : decode prog_9_method_30_code 8 = .ok (.iload_n 1, 1) := by decide +kernel
theorem d_Reader_findMinutes_9 : decode prog_9_method_30_code 9 = .ok (.aload_n 0, 1) := by decide +kernel
theorem d_Reader_findMinutes_10 : decode prog_9_method_30_code 10 = .ok (.getfield 25, 3) := by decide +kernel
theorem d_Reader_findMinutes_13 : decode prog_9_method_30_code 13 = .ok (.getfield 80, 3) := by decide +kernel
theorem d_Reader_findMinutes_16 : decode prog_9_method_30_code 16 = .ok (.if_icmp .ge 70, 3) := by decide +kernel
theorem d_Reader_findMinutes_19 : decode prog_9_method_30_code 19 = .ok (.aload_n 0, 1) := by decide +kernel
theorem d_Reader_findMinutes_20 : decode prog_9_method_30_code 20 = .ok (.getfield 18, 3) := by decide +kernel
theorem d_Reader_findMinutes_23 : decode prog_9_method_30_code 23 = .ok (.iload_n 1, 1) := by decide +kernel
theorem d_Reader_findMinutes_24 : decode prog_9_method_30_code 24 = .ok (.invokevirtual 213, 3) := by decide +kernel
theorem d_Reader_findMinutes_27 : decode prog_9_method_30_code 27 = .ok (.bipush 21, 2) := by decide +kernel
theorem d_Reader_findMinutes_29 : decode prog_9_method_30_code 29 = .ok (.if_icmp .ne 19, 3) := by decide +kernel
theorem d_Reader_findMinutes_32 : decode prog_9_method_30_code 32 = .ok (.aload_n 0, 1) := by decide +kernel
theorem d_Reader_findMinutes_33 : decode prog_9_method_30_code 33 = .ok (.getfield 18, 3) := by decide +kernel
theorem d_Reader_findMinutes_36 : decode prog_9_method_30_code 36 = .ok (.iload_n 1, 1) := by decide +kernel
theorem d_Reader_findMinutes_37 : decode prog_9_method_30_code 37 = .ok (.invokevirtual 249, 3) := by decide +kernel
theorem d_Reader_findMinutes_40 : decode prog_9_method_30_code 40 = .ok (.iconst 2, 1) := by decide +kernel
theorem d_Reader_findMinutes_41 : decode prog_9_method_30_code 41 = .ok (.if_icmp .gt 7, 3) := by decide +kernel
theorem d_Reader_findMinutes_44 : decode prog_9_method_30_code 44 = .ok (.iconst 1, 1) := by decide +kernel
theorem d_Reader_findMinutes_45 : decode prog_9_method_30_code 45 = .ok (.goto 4, 3) := by decide +kernel
theorem d_Reader_findMinutes_48 : decode prog_9_method_30_code 48 = .ok (.iconst 0, 1) := by decide +kernel
theorem d_Reader_findMinutes_49 : decode prog_9_method_30_code 49 = .ok (.istore_n 2, 1) := by decide +kernel
theorem d_Reader_findMinutes_50 : decode prog_9_method_30_code 50 = .ok (.iload_n 2, 1) := by decide +kernel
theorem d_Reader_findMinutes_51 : decode prog_9_method_30_code 51 = .ok (.ifCond .eq 29, 3) := by decide +kernel
theorem d_Reader_findMinutes_54 : decode prog_9_method_30_code 54 = .ok (.aload_n 0, 1) := by decide +kernel
theorem d_Reader_findMinutes_55 : decode prog_9_method_30_code 55 = .ok (.iload_n 1, 1) := by decide +kernel
theorem d_Reader_findMinutes_56 : decode prog_9_method_30_code 56 = .ok (.invokevirtual 252, 3) := by decide +kernel
theorem d_Reader_findMinutes_59 : decode prog_9_method_30_code 59 = .ok (.ifCond .ne 11, 3) := by decide +kernel
theorem d_Reader_findMinutes_62 : decode prog_9_method_30_code 62 = .ok (.aload_n 0, 1) := by decide +kernel
theorem d_Reader_findMinutes_63 : decode prog_9_method_30_code 63 = .ok (.iload_n 1, 1) := by decide +kernel
theorem d_Reader_findMinutes_64 : decode prog_9_method_30_code 64 = .ok (.invokevirtual 256, 3) := by decide +kernel
theorem d_Reader_findMinutes_67 : decode prog_9_method_30_code 67 = .ok (.ifCond .eq 13, 3) := by decide +kernel
theorem d_Reader_findMinutes_70 : decode prog_9_method_30_code 70 = .ok (.aload_n 0, 1) := by decide +kernel
theorem d_Reader_findMinutes_71 : decode prog_9_method_30_code 71 = .ok (.getfield 18, 3) := by decide +kernel
theorem d_Reader_findMinutes_74 : decode prog_9_method_30_code 74 = .ok (.iload_n 1, 1) := by decide +kernel
theorem d_Reader_findMinutes_75 : decode prog_9_method_30_code 75 = .ok (.bipush 24, 2) := by decide +kernel
theorem d_Reader_findMinutes_77 : decode prog_9_method_30_code 77 = .ok (.invokevirtual 215, 3) := by decide +kernel
theorem d_Reader_findMinutes_80 : decode prog_9_method_30_code 80 = .ok (.iinc 1 1, 3) := by decide +kernel
theorem d_Reader_findMinutes_83 : decode prog_9_method_30_code 83 = .ok (.goto (-75), 3) := by decide +kernel
theorem d_Reader_findMinutes_86 : decode prog_9_method_30_code 86 = .ok (.return_, 1) := by decide +kernel
set_option maxHeartbeats 4000000 in
set_option maxRecDepth 100000 in
theorem b_Reader_findMinutes_80 {h0 : Nat} {a0_0 : Nat} {h1 : Nat} {h2 : Nat} {a2_0 : Nat} {h3 : Nat} {cA3 : ClassId} {h4 : Nat} {cA4 : ClassId} {I0 : Nat → Int32} {I1 : Nat → Int32} {I2 : Nat → Int32} {n3 : Nat} {f3 : Nat → Int32} {n4 : Nat} {f4 : Nat → Int32} {x1 : Int32} {k8 : (Nat → Int32) → Int32 → Prop} {Z : (Nat → Int32) → Prop} {H : Heap} {locs : List Loc} {ls : Array Slot} (hc : zC p s m args meth c prog_9_method_30_code none 3 "NumberDress$Reader") (hA : ∀ q : Nat, s.heap.size ≤ q → A q) (hE : zE gE A s) (hk8 : ∀ (f3 : Nat → Int32) (x1 : Int32) (H : Heap) (locs : List Loc) (ls : Array Slot), lv_has ls 3 [(0, .ref h0), (1, .int x1)] → va_K (dC, dI) zCl [(cA3, .int), (cA4, .int)] s → va_P (dC, dI) zCl [(h0, .inr (8, o_Reader I0 a0_0 h2 h1)), (h1, .inr (9, o_Section I1)), (h2, .inr (1, o_Code I2 a2_0 h3 h4)), (h3, .inl (cA3, n3, .inl f3)), (h4, .inl (cA4, n4, .inl f4))] H → va_D A [(h0, .inr (8, o_Reader I0 a0_0 h2 h1)), (h1, .inr (9, o_Section I1)), (h2, .inr (1, o_Code I2 a2_0 h3 h4)), (h3, .inl (cA3, n3, .inl f3)), (h4, .inl (cA4, n4, .inl f4))] → va_S A s.heap H locs → k8 f3 x1 → W p l e (headSpec (Cond.code (⟨"NumberDress$Reader", "findMinutes", "()V"⟩ : MethodName) prog_9_method_30_code 3 none :: zT) { frames := 2, cells := 0, slots := 0, locals := 44 }).room s m args below meth c H locs 0 0 (MQ below (va_Qv Z (zB (dC, dI) zCl [(cA3, .int), (cA4, .int)] A (fun u : (Nat → Int32) => [(h0, .inr (8, o_Reader I0 a0_0 h2 h1)), (h1, .inr (9, o_Section I1)), (h2, .inr (1, o_Code I2 a2_0 h3 h4)), (h3, .inl (cA3, n3, .inl u)), (h4, .inl (cA4, n4, .inl f4))])) A) args s 0 0 A) (F0 m 8 ls [])) (hl : lv_has ls 3 [(0, .ref h0), (1, .int x1)]) (hK : va_K (dC, dI) zCl [(cA3, .int), (cA4, .int)] s) (hP : va_P (dC, dI) zCl [(h0, .inr (8, o_Reader I0 a0_0 h2 h1)), (h1, .inr (9, o_Section I1)), (h2, .inr (1, o_Code I2 a2_0 h3 h4)), (h3, .inl (cA3, n3, .inl f3)), (h4, .inl (cA4, n4, .inl f4))] H) (hD : va_D A [(h0, .inr (8, o_Reader I0 a0_0 h2 h1)), (h1, .inr (9, o_Section I1)), (h2, .inr (1, o_Code I2 a2_0 h3 h4)), (h3, .inl (cA3, n3, .inl f3)), (h4, .inl (cA4, n4, .inl f4))]) (hS : va_S A s.heap H locs) (hv : v_Reader_findMinutes_80 I0 I1 I2 n3 f3 n4 f4 x1 k8 Z) : W p l e (headSpec (Cond.code (⟨"NumberDress$Reader", "findMinutes", "()V"⟩ : MethodName) prog_9_method_30_code 3 none :: zT) { frames := 2, cells := 0, slots := 0, locals := 44 }).room s m args below meth c H locs 0 0 (MQ below (va_Qv Z (zB (dC, dI) zCl [(cA3, .int), (cA4, .int)] A (fun u : (Nat → Int32) => [(h0, .inr (8, o_Reader I0 a0_0 h2 h1)), (h1, .inr (9, o_Section I1)), (h2, .inr (1, o_Code I2 a2_0 h3 h4)), (h3, .inl (cA3, n3, .inl u)), (h4, .inl (cA4, n4, .inl f4))])) A) args s 0 0 A) (F0 m 80 ls []) := by
  obtain ⟨hx, hb, hr, hml, hown, ht, hlocks⟩ := id hc
  unfold v_Reader_findMinutes_80 at hv
  refine lv_iinc (v := (x1 + (1 : Int32))) (lv' := [(1, .int (x1 + (1 : Int32))), (0, .ref h0)]) hx hb d_Reader_findMinutes_80 hl (k := 1) rfl rfl (by decide) rfl (fun ls hl => ?_)
  refine lv_goto (tgt := 8) hx hb d_Reader_findMinutes_83 (by decide) ?_
  exact hk8 f3 (x1 + (1 : Int32)) _ _ _ (lv_sub hl [1, 0] rfl) hK hP hD hS hv
set_option maxHeartbeats 4000000 in
set_option maxRecDepth 100000 in
theorem b_Reader_findMinutes_70 {h0 : Nat} {a0_0 : Nat} {h1 : Nat} {h2 : Nat} {a2_0 : Nat} {h3 : Nat} {cA3 : ClassId} {h4 : Nat} {cA4 : ClassId} {I0 : Nat → Int32} {I1 : Nat → Int32} {I2 : Nat → Int32} {n3 : Nat} {f3 : Nat → Int32} {n4 : Nat} {f4 : Nat → Int32} {x1 : Int32} {k8 : (Nat → Int32) → Int32 → Prop} {Z : (Nat → Int32) → Prop} {H : Heap} {locs : List Loc} {ls : Array Slot} (hc : zC p s m args meth c prog_9_method_30_code none 3 "NumberDress$Reader") (hA : ∀ q : Nat, s.heap.size ≤ q → A q) (hE : zE gE A s) (hk8 : ∀ (f3 : Nat → Int32) (x1 : Int32) (H : Heap) (locs : List Loc) (ls : Array Slot), lv_has ls 3 [(0, .ref h0), (1, .int x1)] → va_K (dC, dI) zCl [(cA3, .int), (cA4, .int)] s → va_P (dC, dI) zCl [(h0, .inr (8, o_Reader I0 a0_0 h2 h1)), (h1, .inr (9, o_Section I1)), (h2, .inr (1, o_Code I2 a2_0 h3 h4)), (h3, .inl (cA3, n3, .inl f3)), (h4, .inl (cA4, n4, .inl f4))] H → va_D A [(h0, .inr (8, o_Reader I0 a0_0 h2 h1)), (h1, .inr (9, o_Section I1)), (h2, .inr (1, o_Code I2 a2_0 h3 h4)), (h3, .inl (cA3, n3, .inl f3)), (h4, .inl (cA4, n4, .inl f4))] → va_S A s.heap H locs → k8 f3 x1 → W p l e (headSpec (Cond.code (⟨"NumberDress$Reader", "findMinutes", "()V"⟩ : MethodName) prog_9_method_30_code 3 none :: zT) { frames := 2, cells := 0, slots := 0, locals := 44 }).room s m args below meth c H locs 0 0 (MQ below (va_Qv Z (zB (dC, dI) zCl [(cA3, .int), (cA4, .int)] A (fun u : (Nat → Int32) => [(h0, .inr (8, o_Reader I0 a0_0 h2 h1)), (h1, .inr (9, o_Section I1)), (h2, .inr (1, o_Code I2 a2_0 h3 h4)), (h3, .inl (cA3, n3, .inl u)), (h4, .inl (cA4, n4, .inl f4))])) A) args s 0 0 A) (F0 m 8 ls [])) (hl : lv_has ls 3 [(0, .ref h0), (1, .int x1)]) (hK : va_K (dC, dI) zCl [(cA3, .int), (cA4, .int)] s) (hP : va_P (dC, dI) zCl [(h0, .inr (8, o_Reader I0 a0_0 h2 h1)), (h1, .inr (9, o_Section I1)), (h2, .inr (1, o_Code I2 a2_0 h3 h4)), (h3, .inl (cA3, n3, .inl f3)), (h4, .inl (cA4, n4, .inl f4))] H) (hD : va_D A [(h0, .inr (8, o_Reader I0 a0_0 h2 h1)), (h1, .inr (9, o_Section I1)), (h2, .inr (1, o_Code I2 a2_0 h3 h4)), (h3, .inl (cA3, n3, .inl f3)), (h4, .inl (cA4, n4, .inl f4))]) (hS : va_S A s.heap H locs) (hv : v_Reader_findMinutes_70 I0 I1 I2 n3 f3 n4 f4 x1 k8 Z) : W p l e (headSpec (Cond.code (⟨"NumberDress$Reader", "findMinutes", "()V"⟩ : MethodName) prog_9_method_30_code 3 none :: zT) { frames := 2, cells := 0, slots := 0, locals := 44 }).room s m args below meth c H locs 0 0 (MQ below (va_Qv Z (zB (dC, dI) zCl [(cA3, .int), (cA4, .int)] A (fun u : (Nat → Int32) => [(h0, .inr (8, o_Reader I0 a0_0 h2 h1)), (h1, .inr (9, o_Section I1)), (h2, .inr (1, o_Code I2 a2_0 h3 h4)), (h3, .inl (cA3, n3, .inl u)), (h4, .inl (cA4, n4, .inl f4))])) A) args s 0 0 A) (F0 m 70 ls []) := by
  obtain ⟨hx, hb, hr, hml, hown, ht, hlocks⟩ := id hc
  unfold v_Reader_findMinutes_70 at hv
  refine lv_aload_n hx hb d_Reader_findMinutes_70 rfl (lv_at hl 0 rfl) ?_
  refine va_get (D := (dC, dI)) (ci := 8) (v := .ref h2) (C := "NumberDress$Reader") (T := T_Reader) (N := 5) hx hb ht zin_Reader hown hK hP 0 rfl rfl 2 (by decide) (ht _ zw_273) (fun _ h9 => h9) rfl d_Reader_findMinutes_71 ?_
  refine lv_iload_n hx hb d_Reader_findMinutes_74 rfl (lv_at hl 1 rfl) ?_
  refine lv_bipush (v := (24 : Int32)) hx hb d_Reader_findMinutes_75 (by decide) ?_
  refine z_callv (wc := [(h2, .inr (1, o_Code I2 a2_0 h3 h4)), (h3, .inl (cA3, n3, .inl f3))]) (wr := [(h0, .inr (8, o_Reader I0 a0_0 h2 h1)), (h1, .inr (9, o_Section I1)), (h4, .inl (cA4, n4, .inl f4))]) [2, 3] [0, 1, 4] (va_runV (As := [.int x1, .int (24 : Int32)]) (rest := []) ⟨hx, hb, hml, hown, ht⟩ (m_Code_change l dC dI hv) ⟨(callB_of 2 ht (zG_in zi_Code_change) rfl rfl rfl (ht _ zw_111) (ht _ zw_769) zh_Code_change ⟨Nat.le_of_ble_eq_true rfl, Nat.le_of_ble_eq_true rfl⟩), (ht _ zw_770), (ht _ zw_771)⟩ ⟨zPc_blind, va_recv hK hP (ci := 1) (q0 := 2) rfl rfl, zPc_pre hP hK hD hS hA hE [2, 3] [0] rfl rfl (by decide) rfl⟩ rfl rfl hl.1 rfl (lv_room (Nat.le_of_ble_eq_true rfl)) d_Reader_findMinutes_77 ⟨Nat.le_of_ble_eq_true rfl, Nat.le_of_ble_eq_true rfl⟩) hP hD hS hA rfl rfl (by decide) (by decide) (fun u H locs hv hP hD hS => ?_)
  have hP : va_P (dC, dI) zCl [(h0, .inr (8, o_Reader I0 a0_0 h2 h1)), (h1, .inr (9, o_Section I1)), (h2, .inr (1, o_Code I2 a2_0 h3 h4)), (h3, .inl (cA3, n3, .inl u)), (h4, .inl (cA4, n4, .inl f4))] H := hP.sub [0, 1, 3, 4, 2] rfl
  have hD : va_D A [(h0, .inr (8, o_Reader I0 a0_0 h2 h1)), (h1, .inr (9, o_Section I1)), (h2, .inr (1, o_Code I2 a2_0 h3 h4)), (h3, .inl (cA3, n3, .inl u)), (h4, .inl (cA4, n4, .inl f4))] := hD.sub [0, 1, 3, 4, 2] (by decide) rfl
  exact b_Reader_findMinutes_80 hc hA hE hk8 (lv_sub hl [0, 1] rfl) hK hP hD hS hv
set_option maxHeartbeats 4000000 in
set_option maxRecDepth 100000 in
theorem b_Reader_findMinutes_67 {h0 : Nat} {a0_0 : Nat} {h1 : Nat} {h2 : Nat} {a2_0 : Nat} {h3 : Nat} {cA3 : ClassId} {h4 : Nat} {cA4 : ClassId} {I0 : Nat → Int32} {I1 : Nat → Int32} {I2 : Nat → Int32} {n3 : Nat} {f3 : Nat → Int32} {n4 : Nat} {f4 : Nat → Int32} {x1 : Int32} {s0 : Int32} {k8 : (Nat → Int32) → Int32 → Prop} {Z : (Nat → Int32) → Prop} {H : Heap} {locs : List Loc} {ls : Array Slot} (hc : zC p s m args meth c prog_9_method_30_code none 3 "NumberDress$Reader") (hA : ∀ q : Nat, s.heap.size ≤ q → A q) (hE : zE gE A s) (hk8 : ∀ (f3 : Nat → Int32) (x1 : Int32) (H : Heap) (locs : List Loc) (ls : Array Slot), lv_has ls 3 [(0, .ref h0), (1, .int x1)] → va_K (dC, dI) zCl [(cA3, .int), (cA4, .int)] s → va_P (dC, dI) zCl [(h0, .inr (8, o_Reader I0 a0_0 h2 h1)), (h1, .inr (9, o_Section I1)), (h2, .inr (1, o_Code I2 a2_0 h3 h4)), (h3, .inl (cA3, n3, .inl f3)), (h4, .inl (cA4, n4, .inl f4))] H → va_D A [(h0, .inr (8, o_Reader I0 a0_0 h2 h1)), (h1, .inr (9, o_Section I1)), (h2, .inr (1, o_Code I2 a2_0 h3 h4)), (h3, .inl (cA3, n3, .inl f3)), (h4, .inl (cA4, n4, .inl f4))] → va_S A s.heap H locs → k8 f3 x1 → W p l e (headSpec (Cond.code (⟨"NumberDress$Reader", "findMinutes", "()V"⟩ : MethodName) prog_9_method_30_code 3 none :: zT) { frames := 2, cells := 0, slots := 0, locals := 44 }).room s m args below meth c H locs 0 0 (MQ below (va_Qv Z (zB (dC, dI) zCl [(cA3, .int), (cA4, .int)] A (fun u : (Nat → Int32) => [(h0, .inr (8, o_Reader I0 a0_0 h2 h1)), (h1, .inr (9, o_Section I1)), (h2, .inr (1, o_Code I2 a2_0 h3 h4)), (h3, .inl (cA3, n3, .inl u)), (h4, .inl (cA4, n4, .inl f4))])) A) args s 0 0 A) (F0 m 8 ls [])) (hl : lv_has ls 3 [(0, .ref h0), (1, .int x1)]) (hK : va_K (dC, dI) zCl [(cA3, .int), (cA4, .int)] s) (hP : va_P (dC, dI) zCl [(h0, .inr (8, o_Reader I0 a0_0 h2 h1)), (h1, .inr (9, o_Section I1)), (h2, .inr (1, o_Code I2 a2_0 h3 h4)), (h3, .inl (cA3, n3, .inl f3)), (h4, .inl (cA4, n4, .inl f4))] H) (hD : va_D A [(h0, .inr (8, o_Reader I0 a0_0 h2 h1)), (h1, .inr (9, o_Section I1)), (h2, .inr (1, o_Code I2 a2_0 h3 h4)), (h3, .inl (cA3, n3, .inl f3)), (h4, .inl (cA4, n4, .inl f4))]) (hS : va_S A s.heap H locs) (hv : v_Reader_findMinutes_67 I0 I1 I2 n3 f3 n4 f4 x1 s0 k8 Z) : W p l e (headSpec (Cond.code (⟨"NumberDress$Reader", "findMinutes", "()V"⟩ : MethodName) prog_9_method_30_code 3 none :: zT) { frames := 2, cells := 0, slots := 0, locals := 44 }).room s m args below meth c H locs 0 0 (MQ below (va_Qv Z (zB (dC, dI) zCl [(cA3, .int), (cA4, .int)] A (fun u : (Nat → Int32) => [(h0, .inr (8, o_Reader I0 a0_0 h2 h1)), (h1, .inr (9, o_Section I1)), (h2, .inr (1, o_Code I2 a2_0 h3 h4)), (h3, .inl (cA3, n3, .inl u)), (h4, .inl (cA4, n4, .inl f4))])) A) args s 0 0 A) (F0 m 67 ls [.int s0]) := by
  obtain ⟨hx, hb, hr, hml, hown, ht, hlocks⟩ := id hc
  unfold v_Reader_findMinutes_67 at hv
  refine lv_if_eq (tgt := 80) hx hb d_Reader_findMinutes_67 (by decide) (fun c_1 => ?_) (fun c_1 => ?_)
  · have hv := hv.1 c_1
    exact b_Reader_findMinutes_80 hc hA hE hk8 (lv_sub hl [0, 1] rfl) hK hP hD hS hv
  · have hv := hv.2 c_1
    exact b_Reader_findMinutes_70 hc hA hE hk8 (lv_sub hl [0, 1] rfl) hK hP hD hS hv
set_option maxHeartbeats 4000000 in
set_option maxRecDepth 100000 in
theorem b_Reader_findMinutes_59 {h0 : Nat} {a0_0 : Nat} {h1 : Nat} {h2 : Nat} {a2_0 : Nat} {h3 : Nat} {cA3 : ClassId} {h4 : Nat} {cA4 : ClassId} {I0 : Nat → Int32} {I1 : Nat → Int32} {I2 : Nat → Int32} {n3 : Nat} {f3 : Nat → Int32} {n4 : Nat} {f4 : Nat → Int32} {x1 : Int32} {s0 : Int32} {k8 : (Nat → Int32) → Int32 → Prop} {Z : (Nat → Int32) → Prop} {H : Heap} {locs : List Loc} {ls : Array Slot} (hc : zC p s m args meth c prog_9_method_30_code none 3 "NumberDress$Reader") (hA : ∀ q : Nat, s.heap.size ≤ q → A q) (hE : zE gE A s) (hk8 : ∀ (f3 : Nat → Int32) (x1 : Int32) (H : Heap) (locs : List Loc) (ls : Array Slot), lv_has ls 3 [(0, .ref h0), (1, .int x1)] → va_K (dC, dI) zCl [(cA3, .int), (cA4, .int)] s → va_P (dC, dI) zCl [(h0, .inr (8, o_Reader I0 a0_0 h2 h1)), (h1, .inr (9, o_Section I1)), (h2, .inr (1, o_Code I2 a2_0 h3 h4)), (h3, .inl (cA3, n3, .inl f3)), (h4, .inl (cA4, n4, .inl f4))] H → va_D A [(h0, .inr (8, o_Reader I0 a0_0 h2 h1)), (h1, .inr (9, o_Section I1)), (h2, .inr (1, o_Code I2 a2_0 h3 h4)), (h3, .inl (cA3, n3, .inl f3)), (h4, .inl (cA4, n4, .inl f4))] → va_S A s.heap H locs → k8 f3 x1 → W p l e (headSpec (Cond.code (⟨"NumberDress$Reader", "findMinutes", "()V"⟩ : MethodName) prog_9_method_30_code 3 none :: zT) { frames := 2, cells := 0, slots := 0, locals := 44 }).room s m args below meth c H locs 0 0 (MQ below (va_Qv Z (zB (dC, dI) zCl [(cA3, .int), (cA4, .int)] A (fun u : (Nat → Int32) => [(h0, .inr (8, o_Reader I0 a0_0 h2 h1)), (h1, .inr (9, o_Section I1)), (h2, .inr (1, o_Code I2 a2_0 h3 h4)), (h3, .inl (cA3, n3, .inl u)), (h4, .inl (cA4, n4, .inl f4))])) A) args s 0 0 A) (F0 m 8 ls [])) (hl : lv_has ls 3 [(0, .ref h0), (1, .int x1)]) (hK : va_K (dC, dI) zCl [(cA3, .int), (cA4, .int)] s) (hP : va_P (dC, dI) zCl [(h0, .inr (8, o_Reader I0 a0_0 h2 h1)), (h1, .inr (9, o_Section I1)), (h2, .inr (1, o_Code I2 a2_0 h3 h4)), (h3, .inl (cA3, n3, .inl f3)), (h4, .inl (cA4, n4, .inl f4))] H) (hD : va_D A [(h0, .inr (8, o_Reader I0 a0_0 h2 h1)), (h1, .inr (9, o_Section I1)), (h2, .inr (1, o_Code I2 a2_0 h3 h4)), (h3, .inl (cA3, n3, .inl f3)), (h4, .inl (cA4, n4, .inl f4))]) (hS : va_S A s.heap H locs) (hv : v_Reader_findMinutes_59 I0 I1 I2 n3 f3 n4 f4 x1 s0 k8 Z) : W p l e (headSpec (Cond.code (⟨"NumberDress$Reader", "findMinutes", "()V"⟩ : MethodName) prog_9_method_30_code 3 none :: zT) { frames := 2, cells := 0, slots := 0, locals := 44 }).room s m args below meth c H locs 0 0 (MQ below (va_Qv Z (zB (dC, dI) zCl [(cA3, .int), (cA4, .int)] A (fun u : (Nat → Int32) => [(h0, .inr (8, o_Reader I0 a0_0 h2 h1)), (h1, .inr (9, o_Section I1)), (h2, .inr (1, o_Code I2 a2_0 h3 h4)), (h3, .inl (cA3, n3, .inl u)), (h4, .inl (cA4, n4, .inl f4))])) A) args s 0 0 A) (F0 m 59 ls [.int s0]) := by
  obtain ⟨hx, hb, hr, hml, hown, ht, hlocks⟩ := id hc
  unfold v_Reader_findMinutes_59 at hv
  refine lv_if_ne (tgt := 70) hx hb d_Reader_findMinutes_59 (by decide) (fun c_1 => ?_) (fun c_1 => ?_)
  · have hv := hv.1 c_1
    exact b_Reader_findMinutes_70 hc hA hE hk8 (lv_sub hl [0, 1] rfl) hK hP hD hS hv
  · have hv := hv.2 c_1
    refine lv_aload_n hx hb d_Reader_findMinutes_62 rfl (lv_at hl 0 rfl) ?_
    refine lv_iload_n hx hb d_Reader_findMinutes_63 rfl (lv_at hl 1 rfl) ?_
    refine z_calli (wc := [(h0, .inr (8, o_Reader I0 a0_0 h2 h1)), (h1, .inr (9, o_Section I1)), (h2, .inr (1, o_Code I2 a2_0 h3 h4)), (h3, .inl (cA3, n3, .inl f3))]) (wr := [(h4, .inl (cA4, n4, .inl f4))]) [0, 1, 2, 3] [4] (va_runV (As := [.int x1]) (rest := []) ⟨hx, hb, hml, hown, ht⟩ (m_Reader_isBeforeSeconds l dC dI hv) ⟨(callB_of 1 ht (zG_in zi_Reader_isBeforeSeconds) rfl rfl rfl (ht _ zw_113) (ht _ zw_813) zh_Reader_isBeforeSeconds ⟨Nat.le_of_ble_eq_true rfl, Nat.le_of_ble_eq_true rfl⟩), (ht _ zw_815), (ht _ zw_35)⟩ ⟨zPc_blind, va_recv hK hP (ci := 8) (q0 := 0) rfl rfl, zPc_pre hP hK hD hS hA hE [0, 1, 2, 3] [0] rfl rfl (by decide) rfl⟩ rfl rfl hl.1 rfl (lv_room (Nat.le_of_ble_eq_true rfl)) d_Reader_findMinutes_64 ⟨Nat.le_of_ble_eq_true rfl, Nat.le_of_ble_eq_true rfl⟩) hP hD hS hA rfl rfl (by decide) (by decide) (fun r u H locs hv hP hD hS => ?_)
    have hP : va_P (dC, dI) zCl [(h0, .inr (8, o_Reader I0 a0_0 h2 h1)), (h1, .inr (9, o_Section I1)), (h2, .inr (1, o_Code I2 a2_0 h3 h4)), (h3, .inl (cA3, n3, .inl f3)), (h4, .inl (cA4, n4, .inl f4))] H := hP.sub [1, 2, 3, 4, 0] rfl
    have hD : va_D A [(h0, .inr (8, o_Reader I0 a0_0 h2 h1)), (h1, .inr (9, o_Section I1)), (h2, .inr (1, o_Code I2 a2_0 h3 h4)), (h3, .inl (cA3, n3, .inl f3)), (h4, .inl (cA4, n4, .inl f4))] := hD.sub [1, 2, 3, 4, 0] (by decide) rfl
    exact b_Reader_findMinutes_67 hc hA hE hk8 (lv_sub hl [0, 1] rfl) hK hP hD hS hv
set_option maxHeartbeats 4000000 in
set_option maxRecDepth 100000 in
theorem b_Reader_findMinutes_49 {h0 : Nat} {a0_0 : Nat} {h1 : Nat} {h2 : Nat} {a2_0 : Nat} {h3 : Nat} {cA3 : ClassId} {h4 : Nat} {cA4 : ClassId} {I0 : Nat → Int32} {I1 : Nat → Int32} {I2 : Nat → Int32} {n3 : Nat} {f3 : Nat → Int32} {n4 : Nat} {f4 : Nat → Int32} {x1 : Int32} {s0 : Int32} {k8 : (Nat → Int32) → Int32 → Prop} {Z : (Nat → Int32) → Prop} {H : Heap} {locs : List Loc} {ls : Array Slot} (hc : zC p s m args meth c prog_9_method_30_code none 3 "NumberDress$Reader") (hA : ∀ q : Nat, s.heap.size ≤ q → A q) (hE : zE gE A s) (hk8 : ∀ (f3 : Nat → Int32) (x1 : Int32) (H : Heap) (locs : List Loc) (ls : Array Slot), lv_has ls 3 [(0, .ref h0), (1, .int x1)] → va_K (dC, dI) zCl [(cA3, .int), (cA4, .int)] s → va_P (dC, dI) zCl [(h0, .inr (8, o_Reader I0 a0_0 h2 h1)), (h1, .inr (9, o_Section I1)), (h2, .inr (1, o_Code I2 a2_0 h3 h4)), (h3, .inl (cA3, n3, .inl f3)), (h4, .inl (cA4, n4, .inl f4))] H → va_D A [(h0, .inr (8, o_Reader I0 a0_0 h2 h1)), (h1, .inr (9, o_Section I1)), (h2, .inr (1, o_Code I2 a2_0 h3 h4)), (h3, .inl (cA3, n3, .inl f3)), (h4, .inl (cA4, n4, .inl f4))] → va_S A s.heap H locs → k8 f3 x1 → W p l e (headSpec (Cond.code (⟨"NumberDress$Reader", "findMinutes", "()V"⟩ : MethodName) prog_9_method_30_code 3 none :: zT) { frames := 2, cells := 0, slots := 0, locals := 44 }).room s m args below meth c H locs 0 0 (MQ below (va_Qv Z (zB (dC, dI) zCl [(cA3, .int), (cA4, .int)] A (fun u : (Nat → Int32) => [(h0, .inr (8, o_Reader I0 a0_0 h2 h1)), (h1, .inr (9, o_Section I1)), (h2, .inr (1, o_Code I2 a2_0 h3 h4)), (h3, .inl (cA3, n3, .inl u)), (h4, .inl (cA4, n4, .inl f4))])) A) args s 0 0 A) (F0 m 8 ls [])) (hl : lv_has ls 3 [(0, .ref h0), (1, .int x1)]) (hK : va_K (dC, dI) zCl [(cA3, .int), (cA4, .int)] s) (hP : va_P (dC, dI) zCl [(h0, .inr (8, o_Reader I0 a0_0 h2 h1)), (h1, .inr (9, o_Section I1)), (h2, .inr (1, o_Code I2 a2_0 h3 h4)), (h3, .inl (cA3, n3, .inl f3)), (h4, .inl (cA4, n4, .inl f4))] H) (hD : va_D A [(h0, .inr (8, o_Reader I0 a0_0 h2 h1)), (h1, .inr (9, o_Section I1)), (h2, .inr (1, o_Code I2 a2_0 h3 h4)), (h3, .inl (cA3, n3, .inl f3)), (h4, .inl (cA4, n4, .inl f4))]) (hS : va_S A s.heap H locs) (hv : v_Reader_findMinutes_49 I0 I1 I2 n3 f3 n4 f4 x1 s0 k8 Z) : W p l e (headSpec (Cond.code (⟨"NumberDress$Reader", "findMinutes", "()V"⟩ : MethodName) prog_9_method_30_code 3 none :: zT) { frames := 2, cells := 0, slots := 0, locals := 44 }).room s m args below meth c H locs 0 0 (MQ below (va_Qv Z (zB (dC, dI) zCl [(cA3, .int), (cA4, .int)] A (fun u : (Nat → Int32) => [(h0, .inr (8, o_Reader I0 a0_0 h2 h1)), (h1, .inr (9, o_Section I1)), (h2, .inr (1, o_Code I2 a2_0 h3 h4)), (h3, .inl (cA3, n3, .inl u)), (h4, .inl (cA4, n4, .inl f4))])) A) args s 0 0 A) (F0 m 49 ls [.int s0]) := by
  obtain ⟨hx, hb, hr, hml, hown, ht, hlocks⟩ := id hc
  unfold v_Reader_findMinutes_49 at hv
  refine lv_istore_n (lv' := [(2, .int s0), (0, .ref h0), (1, .int x1)]) hx hb d_Reader_findMinutes_49 rfl hl (by decide) rfl (fun ls hl => ?_)
  refine lv_iload_n hx hb d_Reader_findMinutes_50 rfl (lv_at hl 0 rfl) ?_
  refine lv_if_eq (tgt := 80) hx hb d_Reader_findMinutes_51 (by decide) (fun c_1 => ?_) (fun c_1 => ?_)
  · have hv := hv.1 c_1
    exact b_Reader_findMinutes_80 hc hA hE hk8 (lv_sub hl [1, 2] rfl) hK hP hD hS hv
  · have hv := hv.2 c_1
    refine lv_aload_n hx hb d_Reader_findMinutes_54 rfl (lv_at hl 1 rfl) ?_
    refine lv_iload_n hx hb d_Reader_findMinutes_55 rfl (lv_at hl 2 rfl) ?_
    refine z_calli (wc := [(h0, .inr (8, o_Reader I0 a0_0 h2 h1)), (h1, .inr (9, o_Section I1)), (h2, .inr (1, o_Code I2 a2_0 h3 h4)), (h3, .inl (cA3, n3, .inl f3))]) (wr := [(h4, .inl (cA4, n4, .inl f4))]) [0, 1, 2, 3] [4] (va_runV (As := [.int x1]) (rest := []) ⟨hx, hb, hml, hown, ht⟩ (m_Reader_isBehindHours l dC dI hv) ⟨(callB_of 1 ht (zG_in zi_Reader_isBehindHours) rfl rfl rfl (ht _ zw_113) (ht _ zw_809) zh_Reader_isBehindHours ⟨Nat.le_of_ble_eq_true rfl, Nat.le_of_ble_eq_true rfl⟩), (ht _ zw_811), (ht _ zw_34)⟩ ⟨zPc_blind, va_recv hK hP (ci := 8) (q0 := 0) rfl rfl, zPc_pre hP hK hD hS hA hE [0, 1, 2, 3] [0] rfl rfl (by decide) rfl⟩ rfl rfl hl.1 rfl (lv_room (Nat.le_of_ble_eq_true rfl)) d_Reader_findMinutes_56 ⟨Nat.le_of_ble_eq_true rfl, Nat.le_of_ble_eq_true rfl⟩) hP hD hS hA rfl rfl (by decide) (by decide) (fun r u H locs hv hP hD hS => ?_)
    have hP : va_P (dC, dI) zCl [(h0, .inr (8, o_Reader I0 a0_0 h2 h1)), (h1, .inr (9, o_Section I1)), (h2, .inr (1, o_Code I2 a2_0 h3 h4)), (h3, .inl (cA3, n3, .inl f3)), (h4, .inl (cA4, n4, .inl f4))] H := hP.sub [1, 2, 3, 4, 0] rfl
    have hD : va_D A [(h0, .inr (8, o_Reader I0 a0_0 h2 h1)), (h1, .inr (9, o_Section I1)), (h2, .inr (1, o_Code I2 a2_0 h3 h4)), (h3, .inl (cA3, n3, .inl f3)), (h4, .inl (cA4, n4, .inl f4))] := hD.sub [1, 2, 3, 4, 0] (by decide) rfl
    exact b_Reader_findMinutes_59 hc hA hE hk8 (lv_sub hl [1, 2] rfl) hK hP hD hS hv
set_option maxHeartbeats 4000000 in
set_option maxRecDepth 100000 in
theorem b_Reader_findMinutes_48 {h0 : Nat} {a0_0 : Nat} {h1 : Nat} {h2 : Nat} {a2_0 : Nat} {h3 : Nat} {cA3 : ClassId} {h4 : Nat} {cA4 : ClassId} {I0 : Nat → Int32} {I1 : Nat → Int32} {I2 : Nat → Int32} {n3 : Nat} {f3 : Nat → Int32} {n4 : Nat} {f4 : Nat → Int32} {x1 : Int32} {k8 : (Nat → Int32) → Int32 → Prop} {Z : (Nat → Int32) → Prop} {H : Heap} {locs : List Loc} {ls : Array Slot} (hc : zC p s m args meth c prog_9_method_30_code none 3 "NumberDress$Reader") (hA : ∀ q : Nat, s.heap.size ≤ q → A q) (hE : zE gE A s) (hk8 : ∀ (f3 : Nat → Int32) (x1 : Int32) (H : Heap) (locs : List Loc) (ls : Array Slot), lv_has ls 3 [(0, .ref h0), (1, .int x1)] → va_K (dC, dI) zCl [(cA3, .int), (cA4, .int)] s → va_P (dC, dI) zCl [(h0, .inr (8, o_Reader I0 a0_0 h2 h1)), (h1, .inr (9, o_Section I1)), (h2, .inr (1, o_Code I2 a2_0 h3 h4)), (h3, .inl (cA3, n3, .inl f3)), (h4, .inl (cA4, n4, .inl f4))] H → va_D A [(h0, .inr (8, o_Reader I0 a0_0 h2 h1)), (h1, .inr (9, o_Section I1)), (h2, .inr (1, o_Code I2 a2_0 h3 h4)), (h3, .inl (cA3, n3, .inl f3)), (h4, .inl (cA4, n4, .inl f4))] → va_S A s.heap H locs → k8 f3 x1 → W p l e (headSpec (Cond.code (⟨"NumberDress$Reader", "findMinutes", "()V"⟩ : MethodName) prog_9_method_30_code 3 none :: zT) { frames := 2, cells := 0, slots := 0, locals := 44 }).room s m args below meth c H locs 0 0 (MQ below (va_Qv Z (zB (dC, dI) zCl [(cA3, .int), (cA4, .int)] A (fun u : (Nat → Int32) => [(h0, .inr (8, o_Reader I0 a0_0 h2 h1)), (h1, .inr (9, o_Section I1)), (h2, .inr (1, o_Code I2 a2_0 h3 h4)), (h3, .inl (cA3, n3, .inl u)), (h4, .inl (cA4, n4, .inl f4))])) A) args s 0 0 A) (F0 m 8 ls [])) (hl : lv_has ls 3 [(0, .ref h0), (1, .int x1)]) (hK : va_K (dC, dI) zCl [(cA3, .int), (cA4, .int)] s) (hP : va_P (dC, dI) zCl [(h0, .inr (8, o_Reader I0 a0_0 h2 h1)), (h1, .inr (9, o_Section I1)), (h2, .inr (1, o_Code I2 a2_0 h3 h4)), (h3, .inl (cA3, n3, .inl f3)), (h4, .inl (cA4, n4, .inl f4))] H) (hD : va_D A [(h0, .inr (8, o_Reader I0 a0_0 h2 h1)), (h1, .inr (9, o_Section I1)), (h2, .inr (1, o_Code I2 a2_0 h3 h4)), (h3, .inl (cA3, n3, .inl f3)), (h4, .inl (cA4, n4, .inl f4))]) (hS : va_S A s.heap H locs) (hv : v_Reader_findMinutes_48 I0 I1 I2 n3 f3 n4 f4 x1 k8 Z) : W p l e (headSpec (Cond.code (⟨"NumberDress$Reader", "findMinutes", "()V"⟩ : MethodName) prog_9_method_30_code 3 none :: zT) { frames := 2, cells := 0, slots := 0, locals := 44 }).room s m args below meth c H locs 0 0 (MQ below (va_Qv Z (zB (dC, dI) zCl [(cA3, .int), (cA4, .int)] A (fun u : (Nat → Int32) => [(h0, .inr (8, o_Reader I0 a0_0 h2 h1)), (h1, .inr (9, o_Section I1)), (h2, .inr (1, o_Code I2 a2_0 h3 h4)), (h3, .inl (cA3, n3, .inl u)), (h4, .inl (cA4, n4, .inl f4))])) A) args s 0 0 A) (F0 m 48 ls []) := by
  obtain ⟨hx, hb, hr, hml, hown, ht, hlocks⟩ := id hc
  unfold v_Reader_findMinutes_48 at hv
  refine lv_iconst (v := (0 : Int32)) hx hb d_Reader_findMinutes_48 (by decide) ?_
  exact b_Reader_findMinutes_49 hc hA hE hk8 (lv_sub hl [0, 1] rfl) hK hP hD hS hv
set_option maxHeartbeats 4000000 in
set_option maxRecDepth 100000 in
theorem b_Reader_findMinutes_40 {h0 : Nat} {a0_0 : Nat} {h1 : Nat} {h2 : Nat} {a2_0 : Nat} {h3 : Nat} {cA3 : ClassId} {h4 : Nat} {cA4 : ClassId} {I0 : Nat → Int32} {I1 : Nat → Int32} {I2 : Nat → Int32} {n3 : Nat} {f3 : Nat → Int32} {n4 : Nat} {f4 : Nat → Int32} {x1 : Int32} {s0 : Int32} {k8 : (Nat → Int32) → Int32 → Prop} {Z : (Nat → Int32) → Prop} {H : Heap} {locs : List Loc} {ls : Array Slot} (hc : zC p s m args meth c prog_9_method_30_code none 3 "NumberDress$Reader") (hA : ∀ q : Nat, s.heap.size ≤ q → A q) (hE : zE gE A s) (hk8 : ∀ (f3 : Nat → Int32) (x1 : Int32) (H : Heap) (locs : List Loc) (ls : Array Slot), lv_has ls 3 [(0, .ref h0), (1, .int x1)] → va_K (dC, dI) zCl [(cA3, .int), (cA4, .int)] s → va_P (dC, dI) zCl [(h0, .inr (8, o_Reader I0 a0_0 h2 h1)), (h1, .inr (9, o_Section I1)), (h2, .inr (1, o_Code I2 a2_0 h3 h4)), (h3, .inl (cA3, n3, .inl f3)), (h4, .inl (cA4, n4, .inl f4))] H → va_D A [(h0, .inr (8, o_Reader I0 a0_0 h2 h1)), (h1, .inr (9, o_Section I1)), (h2, .inr (1, o_Code I2 a2_0 h3 h4)), (h3, .inl (cA3, n3, .inl f3)), (h4, .inl (cA4, n4, .inl f4))] → va_S A s.heap H locs → k8 f3 x1 → W p l e (headSpec (Cond.code (⟨"NumberDress$Reader", "findMinutes", "()V"⟩ : MethodName) prog_9_method_30_code 3 none :: zT) { frames := 2, cells := 0, slots := 0, locals := 44 }).room s m args below meth c H locs 0 0 (MQ below (va_Qv Z (zB (dC, dI) zCl [(cA3, .int), (cA4, .int)] A (fun u : (Nat → Int32) => [(h0, .inr (8, o_Reader I0 a0_0 h2 h1)), (h1, .inr (9, o_Section I1)), (h2, .inr (1, o_Code I2 a2_0 h3 h4)), (h3, .inl (cA3, n3, .inl u)), (h4, .inl (cA4, n4, .inl f4))])) A) args s 0 0 A) (F0 m 8 ls [])) (hl : lv_has ls 3 [(0, .ref h0), (1, .int x1)]) (hK : va_K (dC, dI) zCl [(cA3, .int), (cA4, .int)] s) (hP : va_P (dC, dI) zCl [(h0, .inr (8, o_Reader I0 a0_0 h2 h1)), (h1, .inr (9, o_Section I1)), (h2, .inr (1, o_Code I2 a2_0 h3 h4)), (h3, .inl (cA3, n3, .inl f3)), (h4, .inl (cA4, n4, .inl f4))] H) (hD : va_D A [(h0, .inr (8, o_Reader I0 a0_0 h2 h1)), (h1, .inr (9, o_Section I1)), (h2, .inr (1, o_Code I2 a2_0 h3 h4)), (h3, .inl (cA3, n3, .inl f3)), (h4, .inl (cA4, n4, .inl f4))]) (hS : va_S A s.heap H locs) (hv : v_Reader_findMinutes_40 I0 I1 I2 n3 f3 n4 f4 x1 s0 k8 Z) : W p l e (headSpec (Cond.code (⟨"NumberDress$Reader", "findMinutes", "()V"⟩ : MethodName) prog_9_method_30_code 3 none :: zT) { frames := 2, cells := 0, slots := 0, locals := 44 }).room s m args below meth c H locs 0 0 (MQ below (va_Qv Z (zB (dC, dI) zCl [(cA3, .int), (cA4, .int)] A (fun u : (Nat → Int32) => [(h0, .inr (8, o_Reader I0 a0_0 h2 h1)), (h1, .inr (9, o_Section I1)), (h2, .inr (1, o_Code I2 a2_0 h3 h4)), (h3, .inl (cA3, n3, .inl u)), (h4, .inl (cA4, n4, .inl f4))])) A) args s 0 0 A) (F0 m 40 ls [.int s0]) := by
  obtain ⟨hx, hb, hr, hml, hown, ht, hlocks⟩ := id hc
  unfold v_Reader_findMinutes_40 at hv
  refine lv_iconst (v := (2 : Int32)) hx hb d_Reader_findMinutes_40 (by decide) ?_
  refine lv_icmp_gt (tgt := 48) hx hb d_Reader_findMinutes_41 (by decide) (fun c_1 => ?_) (fun c_1 => ?_)
  · have hv := hv.1 c_1
    exact b_Reader_findMinutes_48 hc hA hE hk8 (lv_sub hl [0, 1] rfl) hK hP hD hS hv
  · have hv := hv.2 c_1
    refine lv_iconst (v := (1 : Int32)) hx hb d_Reader_findMinutes_44 (by decide) ?_
    refine lv_goto (tgt := 49) hx hb d_Reader_findMinutes_45 (by decide) ?_
    exact b_Reader_findMinutes_49 hc hA hE hk8 (lv_sub hl [0, 1] rfl) hK hP hD hS hv
set_option maxHeartbeats 4000000 in
set_option maxRecDepth 100000 in
theorem b_Reader_findMinutes_27 {h0 : Nat} {a0_0 : Nat} {h1 : Nat} {h2 : Nat} {a2_0 : Nat} {h3 : Nat} {cA3 : ClassId} {h4 : Nat} {cA4 : ClassId} {I0 : Nat → Int32} {I1 : Nat → Int32} {I2 : Nat → Int32} {n3 : Nat} {f3 : Nat → Int32} {n4 : Nat} {f4 : Nat → Int32} {x1 : Int32} {s0 : Int32} {k8 : (Nat → Int32) → Int32 → Prop} {Z : (Nat → Int32) → Prop} {H : Heap} {locs : List Loc} {ls : Array Slot} (hc : zC p s m args meth c prog_9_method_30_code none 3 "NumberDress$Reader") (hA : ∀ q : Nat, s.heap.size ≤ q → A q) (hE : zE gE A s) (hk8 : ∀ (f3 : Nat → Int32) (x1 : Int32) (H : Heap) (locs : List Loc) (ls : Array Slot), lv_has ls 3 [(0, .ref h0), (1, .int x1)] → va_K (dC, dI) zCl [(cA3, .int), (cA4, .int)] s → va_P (dC, dI) zCl [(h0, .inr (8, o_Reader I0 a0_0 h2 h1)), (h1, .inr (9, o_Section I1)), (h2, .inr (1, o_Code I2 a2_0 h3 h4)), (h3, .inl (cA3, n3, .inl f3)), (h4, .inl (cA4, n4, .inl f4))] H → va_D A [(h0, .inr (8, o_Reader I0 a0_0 h2 h1)), (h1, .inr (9, o_Section I1)), (h2, .inr (1, o_Code I2 a2_0 h3 h4)), (h3, .inl (cA3, n3, .inl f3)), (h4, .inl (cA4, n4, .inl f4))] → va_S A s.heap H locs → k8 f3 x1 → W p l e (headSpec (Cond.code (⟨"NumberDress$Reader", "findMinutes", "()V"⟩ : MethodName) prog_9_method_30_code 3 none :: zT) { frames := 2, cells := 0, slots := 0, locals := 44 }).room s m args below meth c H locs 0 0 (MQ below (va_Qv Z (zB (dC, dI) zCl [(cA3, .int), (cA4, .int)] A (fun u : (Nat → Int32) => [(h0, .inr (8, o_Reader I0 a0_0 h2 h1)), (h1, .inr (9, o_Section I1)), (h2, .inr (1, o_Code I2 a2_0 h3 h4)), (h3, .inl (cA3, n3, .inl u)), (h4, .inl (cA4, n4, .inl f4))])) A) args s 0 0 A) (F0 m 8 ls [])) (hl : lv_has ls 3 [(0, .ref h0), (1, .int x1)]) (hK : va_K (dC, dI) zCl [(cA3, .int), (cA4, .int)] s) (hP : va_P (dC, dI) zCl [(h0, .inr (8, o_Reader I0 a0_0 h2 h1)), (h1, .inr (9, o_Section I1)), (h2, .inr (1, o_Code I2 a2_0 h3 h4)), (h3, .inl (cA3, n3, .inl f3)), (h4, .inl (cA4, n4, .inl f4))] H) (hD : va_D A [(h0, .inr (8, o_Reader I0 a0_0 h2 h1)), (h1, .inr (9, o_Section I1)), (h2, .inr (1, o_Code I2 a2_0 h3 h4)), (h3, .inl (cA3, n3, .inl f3)), (h4, .inl (cA4, n4, .inl f4))]) (hS : va_S A s.heap H locs) (hv : v_Reader_findMinutes_27 I0 I1 I2 n3 f3 n4 f4 x1 s0 k8 Z) : W p l e (headSpec (Cond.code (⟨"NumberDress$Reader", "findMinutes", "()V"⟩ : MethodName) prog_9_method_30_code 3 none :: zT) { frames := 2, cells := 0, slots := 0, locals := 44 }).room s m args below meth c H locs 0 0 (MQ below (va_Qv Z (zB (dC, dI) zCl [(cA3, .int), (cA4, .int)] A (fun u : (Nat → Int32) => [(h0, .inr (8, o_Reader I0 a0_0 h2 h1)), (h1, .inr (9, o_Section I1)), (h2, .inr (1, o_Code I2 a2_0 h3 h4)), (h3, .inl (cA3, n3, .inl u)), (h4, .inl (cA4, n4, .inl f4))])) A) args s 0 0 A) (F0 m 27 ls [.int s0]) := by
  obtain ⟨hx, hb, hr, hml, hown, ht, hlocks⟩ := id hc
  unfold v_Reader_findMinutes_27 at hv
  refine lv_bipush (v := (21 : Int32)) hx hb d_Reader_findMinutes_27 (by decide) ?_
  refine lv_icmp_ne (tgt := 48) hx hb d_Reader_findMinutes_29 (by decide) (fun c_1 => ?_) (fun c_1 => ?_)
  · have hv := hv.1 c_1
    exact b_Reader_findMinutes_48 hc hA hE hk8 (lv_sub hl [0, 1] rfl) hK hP hD hS hv
  · have hv := hv.2 c_1
    refine lv_aload_n hx hb d_Reader_findMinutes_32 rfl (lv_at hl 0 rfl) ?_
    refine va_get (D := (dC, dI)) (ci := 8) (v := .ref h2) (C := "NumberDress$Reader") (T := T_Reader) (N := 5) hx hb ht zin_Reader hown hK hP 0 rfl rfl 2 (by decide) (ht _ zw_273) (fun _ h9 => h9) rfl d_Reader_findMinutes_33 ?_
    refine lv_iload_n hx hb d_Reader_findMinutes_36 rfl (lv_at hl 1 rfl) ?_
    refine z_calli (wc := [(h2, .inr (1, o_Code I2 a2_0 h3 h4)), (h4, .inl (cA4, n4, .inl f4))]) (wr := [(h0, .inr (8, o_Reader I0 a0_0 h2 h1)), (h1, .inr (9, o_Section I1)), (h3, .inl (cA3, n3, .inl f3))]) [2, 4] [0, 1, 3] (va_runV (As := [.int x1]) (rest := []) ⟨hx, hb, hml, hown, ht⟩ (m_Code_mark l dC dI hv) ⟨(callB_of 1 ht (zG_in zi_Code_mark) rfl rfl rfl (ht _ zw_111) (ht _ zw_805) zh_Code_mark ⟨Nat.le_of_ble_eq_true rfl, Nat.le_of_ble_eq_true rfl⟩), (ht _ zw_806), (ht _ zw_807)⟩ ⟨zPc_blind, va_recv hK hP (ci := 1) (q0 := 2) rfl rfl, zPc_pre hP hK hD hS hA hE [2, 4] [1] rfl rfl (by decide) rfl⟩ rfl rfl hl.1 rfl (lv_room (Nat.le_of_ble_eq_true rfl)) d_Reader_findMinutes_37 ⟨Nat.le_of_ble_eq_true rfl, Nat.le_of_ble_eq_true rfl⟩) hP hD hS hA rfl rfl (by decide) (by decide) (fun r u H locs hv hP hD hS => ?_)
    have hP : va_P (dC, dI) zCl [(h0, .inr (8, o_Reader I0 a0_0 h2 h1)), (h1, .inr (9, o_Section I1)), (h2, .inr (1, o_Code I2 a2_0 h3 h4)), (h3, .inl (cA3, n3, .inl f3)), (h4, .inl (cA4, n4, .inl f4))] H := hP.sub [0, 1, 3, 2, 4] rfl
    have hD : va_D A [(h0, .inr (8, o_Reader I0 a0_0 h2 h1)), (h1, .inr (9, o_Section I1)), (h2, .inr (1, o_Code I2 a2_0 h3 h4)), (h3, .inl (cA3, n3, .inl f3)), (h4, .inl (cA4, n4, .inl f4))] := hD.sub [0, 1, 3, 2, 4] (by decide) rfl
    exact b_Reader_findMinutes_40 hc hA hE hk8 (lv_sub hl [0, 1] rfl) hK hP hD hS hv
set_option maxHeartbeats 4000000 in
set_option maxRecDepth 100000 in
theorem b_Reader_findMinutes_8 {h0 : Nat} {a0_0 : Nat} {h1 : Nat} {h2 : Nat} {a2_0 : Nat} {h3 : Nat} {cA3 : ClassId} {h4 : Nat} {cA4 : ClassId} {I0 : Nat → Int32} {I1 : Nat → Int32} {I2 : Nat → Int32} {n3 : Nat} {n4 : Nat} {f4 : Nat → Int32}  {Z : (Nat → Int32) → Prop} (hc : zC p s m args meth c prog_9_method_30_code none 3 "NumberDress$Reader") (hA : ∀ q : Nat, s.heap.size ≤ q → A q) (hE : zE gE A s) : ∀ (N : Nat) (f3 : Nat → Int32) (x1 : Int32) (H : Heap) (locs : List Loc) (ls : Array Slot), lv_has ls 3 [(0, .ref h0), (1, .int x1)] → va_K (dC, dI) zCl [(cA3, .int), (cA4, .int)] s → va_P (dC, dI) zCl [(h0, .inr (8, o_Reader I0 a0_0 h2 h1)), (h1, .inr (9, o_Section I1)), (h2, .inr (1, o_Code I2 a2_0 h3 h4)), (h3, .inl (cA3, n3, .inl f3)), (h4, .inl (cA4, n4, .inl f4))] H → va_D A [(h0, .inr (8, o_Reader I0 a0_0 h2 h1)), (h1, .inr (9, o_Section I1)), (h2, .inr (1, o_Code I2 a2_0 h3 h4)), (h3, .inl (cA3, n3, .inl f3)), (h4, .inl (cA4, n4, .inl f4))] → va_S A s.heap H locs → v_Reader_findMinutes_8 I0 I1 I2 n3 n4 f4  Z N f3 x1 → W p l e (headSpec (Cond.code (⟨"NumberDress$Reader", "findMinutes", "()V"⟩ : MethodName) prog_9_method_30_code 3 none :: zT) { frames := 2, cells := 0, slots := 0, locals := 44 }).room s m args below meth c H locs 0 0 (MQ below (va_Qv Z (zB (dC, dI) zCl [(cA3, .int), (cA4, .int)] A (fun u : (Nat → Int32) => [(h0, .inr (8, o_Reader I0 a0_0 h2 h1)), (h1, .inr (9, o_Section I1)), (h2, .inr (1, o_Code I2 a2_0 h3 h4)), (h3, .inl (cA3, n3, .inl u)), (h4, .inl (cA4, n4, .inl f4))])) A) args s 0 0 A) (F0 m 8 ls []) := by
  obtain ⟨hx, hb, hr, hml, hown, ht, hlocks⟩ := id hc
  intro N
  induction N with
  | zero => intro f3 x1 H locs ls hl hK hP hD hS hv; exact hv.elim
  | succ N hk8 =>
    intro f3 x1 H locs ls hl hK hP hD hS hv
    unfold v_Reader_findMinutes_8 at hv
    refine lv_iload_n hx hb d_Reader_findMinutes_8 rfl (lv_at hl 1 rfl) ?_
    refine lv_aload_n hx hb d_Reader_findMinutes_9 rfl (lv_at hl 0 rfl) ?_
    refine va_get (D := (dC, dI)) (ci := 8) (v := .ref h1) (C := "NumberDress$Reader") (T := T_Reader) (N := 5) hx hb ht zin_Reader hown hK hP 0 rfl rfl 3 (by decide) (ht _ zw_274) (fun _ h9 => h9) rfl d_Reader_findMinutes_10 ?_
    refine va_get (D := (dC, dI)) (ci := 9) (v := .int (I1 2)) (C := "NumberDress$Section") (T := T_Section) (N := 15) hx hb ht zin_Section hown hK hP 1 rfl rfl 2 (by decide) (ht _ zw_172) (fun _ h9 => h9) rfl d_Reader_findMinutes_13 ?_
    refine lv_icmp_ge (tgt := 86) hx hb d_Reader_findMinutes_16 (by decide) (fun c_1 => ?_) (fun c_1 => ?_)
    · have hv := hv.1 c_1
      exact W.vret hx hb hr (fun t ht hW => ⟨⟨(f3), rfl, hv, ⟨by rw [ht]; exact hP, va_K.moved hW.alike hK, hD⟩⟩, hS.F ht⟩) hS.2.2 d_Reader_findMinutes_86
    · have hv := hv.2 c_1
      refine lv_aload_n hx hb d_Reader_findMinutes_19 rfl (lv_at hl 0 rfl) ?_
      refine va_get (D := (dC, dI)) (ci := 8) (v := .ref h2) (C := "NumberDress$Reader") (T := T_Reader) (N := 5) hx hb ht zin_Reader hown hK hP 0 rfl rfl 2 (by decide) (ht _ zw_273) (fun _ h9 => h9) rfl d_Reader_findMinutes_20 ?_
      refine lv_iload_n hx hb d_Reader_findMinutes_23 rfl (lv_at hl 1 rfl) ?_
      refine z_calli (wc := [(h2, .inr (1, o_Code I2 a2_0 h3 h4)), (h3, .inl (cA3, n3, .inl f3))]) (wr := [(h0, .inr (8, o_Reader I0 a0_0 h2 h1)), (h1, .inr (9, o_Section I1)), (h4, .inl (cA4, n4, .inl f4))]) [2, 3] [0, 1, 4] (va_runV (As := [.int x1]) (rest := []) ⟨hx, hb, hml, hown, ht⟩ (m_Code_kind l dC dI hv) ⟨(callB_of 1 ht (zG_in zi_Code_kind) rfl rfl rfl (ht _ zw_111) (ht _ zw_738) zh_Code_kind ⟨Nat.le_of_ble_eq_true rfl, Nat.le_of_ble_eq_true rfl⟩), (ht _ zw_739), (ht _ zw_740)⟩ ⟨zPc_blind, va_recv hK hP (ci := 1) (q0 := 2) rfl rfl, zPc_pre hP hK hD hS hA hE [2, 3] [0] rfl rfl (by decide) rfl⟩ rfl rfl hl.1 rfl (lv_room (Nat.le_of_ble_eq_true rfl)) d_Reader_findMinutes_24 ⟨Nat.le_of_ble_eq_true rfl, Nat.le_of_ble_eq_true rfl⟩) hP hD hS hA rfl rfl (by decide) (by decide) (fun r u H locs hv hP hD hS => ?_)
      have hP : va_P (dC, dI) zCl [(h0, .inr (8, o_Reader I0 a0_0 h2 h1)), (h1, .inr (9, o_Section I1)), (h2, .inr (1, o_Code I2 a2_0 h3 h4)), (h3, .inl (cA3, n3, .inl f3)), (h4, .inl (cA4, n4, .inl f4))] H := hP.sub [0, 1, 3, 4, 2] rfl
      have hD : va_D A [(h0, .inr (8, o_Reader I0 a0_0 h2 h1)), (h1, .inr (9, o_Section I1)), (h2, .inr (1, o_Code I2 a2_0 h3 h4)), (h3, .inl (cA3, n3, .inl f3)), (h4, .inl (cA4, n4, .inl f4))] := hD.sub [0, 1, 3, 4, 2] (by decide) rfl
      exact b_Reader_findMinutes_27 hc hA hE hk8 (lv_sub hl [0, 1] rfl) hK hP hD hS hv
set_option maxHeartbeats 4000000 in
set_option maxRecDepth 100000 in
theorem b_Reader_findMinutes_0 {h0 : Nat} {a0_0 : Nat} {h1 : Nat} {h2 : Nat} {a2_0 : Nat} {h3 : Nat} {cA3 : ClassId} {h4 : Nat} {cA4 : ClassId} {I0 : Nat → Int32} {I1 : Nat → Int32} {I2 : Nat → Int32} {n3 : Nat} {f3 : Nat → Int32} {n4 : Nat} {f4 : Nat → Int32}  {Z : (Nat → Int32) → Prop} {H : Heap} {locs : List Loc} {ls : Array Slot} (hc : zC p s m args meth c prog_9_method_30_code none 3 "NumberDress$Reader") (hA : ∀ q : Nat, s.heap.size ≤ q → A q) (hE : zE gE A s) (hl : lv_has ls 3 [(0, .ref h0)]) (hK : va_K (dC, dI) zCl [(cA3, .int), (cA4, .int)] s) (hP : va_P (dC, dI) zCl [(h0, .inr (8, o_Reader I0 a0_0 h2 h1)), (h1, .inr (9, o_Section I1)), (h2, .inr (1, o_Code I2 a2_0 h3 h4)), (h3, .inl (cA3, n3, .inl f3)), (h4, .inl (cA4, n4, .inl f4))] H) (hD : va_D A [(h0, .inr (8, o_Reader I0 a0_0 h2 h1)), (h1, .inr (9, o_Section I1)), (h2, .inr (1, o_Code I2 a2_0 h3 h4)), (h3, .inl (cA3, n3, .inl f3)), (h4, .inl (cA4, n4, .inl f4))]) (hS : va_S A s.heap H locs) (hv : v_Reader_findMinutes_0 I0 I1 I2 n3 f3 n4 f4  Z) : W p l e (headSpec (Cond.code (⟨"NumberDress$Reader", "findMinutes", "()V"⟩ : MethodName) prog_9_method_30_code 3 none :: zT) { frames := 2, cells := 0, slots := 0, locals := 44 }).room s m args below meth c H locs 0 0 (MQ below (va_Qv Z (zB (dC, dI) zCl [(cA3, .int), (cA4, .int)] A (fun u : (Nat → Int32) => [(h0, .inr (8, o_Reader I0 a0_0 h2 h1)), (h1, .inr (9, o_Section I1)), (h2, .inr (1, o_Code I2 a2_0 h3 h4)), (h3, .inl (cA3, n3, .inl u)), (h4, .inl (cA4, n4, .inl f4))])) A) args s 0 0 A) (F0 m 0 ls []) := by
  obtain ⟨hx, hb, hr, hml, hown, ht, hlocks⟩ := id hc
  unfold v_Reader_findMinutes_0 at hv
  refine lv_aload_n hx hb d_Reader_findMinutes_0 rfl (lv_at hl 0 rfl) ?_
  refine va_get (D := (dC, dI)) (ci := 8) (v := .ref h1) (C := "NumberDress$Reader") (T := T_Reader) (N := 5) hx hb ht zin_Reader hown hK hP 0 rfl rfl 3 (by decide) (ht _ zw_274) (fun _ h9 => h9) rfl d_Reader_findMinutes_1 ?_
  refine va_get (D := (dC, dI)) (ci := 9) (v := .int (I1 1)) (C := "NumberDress$Section") (T := T_Section) (N := 15) hx hb ht zin_Section hown hK hP 1 rfl rfl 1 (by decide) (ht _ zw_167) (fun _ h9 => h9) rfl d_Reader_findMinutes_4 ?_
  refine lv_istore_n (lv' := [(1, .int (I1 1)), (0, .ref h0)]) hx hb d_Reader_findMinutes_7 rfl hl (by decide) rfl (fun ls hl => ?_)
  obtain ⟨Nx, hv⟩ := hv
  exact b_Reader_findMinutes_8 hc hA hE  Nx f3 (I1 1) _ _ _ (lv_sub hl [1, 0] rfl) hK hP hD hS hv
theorem zi_Reader_findMinutes : Cond.code (⟨"NumberDress$Reader", "findMinutes", "()V"⟩ : MethodName) prog_9_method_30_code 3 none ∈ zT := zw_804
theorem zh_Reader_findMinutes : (((⟨"NumberDress$Reader", "findMinutes", "()V"⟩ : MethodName)).cls ≠ "java/lang/invoke/MethodHandle" ∧ ((⟨"NumberDress$Reader", "findMinutes", "()V"⟩ : MethodName)).cls ≠ "java/lang/invoke/VarHandle" ∧ (parseMethodDescriptor ((⟨"NumberDress$Reader", "findMinutes", "()V"⟩ : MethodName)).desc).map (fun d => d.parameters.length) = some 0) := by decide +kernel
set_option maxHeartbeats 4000000 in
set_option maxRecDepth 100000 in
theorem m_Reader_findMinutes (l : Launch) (dC : Nat → ClassId) (dI : Nat → Nat → Nat) {gE : zG} {h0 : Nat} {a0_0 : Nat} {h1 : Nat} {h2 : Nat} {a2_0 : Nat} {h3 : Nat} {cA3 : ClassId} {h4 : Nat} {cA4 : ClassId} {I0 : Nat → Int32} {I1 : Nat → Int32} {I2 : Nat → Int32} {n3 : Nat} {f3 : Nat → Int32} {n4 : Nat} {f4 : Nat → Int32} {sz : Nat} {Z : (Nat → Int32) → Prop} (hv : v_Reader_findMinutes_0 I0 I1 I2 n3 f3 n4 f4 Z) : Met l (⟨"NumberDress$Reader", "findMinutes", "()V"⟩ : MethodName) (Cond.code (⟨"NumberDress$Reader", "findMinutes", "()V"⟩ : MethodName) prog_9_method_30_code 3 none :: zT) { frames := 2, cells := 0, slots := 0, locals := 44 } (zPc gE (dC, dI) zCl [(cA3, .int), (cA4, .int)] [.ref h0] sz [(h0, .inr (8, o_Reader I0 a0_0 h2 h1)), (h1, .inr (9, o_Section I1)), (h2, .inr (1, o_Code I2 a2_0 h3 h4)), (h3, .inl (cA3, n3, .inl f3)), (h4, .inl (cA4, n4, .inl f4))]) (va_Qv Z (zB (dC, dI) zCl [(cA3, .int), (cA4, .int)] (va_A [(h0, .inr (8, o_Reader I0 a0_0 h2 h1)), (h1, .inr (9, o_Section I1)), (h2, .inr (1, o_Code I2 a2_0 h3 h4)), (h3, .inl (cA3, n3, .inl f3)), (h4, .inl (cA4, n4, .inl f4))] sz) (fun u : (Nat → Int32) => [(h0, .inr (8, o_Reader I0 a0_0 h2 h1)), (h1, .inr (9, o_Section I1)), (h2, .inr (1, o_Code I2 a2_0 h3 h4)), (h3, .inl (cA3, n3, .inl u)), (h4, .inl (cA4, n4, .inl f4))])) (va_A [(h0, .inr (8, o_Reader I0 a0_0 h2 h1)), (h1, .inr (9, o_Section I1)), (h2, .inr (1, o_Code I2 a2_0 h3 h4)), (h3, .inl (cA3, n3, .inl f3)), (h4, .inl (cA4, n4, .inl f4))] sz)) 0 0 (va_A [(h0, .inr (8, o_Reader I0 a0_0 h2 h1)), (h1, .inr (9, o_Section I1)), (h2, .inr (1, o_Code I2 a2_0 h3 h4)), (h3, .inl (cA3, n3, .inl f3)), (h4, .inl (cA4, n4, .inl f4))] sz) := by
  refine Met.ofW (cc := prog_9_method_30_code) (maxL := 3) (ret := none) (by decide +kernel) rfl ?_
  intro p e s m args below meth c s₁ B hml hp
  obtain ⟨rfl, hsz, hP, hK, hD0, hE⟩ := hp
  have hts := atoms_spec (ws := (Cond.code (⟨"NumberDress$Reader", "findMinutes", "()V"⟩ : MethodName) prog_9_method_30_code 3 none :: zT)) B.pre
  have hown : s.vm.findClass "NumberDress$Reader" = some m.cls := findClass_of_methodNamed B.named
  have hc : zC p s m _ meth c prog_9_method_30_code none 3 "NumberDress$Reader" := ⟨B.exec, B.bytes, B.returns, hml, hown, fun w h => hts w (List.mem_cons_of_mem _ h), B.notSynchronized⟩
  subst hsz
  have hD := hD0.self (sz := s.heap.size)
  generalize hAe : va_A [(h0, .inr (8, o_Reader I0 a0_0 h2 h1)), (h1, .inr (9, o_Section I1)), (h2, .inr (1, o_Code I2 a2_0 h3 h4)), (h3, .inl (cA3, n3, .inl f3)), (h4, .inl (cA4, n4, .inl f4))] s.heap.size = A at hD hE ⊢
  have hA : ∀ q : Nat, s.heap.size ≤ q → A q := fun q h => by rw [← hAe]; exact Or.inr h
  have hl := lv_entry ([.ref h0]) (n := 3) (Nat.le_of_ble_eq_true rfl)
  rw [lg_entry_eq]
  exact b_Reader_findMinutes_0 hc hA hE hl hK hP hD va_S.rf hv
theorem d_Code_add_0 : decode prog_2_method_5_code 0 = .ok (.aload_n 0, 1) := by decide +kernel
theorem d_Code_add_1 : decode prog_2_method_5_code 1 = .ok (.getfield 29, 3) := by decide +kernel
theorem d_Code_add_4 : decode prog_2_method_5_code 4 = .ok (.ifCond .lt 57, 3) := by decide +kernel
theorem d_Code_add_7 : decode prog_2_method_5_code 7 = .ok (.aload_n 0, 1) := by decide +kernel
theorem d_Code_add_8 : decode prog_2_method_5_code 8 = .ok (.getfield 29, 3) := by decide +kernel
theorem d_Code_add_11 : decode prog_2_method_5_code 11 = .ok (.aload_n 0, 1) := by decide +kernel
theorem d_Code_add_12 : decode prog_2_method_5_code 12 = .ok (.getfield 21, 3) := by decide +kernel
theorem d_Code_add_15 : decode prog_2_method_5_code 15 = .ok (.arraylength, 1) := by decide +kernel
theorem d_Code_add_16 : decode prog_2_method_5_code 16 = .ok (.if_icmp .ge 45, 3) := by decide +kernel
theorem d_Code_add_19 : decode prog_2_method_5_code 19 = .ok (.aload_n 0, 1) := by decide +kernel
theorem d_Code_add_20 : decode prog_2_method_5_code 20 = .ok (.getfield 29, 3) := by decide +kernel
theorem d_Code_add_23 : decode prog_2_method_5_code 23 = .ok (.aload_n 0, 1) := by decide +kernel
theorem d_Code_add_24 : decode prog_2_method_5_code 24 = .ok (.getfield 25, 3) := by decide +kernel
theorem d_Code_add_27 : decode prog_2_method_5_code 27 = .ok (.arraylength, 1) := by decide +kernel
theorem d_Code_add_28 : decode prog_2_method_5_code 28 = .ok (.if_icmp .ge 33, 3) := by decide +kernel
theorem d_Code_add_31 : decode prog_2_method_5_code 31 = .ok (.aload_n 0, 1) := by decide +kernel
theorem d_Code_add_32 : decode prog_2_method_5_code 32 = .ok (.getfield 21, 3) := by decide +kernel
theorem d_Code_add_35 : decode prog_2_method_5_code 35 = .ok (.aload_n 0, 1) := by decide +kernel
theorem d_Code_add_36 : decode prog_2_method_5_code 36 = .ok (.getfield 29, 3) := by decide +kernel
theorem d_Code_add_39 : decode prog_2_method_5_code 39 = .ok (.iload_n 1, 1) := by decide +kernel
theorem d_Code_add_40 : decode prog_2_method_5_code 40 = .ok (.iastore, 1) := by decide +kernel
theorem d_Code_add_41 : decode prog_2_method_5_code 41 = .ok (.aload_n 0, 1) := by decide +kernel
theorem d_Code_add_42 : decode prog_2_method_5_code 42 = .ok (.getfield 25, 3) := by decide +kernel
theorem d_Code_add_45 : decode prog_2_method_5_code 45 = .ok (.aload_n 0, 1) := by decide +kernel
theorem d_Code_add_46 : decode prog_2_method_5_code 46 = .ok (.getfield 29, 3) := by decide +kernel
theorem d_Code_add_49 : decode prog_2_method_5_code 49 = .ok (.iload_n 2, 1) := by decide +kernel
theorem d_Code_add_50 : decode prog_2_method_5_code 50 = .ok (.iastore, 1) := by decide +kernel
theorem d_Code_add_51 : decode prog_2_method_5_code 51 = .ok (.aload_n 0, 1) := by decide +kernel
theorem d_Code_add_52 : decode prog_2_method_5_code 52 = .ok (.dup, 1) := by decide +kernel
theorem d_Code_add_53 : decode prog_2_method_5_code 53 = .ok (.getfield 29, 3) := by decide +kernel
theorem d_Code_add_56 : decode prog_2_method_5_code 56 = .ok (.iconst 1, 1) := by decide +kernel
theorem d_Code_add_57 : decode prog_2_method_5_code 57 = .ok (.iadd, 1) := by decide +kernel
theorem d_Code_add_58 : decode prog_2_method_5_code 58 = .ok (.putfield 29, 3) := by decide +kernel
theorem d_Code_add_61 : decode prog_2_method_5_code 61 = .ok (.return_, 1) := by decide +kernel
set_option maxHeartbeats 4000000 in
set_option maxRecDepth 100000 in
theorem b_Code_add_0 {h0 : Nat} {a0_0 : Nat} {h1 : Nat} {cA1 : ClassId} {h2 : Nat} {cA2 : ClassId} {I0 : Nat → Int32} {n1 : Nat} {f1 : Nat → Int32} {n2 : Nat} {f2 : Nat → Int32} {x1 : Int32} {x2 : Int32}  {Z : (Nat → Int32) × (Nat → Int32) × (Nat → Int32) → Prop} {H : Heap} {locs : List Loc} {ls : Array Slot} (hc : zC p s m args meth c prog_2_method_5_code none 3 "NumberDress$Code") (hA : ∀ q : Nat, s.heap.size ≤ q → A q) (hE : zE gE A s) (hl : lv_has ls 3 [(0, .ref h0), (1, .int x1), (2, .int x2)]) (hK : va_K (dC, dI) zCl [(cA1, .int), (cA2, .int)] s) (hP : va_P (dC, dI) zCl [(h0, .inr (1, o_Code I0 a0_0 h1 h2)), (h1, .inl (cA1, n1, .inl f1)), (h2, .inl (cA2, n2, .inl f2))] H) (hD : va_D A [(h0, .inr (1, o_Code I0 a0_0 h1 h2)), (h1, .inl (cA1, n1, .inl f1)), (h2, .inl (cA2, n2, .inl f2))]) (hS : va_S A s.heap H locs) (hv : v_Code_add_0 I0 n1 f1 n2 f2 x1 x2  Z) : W p l e (headSpec (Cond.code (⟨"NumberDress$Code", "add", "(II)V"⟩ : MethodName) prog_2_method_5_code 3 none :: zT) { frames := 0, cells := 0, slots := 0, locals := 0 }).room s m args below meth c H locs 0 0 (MQ below (va_Qv Z (zB (dC, dI) zCl [(cA1, .int), (cA2, .int)] A (fun u : (Nat → Int32) × (Nat → Int32) × (Nat → Int32) => [(h0, .inr (1, o_Code u.1 a0_0 h1 h2)), (h1, .inl (cA1, n1, .inl u.2.1)), (h2, .inl (cA2, n2, .inl u.2.2))])) A) args s 0 0 A) (F0 m 0 ls []) := by
  obtain ⟨hx, hb, hr, hml, hown, ht, hlocks⟩ := id hc
  unfold v_Code_add_0 at hv
  refine lv_aload_n hx hb d_Code_add_0 rfl (lv_at hl 0 rfl) ?_
  refine va_get (D := (dC, dI)) (ci := 1) (v := .int (I0 4)) (C := "NumberDress$Code") (T := T_Code) (N := 5) hx hb ht zin_Code hown hK hP 0 rfl rfl 4 (by decide) (ht _ zw_248) (fun _ h9 => h9) rfl d_Code_add_1 ?_
  refine lv_if_lt (tgt := 61) hx hb d_Code_add_4 (by decide) (fun c_1 => ?_) (fun c_1 => ?_)
  · have hv := hv.1 c_1
    exact W.vret hx hb hr (fun t ht hW => ⟨⟨(I0, f1, f2), rfl, hv, ⟨by rw [ht]; exact hP, va_K.moved hW.alike hK, hD⟩⟩, hS.F ht⟩) hS.2.2 d_Code_add_61
  · have hv := hv.2 c_1
    refine lv_aload_n hx hb d_Code_add_7 rfl (lv_at hl 0 rfl) ?_
    refine va_get (D := (dC, dI)) (ci := 1) (v := .int (I0 4)) (C := "NumberDress$Code") (T := T_Code) (N := 5) hx hb ht zin_Code hown hK hP 0 rfl rfl 4 (by decide) (ht _ zw_248) (fun _ h9 => h9) rfl d_Code_add_8 ?_
    refine lv_aload_n hx hb d_Code_add_11 rfl (lv_at hl 0 rfl) ?_
    refine va_get (D := (dC, dI)) (ci := 1) (v := .ref h1) (C := "NumberDress$Code") (T := T_Code) (N := 5) hx hb ht zin_Code hown hK hP 0 rfl rfl 2 (by decide) (ht _ zw_246) (fun _ h9 => h9) rfl d_Code_add_12 ?_
    refine va_alen (v := (nI n1)) hx hb hK hP 1 0 rfl rfl rfl d_Code_add_15 ?_
    refine lv_icmp_ge (tgt := 61) hx hb d_Code_add_16 (by decide) (fun c_2 => ?_) (fun c_2 => ?_)
    · have hv := hv.1 c_2
      exact W.vret hx hb hr (fun t ht hW => ⟨⟨(I0, f1, f2), rfl, hv, ⟨by rw [ht]; exact hP, va_K.moved hW.alike hK, hD⟩⟩, hS.F ht⟩) hS.2.2 d_Code_add_61
    · have hv := hv.2 c_2
      refine lv_aload_n hx hb d_Code_add_19 rfl (lv_at hl 0 rfl) ?_
      refine va_get (D := (dC, dI)) (ci := 1) (v := .int (I0 4)) (C := "NumberDress$Code") (T := T_Code) (N := 5) hx hb ht zin_Code hown hK hP 0 rfl rfl 4 (by decide) (ht _ zw_248) (fun _ h9 => h9) rfl d_Code_add_20 ?_
      refine lv_aload_n hx hb d_Code_add_23 rfl (lv_at hl 0 rfl) ?_
      refine va_get (D := (dC, dI)) (ci := 1) (v := .ref h2) (C := "NumberDress$Code") (T := T_Code) (N := 5) hx hb ht zin_Code hown hK hP 0 rfl rfl 3 (by decide) (ht _ zw_247) (fun _ h9 => h9) rfl d_Code_add_24 ?_
      refine va_alen (v := (nI n2)) hx hb hK hP 2 1 rfl rfl rfl d_Code_add_27 ?_
      refine lv_icmp_ge (tgt := 61) hx hb d_Code_add_28 (by decide) (fun c_3 => ?_) (fun c_3 => ?_)
      · have hv := hv.1 c_3
        exact W.vret hx hb hr (fun t ht hW => ⟨⟨(I0, f1, f2), rfl, hv, ⟨by rw [ht]; exact hP, va_K.moved hW.alike hK, hD⟩⟩, hS.F ht⟩) hS.2.2 d_Code_add_61
      · have hv := hv.2 c_3
        refine lv_aload_n hx hb d_Code_add_31 rfl (lv_at hl 0 rfl) ?_
        refine va_get (D := (dC, dI)) (ci := 1) (v := .ref h1) (C := "NumberDress$Code") (T := T_Code) (N := 5) hx hb ht zin_Code hown hK hP 0 rfl rfl 2 (by decide) (ht _ zw_246) (fun _ h9 => h9) rfl d_Code_add_32 ?_
        refine lv_aload_n hx hb d_Code_add_35 rfl (lv_at hl 0 rfl) ?_
        refine va_get (D := (dC, dI)) (ci := 1) (v := .int (I0 4)) (C := "NumberDress$Code") (T := T_Code) (N := 5) hx hb ht zin_Code hown hK hP 0 rfl rfl 4 (by decide) (ht _ zw_248) (fun _ h9 => h9) rfl d_Code_add_36 ?_
        refine lv_iload_n hx hb d_Code_add_39 rfl (lv_at hl 1 rfl) ?_
        obtain ⟨q_4, hv⟩ := hv
        refine va_iast hx hb hK hP hD hS 1 0 rfl rfl q_4 d_Code_add_40 (fun H locs hP hD hS => ?_)
        have hP : va_P (dC, dI) zCl [(h0, .inr (1, o_Code I0 a0_0 h1 h2)), (h1, .inl (cA1, n1, .inl (upd f1 (I0 4).toNatClampNeg x1))), (h2, .inl (cA2, n2, .inl f2))] H := hP
        have hD : va_D A [(h0, .inr (1, o_Code I0 a0_0 h1 h2)), (h1, .inl (cA1, n1, .inl (upd f1 (I0 4).toNatClampNeg x1))), (h2, .inl (cA2, n2, .inl f2))] := hD
        refine lv_aload_n hx hb d_Code_add_41 rfl (lv_at hl 0 rfl) ?_
        refine va_get (D := (dC, dI)) (ci := 1) (v := .ref h2) (C := "NumberDress$Code") (T := T_Code) (N := 5) hx hb ht zin_Code hown hK hP 0 rfl rfl 3 (by decide) (ht _ zw_247) (fun _ h9 => h9) rfl d_Code_add_42 ?_
        refine lv_aload_n hx hb d_Code_add_45 rfl (lv_at hl 0 rfl) ?_
        refine va_get (D := (dC, dI)) (ci := 1) (v := .int (I0 4)) (C := "NumberDress$Code") (T := T_Code) (N := 5) hx hb ht zin_Code hown hK hP 0 rfl rfl 4 (by decide) (ht _ zw_248) (fun _ h9 => h9) rfl d_Code_add_46 ?_
        refine lv_iload_n hx hb d_Code_add_49 rfl (lv_at hl 2 rfl) ?_
        obtain ⟨q_5, hv⟩ := hv
        refine va_iast hx hb hK hP hD hS 2 1 rfl rfl q_5 d_Code_add_50 (fun H locs hP hD hS => ?_)
        have hP : va_P (dC, dI) zCl [(h0, .inr (1, o_Code I0 a0_0 h1 h2)), (h1, .inl (cA1, n1, .inl (upd f1 (I0 4).toNatClampNeg x1))), (h2, .inl (cA2, n2, .inl (upd f2 (I0 4).toNatClampNeg x2)))] H := hP
        have hD : va_D A [(h0, .inr (1, o_Code I0 a0_0 h1 h2)), (h1, .inl (cA1, n1, .inl (upd f1 (I0 4).toNatClampNeg x1))), (h2, .inl (cA2, n2, .inl (upd f2 (I0 4).toNatClampNeg x2)))] := hD
        refine lv_aload_n hx hb d_Code_add_51 rfl (lv_at hl 0 rfl) ?_
        refine lv_dup hx hb d_Code_add_52 rfl ?_
        refine va_get (D := (dC, dI)) (ci := 1) (v := .int (I0 4)) (C := "NumberDress$Code") (T := T_Code) (N := 5) hx hb ht zin_Code hown hK hP 0 rfl rfl 4 (by decide) (ht _ zw_248) (fun _ h9 => h9) rfl d_Code_add_53 ?_
        refine lv_iconst (v := (1 : Int32)) hx hb d_Code_add_56 (by decide) ?_
        refine lv_iadd hx hb d_Code_add_57 ?_
        refine va_put (D := (dC, dI)) (ci := 1) (v := .int ((I0 4) + (1 : Int32))) (ty := .int) (C := "NumberDress$Code") (T := T_Code) (N := 5) hx hb ht zin_Code ty_Code tyok_Code nm_Code hown hK hP hD hS 0 rfl rfl 4 (by decide) (ht _ zw_248) (fun _ h9 => h9) rfl (by decide +kernel) rfl rfl (Nat.le_of_ble_eq_true rfl) d_Code_add_58 (fun H locs hP hD hS => ?_)
        have hP : va_P (dC, dI) zCl [(h0, .inr (1, o_Code (zu I0 4 ((I0 4) + (1 : Int32))) a0_0 h1 h2)), (h1, .inl (cA1, n1, .inl (upd f1 (I0 4).toNatClampNeg x1))), (h2, .inl (cA2, n2, .inl (upd f2 (I0 4).toNatClampNeg x2)))] H := hP
        have hD : va_D A [(h0, .inr (1, o_Code (zu I0 4 ((I0 4) + (1 : Int32))) a0_0 h1 h2)), (h1, .inl (cA1, n1, .inl (upd f1 (I0 4).toNatClampNeg x1))), (h2, .inl (cA2, n2, .inl (upd f2 (I0 4).toNatClampNeg x2)))] := hD
        exact W.vret hx hb hr (fun t ht hW => ⟨⟨((zu I0 4 ((I0 4) + (1 : Int32))), (upd f1 (I0 4).toNatClampNeg x1), (upd f2 (I0 4).toNatClampNeg x2)), rfl, hv, ⟨by rw [ht]; exact hP, va_K.moved hW.alike hK, hD⟩⟩, hS.F ht⟩) hS.2.2 d_Code_add_61
theorem zi_Code_add : Cond.code (⟨"NumberDress$Code", "add", "(II)V"⟩ : MethodName) prog_2_method_5_code 3 none ∈ zT := zw_713
theorem zh_Code_add : (((⟨"NumberDress$Code", "add", "(II)V"⟩ : MethodName)).cls ≠ "java/lang/invoke/MethodHandle" ∧ ((⟨"NumberDress$Code", "add", "(II)V"⟩ : MethodName)).cls ≠ "java/lang/invoke/VarHandle" ∧ (parseMethodDescriptor ((⟨"NumberDress$Code", "add", "(II)V"⟩ : MethodName)).desc).map (fun d => d.parameters.length) = some 2) := by decide +kernel
set_option maxHeartbeats 4000000 in
set_option maxRecDepth 100000 in
theorem m_Code_add (l : Launch) (dC : Nat → ClassId) (dI : Nat → Nat → Nat) {gE : zG} {h0 : Nat} {a0_0 : Nat} {h1 : Nat} {cA1 : ClassId} {h2 : Nat} {cA2 : ClassId} {I0 : Nat → Int32} {n1 : Nat} {f1 : Nat → Int32} {n2 : Nat} {f2 : Nat → Int32} {x1 : Int32} {x2 : Int32} {sz : Nat} {Z : (Nat → Int32) × (Nat → Int32) × (Nat → Int32) → Prop} (hv : v_Code_add_0 I0 n1 f1 n2 f2 x1 x2 Z) : Met l (⟨"NumberDress$Code", "add", "(II)V"⟩ : MethodName) (Cond.code (⟨"NumberDress$Code", "add", "(II)V"⟩ : MethodName) prog_2_method_5_code 3 none :: zT) { frames := 0, cells := 0, slots := 0, locals := 0 } (zPc gE (dC, dI) zCl [(cA1, .int), (cA2, .int)] [.ref h0, .int x1, .int x2] sz [(h0, .inr (1, o_Code I0 a0_0 h1 h2)), (h1, .inl (cA1, n1, .inl f1)), (h2, .inl (cA2, n2, .inl f2))]) (va_Qv Z (zB (dC, dI) zCl [(cA1, .int), (cA2, .int)] (va_A [(h0, .inr (1, o_Code I0 a0_0 h1 h2)), (h1, .inl (cA1, n1, .inl f1)), (h2, .inl (cA2, n2, .inl f2))] sz) (fun u : (Nat → Int32) × (Nat → Int32) × (Nat → Int32) => [(h0, .inr (1, o_Code u.1 a0_0 h1 h2)), (h1, .inl (cA1, n1, .inl u.2.1)), (h2, .inl (cA2, n2, .inl u.2.2))])) (va_A [(h0, .inr (1, o_Code I0 a0_0 h1 h2)), (h1, .inl (cA1, n1, .inl f1)), (h2, .inl (cA2, n2, .inl f2))] sz)) 0 0 (va_A [(h0, .inr (1, o_Code I0 a0_0 h1 h2)), (h1, .inl (cA1, n1, .inl f1)), (h2, .inl (cA2, n2, .inl f2))] sz) := by
  refine Met.ofW (cc := prog_2_method_5_code) (maxL := 3) (ret := none) (by decide +kernel) rfl ?_
  intro p e s m args below meth c s₁ B hml hp
  obtain ⟨rfl, hsz, hP, hK, hD0, hE⟩ := hp
  have hts := atoms_spec (ws := (Cond.code (⟨"NumberDress$Code", "add", "(II)V"⟩ : MethodName) prog_2_method_5_code 3 none :: zT)) B.pre
  have hown : s.vm.findClass "NumberDress$Code" = some m.cls := findClass_of_methodNamed B.named
  have hc : zC p s m _ meth c prog_2_method_5_code none 3 "NumberDress$Code" := ⟨B.exec, B.bytes, B.returns, hml, hown, fun w h => hts w (List.mem_cons_of_mem _ h), B.notSynchronized⟩
  subst hsz
  have hD := hD0.self (sz := s.heap.size)
  generalize hAe : va_A [(h0, .inr (1, o_Code I0 a0_0 h1 h2)), (h1, .inl (cA1, n1, .inl f1)), (h2, .inl (cA2, n2, .inl f2))] s.heap.size = A at hD hE ⊢
  have hA : ∀ q : Nat, s.heap.size ≤ q → A q := fun q h => by rw [← hAe]; exact Or.inr h
  have hl := lv_entry ([.ref h0, .int x1, .int x2]) (n := 3) (Nat.le_of_ble_eq_true rfl)
  rw [lg_entry_eq]
  exact b_Code_add_0 hc hA hE hl hK hP hD va_S.rf hv
theorem d_Reader_addCommon_0 : decode prog_9_method_10_code 0 = .ok (.aload_n 0, 1) := by decide +kernel
theorem d_Reader_addCommon_1 : decode prog_9_method_10_code 1 = .ok (.iload_n 1, 1) := by decide +kernel
theorem d_Reader_addCommon_2 : decode prog_9_method_10_code 2 = .ok (.invokevirtual 86, 3) := by decide +kernel
theorem d_Reader_addCommon_5 : decode prog_9_method_10_code 5 = .ok (.lookupswitch 136 #[(34, 51), (42, 124), (91, 124), (92, 93), (95, 111)], 51) := by decide +kernel
theorem d_Reader_addCommon_56 : decode prog_9_method_10_code 56 = .ok (.aload_n 0, 1) := by decide +kernel
theorem d_Reader_addCommon_57 : decode prog_9_method_10_code 57 = .ok (.getfield 18, 3) := by decide +kernel
theorem d_Reader_addCommon_60 : decode prog_9_method_10_code 60 = .ok (.iconst 0, 1) := by decide +kernel
theorem d_Reader_addCommon_61 : decode prog_9_method_10_code 61 = .ok (.iconst 0, 1) := by decide +kernel
theorem d_Reader_addCommon_62 : decode prog_9_method_10_code 62 = .ok (.invokevirtual 139, 3) := by decide +kernel
theorem d_Reader_addCommon_65 : decode prog_9_method_10_code 65 = .ok (.iconst 1, 1) := by decide +kernel
theorem d_Reader_addCommon_66 : decode prog_9_method_10_code 66 = .ok (.istore_n 3, 1) := by decide +kernel
theorem d_Reader_addCommon_67 : decode prog_9_method_10_code 67 = .ok (.iload_n 3, 1) := by decide +kernel
theorem d_Reader_addCommon_68 : decode prog_9_method_10_code 68 = .ok (.iload_n 2, 1) := by decide +kernel
theorem d_Reader_addCommon_69 : decode prog_9_method_10_code 69 = .ok (.iconst 1, 1) := by decide +kernel
theorem d_Reader_addCommon_70 : decode prog_9_method_10_code 70 = .ok (.isub, 1) := by decide +kernel
theorem d_Reader_addCommon_71 : decode prog_9_method_10_code 71 = .ok (.if_icmp .ge 24, 3) := by decide +kernel
theorem d_Reader_addCommon_74 : decode prog_9_method_10_code 74 = .ok (.aload_n 0, 1) := by decide +kernel
theorem d_Reader_addCommon_75 : decode prog_9_method_10_code 75 = .ok (.getfield 18, 3) := by decide +kernel
theorem d_Reader_addCommon_78 : decode prog_9_method_10_code 78 = .ok (.iconst 1, 1) := by decide +kernel
theorem d_Reader_addCommon_79 : decode prog_9_method_10_code 79 = .ok (.aload_n 0, 1) := by decide +kernel
theorem d_Reader_addCommon_80 : decode prog_9_method_10_code 80 = .ok (.iload_n 1, 1) := by decide +kernel
theorem d_Reader_addCommon_81 : decode prog_9_method_10_code 81 = .ok (.iload_n 3, 1) := by decide +kernel
theorem d_Reader_addCommon_82 : decode prog_9_method_10_code 82 = .ok (.iadd, 1) := by decide +kernel
theorem d_Reader_addCommon_83 : decode prog_9_method_10_code 83 = .ok (.invokevirtual 86, 3) := by decide +kernel
theorem d_Reader_addCommon_86 : decode prog_9_method_10_code 86 = .ok (.invokevirtual 139, 3) := by decide +kernel
theorem d_Reader_addCommon_89 : decode prog_9_method_10_code 89 = .ok (.iinc 3 1, 3) := by decide +kernel
theorem d_Reader_addCommon_92 : decode prog_9_method_10_code 92 = .ok (.goto (-25), 3) := by decide +kernel
theorem d_Reader_addCommon_95 : decode prog_9_method_10_code 95 = .ok (.goto 59, 3) := by decide +kernel
theorem d_Reader_addCommon_98 : decode prog_9_method_10_code 98 = .ok (.aload_n 0, 1) := by decide +kernel
theorem d_Reader_addCommon_99 : decode prog_9_method_10_code 99 = .ok (.getfield 18, 3) := by decide +kernel
theorem d_Reader_addCommon_102 : decode prog_9_method_10_code 102 = .ok (.iconst 1, 1) := by decide +kernel
theorem d_Reader_addCommon_103 : decode prog_9_method_10_code 103 = .ok (.aload_n 0, 1) := by decide +kernel
theorem d_Reader_addCommon_104 : decode prog_9_method_10_code 104 = .ok (.iload_n 1, 1) := by decide +kernel
theorem d_Reader_addCommon_105 : decode prog_9_method_10_code 105 = .ok (.iconst 1, 1) := by decide +kernel
theorem d_Reader_addCommon_106 : decode prog_9_method_10_code 106 = .ok (.iadd, 1) := by decide +kernel
theorem d_Reader_addCommon_107 : decode prog_9_method_10_code 107 = .ok (.invokevirtual 86, 3) := by decide +kernel
theorem d_Reader_addCommon_110 : decode prog_9_method_10_code 110 = .ok (.invokevirtual 139, 3) := by decide +kernel
theorem d_Reader_addCommon_113 : decode prog_9_method_10_code 113 = .ok (.goto 41, 3) := by decide +kernel
theorem d_Reader_addCommon_116 : decode prog_9_method_10_code 116 = .ok (.aload_n 0, 1) := by decide +kernel
theorem d_Reader_addCommon_117 : decode prog_9_method_10_code 117 = .ok (.getfield 18, 3) := by decide +kernel
theorem d_Reader_addCommon_120 : decode prog_9_method_10_code 120 = .ok (.iconst 1, 1) := by decide +kernel
theorem d_Reader_addCommon_121 : decode prog_9_method_10_code 121 = .ok (.bipush 32, 2) := by decide +kernel
theorem d_Reader_addCommon_123 : decode prog_9_method_10_code 123 = .ok (.invokevirtual 139, 3) := by decide +kernel
theorem d_Reader_addCommon_126 : decode prog_9_method_10_code 126 = .ok (.goto 28, 3) := by decide +kernel
theorem d_Reader_addCommon_129 : decode prog_9_method_10_code 129 = .ok (.aload_n 0, 1) := by decide +kernel
theorem d_Reader_addCommon_130 : decode prog_9_method_10_code 130 = .ok (.getfield 18, 3) := by decide +kernel
theorem d_Reader_addCommon_133 : decode prog_9_method_10_code 133 = .ok (.iconst 0, 1) := by decide +kernel
theorem d_Reader_addCommon_134 : decode prog_9_method_10_code 134 = .ok (.iconst 0, 1) := by decide +kernel
theorem d_Reader_addCommon_135 : decode prog_9_method_10_code 135 = .ok (.invokevirtual 139, 3) := by decide +kernel
theorem d_Reader_addCommon_138 : decode prog_9_method_10_code 138 = .ok (.goto 16, 3) := by decide +kernel
theorem d_Reader_addCommon_141 : decode prog_9_method_10_code 141 = .ok (.aload_n 0, 1) := by decide +kernel
theorem d_Reader_addCommon_142 : decode prog_9_method_10_code 142 = .ok (.getfield 18, 3) := by decide +kernel
theorem d_Reader_addCommon_145 : decode prog_9_method_10_code 145 = .ok (.iconst 1, 1) := by decide +kernel
theorem d_Reader_addCommon_146 : decode prog_9_method_10_code 146 = .ok (.aload_n 0, 1) := by decide +kernel
theorem d_Reader_addCommon_147 : decode prog_9_method_10_code 147 = .ok (.iload_n 1, 1) := by decide +kernel
theorem d_Reader_addCommon_148 : decode prog_9_method_10_code 148 = .ok (.invokevirtual 86, 3) := by decide +kernel
theorem d_Reader_addCommon_151 : decode prog_9_method_10_code 151 = .ok (.invokevirtual 139, 3) := by decide +kernel
theorem d_Reader_addCommon_154 : decode prog_9_method_10_code 154 = .ok (.return_, 1) := by decide +kernel
set_option maxHeartbeats 4000000 in
set_option maxRecDepth 100000 in
theorem b_Reader_addCommon_154 {h0 : Nat} {a0_3 : Nat} {h1 : Nat} {cA1 : ClassId} {h2 : Nat} {a2_0 : Nat} {h3 : Nat} {cA3 : ClassId} {h4 : Nat} {cA4 : ClassId} {I0 : Nat → Int32} {n1 : Nat} {f1 : Nat → Int32} {I2 : Nat → Int32} {n3 : Nat} {f3 : Nat → Int32} {n4 : Nat} {f4 : Nat → Int32}  {Z : (Nat → Int32) × (Nat → Int32) × (Nat → Int32) → Prop} {H : Heap} {locs : List Loc} {ls : Array Slot} (hc : zC p s m args meth c prog_9_method_10_code none 4 "NumberDress$Reader") (hA : ∀ q : Nat, s.heap.size ≤ q → A q) (hE : zE gE A s) (hl : lv_has ls 4 []) (hK : va_K (dC, dI) zCl [(cA1, .char), (cA3, .int), (cA4, .int)] s) (hP : va_P (dC, dI) zCl [(h0, .inr (8, o_Reader I0 h1 h2 a0_3)), (h1, .inl (cA1, n1, .inl f1)), (h2, .inr (1, o_Code I2 a2_0 h3 h4)), (h3, .inl (cA3, n3, .inl f3)), (h4, .inl (cA4, n4, .inl f4))] H) (hD : va_D A [(h0, .inr (8, o_Reader I0 h1 h2 a0_3)), (h1, .inl (cA1, n1, .inl f1)), (h2, .inr (1, o_Code I2 a2_0 h3 h4)), (h3, .inl (cA3, n3, .inl f3)), (h4, .inl (cA4, n4, .inl f4))]) (hS : va_S A s.heap H locs) (hv : v_Reader_addCommon_154 I0 n1 f1 I2 n3 f3 n4 f4  Z) : W p l e (headSpec (Cond.code (⟨"NumberDress$Reader", "addCommon", "(II)V"⟩ : MethodName) prog_9_method_10_code 4 none :: zT) { frames := 1, cells := 0, slots := 0, locals := 22 }).room s m args below meth c H locs 0 0 (MQ below (va_Qv Z (zB (dC, dI) zCl [(cA1, .char), (cA3, .int), (cA4, .int)] A (fun u : (Nat → Int32) × (Nat → Int32) × (Nat → Int32) => [(h0, .inr (8, o_Reader I0 h1 h2 a0_3)), (h1, .inl (cA1, n1, .inl f1)), (h2, .inr (1, o_Code u.1 a2_0 h3 h4)), (h3, .inl (cA3, n3, .inl u.2.1)), (h4, .inl (cA4, n4, .inl u.2.2))])) A) args s 0 0 A) (F0 m 154 ls []) := by
  obtain ⟨hx, hb, hr, hml, hown, ht, hlocks⟩ := id hc
  unfold v_Reader_addCommon_154 at hv
  exact W.vret hx hb hr (fun t ht hW => ⟨⟨(I2, f3, f4), rfl, hv, ⟨by rw [ht]; exact hP, va_K.moved hW.alike hK, hD⟩⟩, hS.F ht⟩) hS.2.2 d_Reader_addCommon_154
set_option maxHeartbeats 4000000 in
set_option maxRecDepth 100000 in
theorem b_Reader_addCommon_113 {h0 : Nat} {a0_3 : Nat} {h1 : Nat} {cA1 : ClassId} {h2 : Nat} {a2_0 : Nat} {h3 : Nat} {cA3 : ClassId} {h4 : Nat} {cA4 : ClassId} {I0 : Nat → Int32} {n1 : Nat} {f1 : Nat → Int32} {I2 : Nat → Int32} {n3 : Nat} {f3 : Nat → Int32} {n4 : Nat} {f4 : Nat → Int32}  {Z : (Nat → Int32) × (Nat → Int32) × (Nat → Int32) → Prop} {H : Heap} {locs : List Loc} {ls : Array Slot} (hc : zC p s m args meth c prog_9_method_10_code none 4 "NumberDress$Reader") (hA : ∀ q : Nat, s.heap.size ≤ q → A q) (hE : zE gE A s) (hl : lv_has ls 4 []) (hK : va_K (dC, dI) zCl [(cA1, .char), (cA3, .int), (cA4, .int)] s) (hP : va_P (dC, dI) zCl [(h0, .inr (8, o_Reader I0 h1 h2 a0_3)), (h1, .inl (cA1, n1, .inl f1)), (h2, .inr (1, o_Code I2 a2_0 h3 h4)), (h3, .inl (cA3, n3, .inl f3)), (h4, .inl (cA4, n4, .inl f4))] H) (hD : va_D A [(h0, .inr (8, o_Reader I0 h1 h2 a0_3)), (h1, .inl (cA1, n1, .inl f1)), (h2, .inr (1, o_Code I2 a2_0 h3 h4)), (h3, .inl (cA3, n3, .inl f3)), (h4, .inl (cA4, n4, .inl f4))]) (hS : va_S A s.heap H locs) (hv : v_Reader_addCommon_113 I0 n1 f1 I2 n3 f3 n4 f4  Z) : W p l e (headSpec (Cond.code (⟨"NumberDress$Reader", "addCommon", "(II)V"⟩ : MethodName) prog_9_method_10_code 4 none :: zT) { frames := 1, cells := 0, slots := 0, locals := 22 }).room s m args below meth c H locs 0 0 (MQ below (va_Qv Z (zB (dC, dI) zCl [(cA1, .char), (cA3, .int), (cA4, .int)] A (fun u : (Nat → Int32) × (Nat → Int32) × (Nat → Int32) => [(h0, .inr (8, o_Reader I0 h1 h2 a0_3)), (h1, .inl (cA1, n1, .inl f1)), (h2, .inr (1, o_Code u.1 a2_0 h3 h4)), (h3, .inl (cA3, n3, .inl u.2.1)), (h4, .inl (cA4, n4, .inl u.2.2))])) A) args s 0 0 A) (F0 m 113 ls []) := by
  obtain ⟨hx, hb, hr, hml, hown, ht, hlocks⟩ := id hc
  unfold v_Reader_addCommon_113 at hv
  refine lv_goto (tgt := 154) hx hb d_Reader_addCommon_113 (by decide) ?_
  exact b_Reader_addCommon_154 hc hA hE  (lv_sub hl [] rfl) hK hP hD hS hv
set_option maxHeartbeats 4000000 in
set_option maxRecDepth 100000 in
theorem b_Reader_addCommon_110 {h0 : Nat} {a0_3 : Nat} {h1 : Nat} {cA1 : ClassId} {h2 : Nat} {a2_0 : Nat} {h3 : Nat} {cA3 : ClassId} {h4 : Nat} {cA4 : ClassId} {I0 : Nat → Int32} {n1 : Nat} {f1 : Nat → Int32} {I2 : Nat → Int32} {n3 : Nat} {f3 : Nat → Int32} {n4 : Nat} {f4 : Nat → Int32} {s1 : Int32} {s2 : Int32}  {Z : (Nat → Int32) × (Nat → Int32) × (Nat → Int32) → Prop} {H : Heap} {locs : List Loc} {ls : Array Slot} (hc : zC p s m args meth c prog_9_method_10_code none 4 "NumberDress$Reader") (hA : ∀ q : Nat, s.heap.size ≤ q → A q) (hE : zE gE A s) (hl : lv_has ls 4 []) (hK : va_K (dC, dI) zCl [(cA1, .char), (cA3, .int), (cA4, .int)] s) (hP : va_P (dC, dI) zCl [(h0, .inr (8, o_Reader I0 h1 h2 a0_3)), (h1, .inl (cA1, n1, .inl f1)), (h2, .inr (1, o_Code I2 a2_0 h3 h4)), (h3, .inl (cA3, n3, .inl f3)), (h4, .inl (cA4, n4, .inl f4))] H) (hD : va_D A [(h0, .inr (8, o_Reader I0 h1 h2 a0_3)), (h1, .inl (cA1, n1, .inl f1)), (h2, .inr (1, o_Code I2 a2_0 h3 h4)), (h3, .inl (cA3, n3, .inl f3)), (h4, .inl (cA4, n4, .inl f4))]) (hS : va_S A s.heap H locs) (hv : v_Reader_addCommon_110 I0 n1 f1 I2 n3 f3 n4 f4 s1 s2  Z) : W p l e (headSpec (Cond.code (⟨"NumberDress$Reader", "addCommon", "(II)V"⟩ : MethodName) prog_9_method_10_code 4 none :: zT) { frames := 1, cells := 0, slots := 0, locals := 22 }).room s m args below meth c H locs 0 0 (MQ below (va_Qv Z (zB (dC, dI) zCl [(cA1, .char), (cA3, .int), (cA4, .int)] A (fun u : (Nat → Int32) × (Nat → Int32) × (Nat → Int32) => [(h0, .inr (8, o_Reader I0 h1 h2 a0_3)), (h1, .inl (cA1, n1, .inl f1)), (h2, .inr (1, o_Code u.1 a2_0 h3 h4)), (h3, .inl (cA3, n3, .inl u.2.1)), (h4, .inl (cA4, n4, .inl u.2.2))])) A) args s 0 0 A) (F0 m 110 ls [.int s2, .int s1, .ref h2]) := by
  obtain ⟨hx, hb, hr, hml, hown, ht, hlocks⟩ := id hc
  unfold v_Reader_addCommon_110 at hv
  refine z_callv (wc := [(h2, .inr (1, o_Code I2 a2_0 h3 h4)), (h3, .inl (cA3, n3, .inl f3)), (h4, .inl (cA4, n4, .inl f4))]) (wr := [(h0, .inr (8, o_Reader I0 h1 h2 a0_3)), (h1, .inl (cA1, n1, .inl f1))]) [2, 3, 4] [0, 1] (va_runV (As := [.int s1, .int s2]) (rest := []) ⟨hx, hb, hml, hown, ht⟩ (m_Code_add l dC dI hv) ⟨(callB_of 2 ht (zG_in zi_Code_add) rfl rfl rfl (ht _ zw_111) (ht _ zw_710) zh_Code_add ⟨Nat.le_of_ble_eq_true rfl, Nat.le_of_ble_eq_true rfl⟩), (ht _ zw_711), (ht _ zw_712)⟩ ⟨zPc_blind, va_recv hK hP (ci := 1) (q0 := 2) rfl rfl, zPc_pre hP hK hD hS hA hE [2, 3, 4] [1, 2] rfl rfl (by decide) rfl⟩ rfl rfl hl.1 rfl (lv_room (Nat.le_of_ble_eq_true rfl)) d_Reader_addCommon_110 ⟨Nat.le_of_ble_eq_true rfl, Nat.le_of_ble_eq_true rfl⟩) hP hD hS hA rfl rfl (by decide) (by decide) (fun u H locs hv hP hD hS => ?_)
  have hP : va_P (dC, dI) zCl [(h0, .inr (8, o_Reader I0 h1 h2 a0_3)), (h1, .inl (cA1, n1, .inl f1)), (h2, .inr (1, o_Code u.1 a2_0 h3 h4)), (h3, .inl (cA3, n3, .inl u.2.1)), (h4, .inl (cA4, n4, .inl u.2.2))] H := hP.sub [0, 1, 2, 3, 4] rfl
  have hD : va_D A [(h0, .inr (8, o_Reader I0 h1 h2 a0_3)), (h1, .inl (cA1, n1, .inl f1)), (h2, .inr (1, o_Code u.1 a2_0 h3 h4)), (h3, .inl (cA3, n3, .inl u.2.1)), (h4, .inl (cA4, n4, .inl u.2.2))] := hD.sub [0, 1, 2, 3, 4] (by decide) rfl
  exact b_Reader_addCommon_113 hc hA hE  (lv_sub hl [] rfl) hK hP hD hS hv
set_option maxHeartbeats 4000000 in
set_option maxRecDepth 100000 in
theorem b_Reader_addCommon_126 {h0 : Nat} {a0_3 : Nat} {h1 : Nat} {cA1 : ClassId} {h2 : Nat} {a2_0 : Nat} {h3 : Nat} {cA3 : ClassId} {h4 : Nat} {cA4 : ClassId} {I0 : Nat → Int32} {n1 : Nat} {f1 : Nat → Int32} {I2 : Nat → Int32} {n3 : Nat} {f3 : Nat → Int32} {n4 : Nat} {f4 : Nat → Int32}  {Z : (Nat → Int32) × (Nat → Int32) × (Nat → Int32) → Prop} {H : Heap} {locs : List Loc} {ls : Array Slot} (hc : zC p s m args meth c prog_9_method_10_code none 4 "NumberDress$Reader") (hA : ∀ q : Nat, s.heap.size ≤ q → A q) (hE : zE gE A s) (hl : lv_has ls 4 []) (hK : va_K (dC, dI) zCl [(cA1, .char), (cA3, .int), (cA4, .int)] s) (hP : va_P (dC, dI) zCl [(h0, .inr (8, o_Reader I0 h1 h2 a0_3)), (h1, .inl (cA1, n1, .inl f1)), (h2, .inr (1, o_Code I2 a2_0 h3 h4)), (h3, .inl (cA3, n3, .inl f3)), (h4, .inl (cA4, n4, .inl f4))] H) (hD : va_D A [(h0, .inr (8, o_Reader I0 h1 h2 a0_3)), (h1, .inl (cA1, n1, .inl f1)), (h2, .inr (1, o_Code I2 a2_0 h3 h4)), (h3, .inl (cA3, n3, .inl f3)), (h4, .inl (cA4, n4, .inl f4))]) (hS : va_S A s.heap H locs) (hv : v_Reader_addCommon_126 I0 n1 f1 I2 n3 f3 n4 f4  Z) : W p l e (headSpec (Cond.code (⟨"NumberDress$Reader", "addCommon", "(II)V"⟩ : MethodName) prog_9_method_10_code 4 none :: zT) { frames := 1, cells := 0, slots := 0, locals := 22 }).room s m args below meth c H locs 0 0 (MQ below (va_Qv Z (zB (dC, dI) zCl [(cA1, .char), (cA3, .int), (cA4, .int)] A (fun u : (Nat → Int32) × (Nat → Int32) × (Nat → Int32) => [(h0, .inr (8, o_Reader I0 h1 h2 a0_3)), (h1, .inl (cA1, n1, .inl f1)), (h2, .inr (1, o_Code u.1 a2_0 h3 h4)), (h3, .inl (cA3, n3, .inl u.2.1)), (h4, .inl (cA4, n4, .inl u.2.2))])) A) args s 0 0 A) (F0 m 126 ls []) := by
  obtain ⟨hx, hb, hr, hml, hown, ht, hlocks⟩ := id hc
  unfold v_Reader_addCommon_126 at hv
  refine lv_goto (tgt := 154) hx hb d_Reader_addCommon_126 (by decide) ?_
  exact b_Reader_addCommon_154 hc hA hE  (lv_sub hl [] rfl) hK hP hD hS hv
set_option maxHeartbeats 4000000 in
set_option maxRecDepth 100000 in
theorem b_Reader_addCommon_138 {h0 : Nat} {a0_3 : Nat} {h1 : Nat} {cA1 : ClassId} {h2 : Nat} {a2_0 : Nat} {h3 : Nat} {cA3 : ClassId} {h4 : Nat} {cA4 : ClassId} {I0 : Nat → Int32} {n1 : Nat} {f1 : Nat → Int32} {I2 : Nat → Int32} {n3 : Nat} {f3 : Nat → Int32} {n4 : Nat} {f4 : Nat → Int32}  {Z : (Nat → Int32) × (Nat → Int32) × (Nat → Int32) → Prop} {H : Heap} {locs : List Loc} {ls : Array Slot} (hc : zC p s m args meth c prog_9_method_10_code none 4 "NumberDress$Reader") (hA : ∀ q : Nat, s.heap.size ≤ q → A q) (hE : zE gE A s) (hl : lv_has ls 4 []) (hK : va_K (dC, dI) zCl [(cA1, .char), (cA3, .int), (cA4, .int)] s) (hP : va_P (dC, dI) zCl [(h0, .inr (8, o_Reader I0 h1 h2 a0_3)), (h1, .inl (cA1, n1, .inl f1)), (h2, .inr (1, o_Code I2 a2_0 h3 h4)), (h3, .inl (cA3, n3, .inl f3)), (h4, .inl (cA4, n4, .inl f4))] H) (hD : va_D A [(h0, .inr (8, o_Reader I0 h1 h2 a0_3)), (h1, .inl (cA1, n1, .inl f1)), (h2, .inr (1, o_Code I2 a2_0 h3 h4)), (h3, .inl (cA3, n3, .inl f3)), (h4, .inl (cA4, n4, .inl f4))]) (hS : va_S A s.heap H locs) (hv : v_Reader_addCommon_138 I0 n1 f1 I2 n3 f3 n4 f4  Z) : W p l e (headSpec (Cond.code (⟨"NumberDress$Reader", "addCommon", "(II)V"⟩ : MethodName) prog_9_method_10_code 4 none :: zT) { frames := 1, cells := 0, slots := 0, locals := 22 }).room s m args below meth c H locs 0 0 (MQ below (va_Qv Z (zB (dC, dI) zCl [(cA1, .char), (cA3, .int), (cA4, .int)] A (fun u : (Nat → Int32) × (Nat → Int32) × (Nat → Int32) => [(h0, .inr (8, o_Reader I0 h1 h2 a0_3)), (h1, .inl (cA1, n1, .inl f1)), (h2, .inr (1, o_Code u.1 a2_0 h3 h4)), (h3, .inl (cA3, n3, .inl u.2.1)), (h4, .inl (cA4, n4, .inl u.2.2))])) A) args s 0 0 A) (F0 m 138 ls []) := by
  obtain ⟨hx, hb, hr, hml, hown, ht, hlocks⟩ := id hc
  unfold v_Reader_addCommon_138 at hv
  refine lv_goto (tgt := 154) hx hb d_Reader_addCommon_138 (by decide) ?_
  exact b_Reader_addCommon_154 hc hA hE  (lv_sub hl [] rfl) hK hP hD hS hv
set_option maxHeartbeats 4000000 in
set_option maxRecDepth 100000 in
theorem b_Reader_addCommon_151 {h0 : Nat} {a0_3 : Nat} {h1 : Nat} {cA1 : ClassId} {h2 : Nat} {a2_0 : Nat} {h3 : Nat} {cA3 : ClassId} {h4 : Nat} {cA4 : ClassId} {I0 : Nat → Int32} {n1 : Nat} {f1 : Nat → Int32} {I2 : Nat → Int32} {n3 : Nat} {f3 : Nat → Int32} {n4 : Nat} {f4 : Nat → Int32} {s1 : Int32} {s2 : Int32}  {Z : (Nat → Int32) × (Nat → Int32) × (Nat → Int32) → Prop} {H : Heap} {locs : List Loc} {ls : Array Slot} (hc : zC p s m args meth c prog_9_method_10_code none 4 "NumberDress$Reader") (hA : ∀ q : Nat, s.heap.size ≤ q → A q) (hE : zE gE A s) (hl : lv_has ls 4 []) (hK : va_K (dC, dI) zCl [(cA1, .char), (cA3, .int), (cA4, .int)] s) (hP : va_P (dC, dI) zCl [(h0, .inr (8, o_Reader I0 h1 h2 a0_3)), (h1, .inl (cA1, n1, .inl f1)), (h2, .inr (1, o_Code I2 a2_0 h3 h4)), (h3, .inl (cA3, n3, .inl f3)), (h4, .inl (cA4, n4, .inl f4))] H) (hD : va_D A [(h0, .inr (8, o_Reader I0 h1 h2 a0_3)), (h1, .inl (cA1, n1, .inl f1)), (h2, .inr (1, o_Code I2 a2_0 h3 h4)), (h3, .inl (cA3, n3, .inl f3)), (h4, .inl (cA4, n4, .inl f4))]) (hS : va_S A s.heap H locs) (hv : v_Reader_addCommon_151 I0 n1 f1 I2 n3 f3 n4 f4 s1 s2  Z) : W p l e (headSpec (Cond.code (⟨"NumberDress$Reader", "addCommon", "(II)V"⟩ : MethodName) prog_9_method_10_code 4 none :: zT) { frames := 1, cells := 0, slots := 0, locals := 22 }).room s m args below meth c H locs 0 0 (MQ below (va_Qv Z (zB (dC, dI) zCl [(cA1, .char), (cA3, .int), (cA4, .int)] A (fun u : (Nat → Int32) × (Nat → Int32) × (Nat → Int32) => [(h0, .inr (8, o_Reader I0 h1 h2 a0_3)), (h1, .inl (cA1, n1, .inl f1)), (h2, .inr (1, o_Code u.1 a2_0 h3 h4)), (h3, .inl (cA3, n3, .inl u.2.1)), (h4, .inl (cA4, n4, .inl u.2.2))])) A) args s 0 0 A) (F0 m 151 ls [.int s2, .int s1, .ref h2]) := by
  obtain ⟨hx, hb, hr, hml, hown, ht, hlocks⟩ := id hc
  unfold v_Reader_addCommon_151 at hv
  refine z_callv (wc := [(h2, .inr (1, o_Code I2 a2_0 h3 h4)), (h3, .inl (cA3, n3, .inl f3)), (h4, .inl (cA4, n4, .inl f4))]) (wr := [(h0, .inr (8, o_Reader I0 h1 h2 a0_3)), (h1, .inl (cA1, n1, .inl f1))]) [2, 3, 4] [0, 1] (va_runV (As := [.int s1, .int s2]) (rest := []) ⟨hx, hb, hml, hown, ht⟩ (m_Code_add l dC dI hv) ⟨(callB_of 2 ht (zG_in zi_Code_add) rfl rfl rfl (ht _ zw_111) (ht _ zw_710) zh_Code_add ⟨Nat.le_of_ble_eq_true rfl, Nat.le_of_ble_eq_true rfl⟩), (ht _ zw_711), (ht _ zw_712)⟩ ⟨zPc_blind, va_recv hK hP (ci := 1) (q0 := 2) rfl rfl, zPc_pre hP hK hD hS hA hE [2, 3, 4] [1, 2] rfl rfl (by decide) rfl⟩ rfl rfl hl.1 rfl (lv_room (Nat.le_of_ble_eq_true rfl)) d_Reader_addCommon_151 ⟨Nat.le_of_ble_eq_true rfl, Nat.le_of_ble_eq_true rfl⟩) hP hD hS hA rfl rfl (by decide) (by decide) (fun u H locs hv hP hD hS => ?_)
  have hP : va_P (dC, dI) zCl [(h0, .inr (8, o_Reader I0 h1 h2 a0_3)), (h1, .inl (cA1, n1, .inl f1)), (h2, .inr (1, o_Code u.1 a2_0 h3 h4)), (h3, .inl (cA3, n3, .inl u.2.1)), (h4, .inl (cA4, n4, .inl u.2.2))] H := hP.sub [0, 1, 2, 3, 4] rfl
  have hD : va_D A [(h0, .inr (8, o_Reader I0 h1 h2 a0_3)), (h1, .inl (cA1, n1, .inl f1)), (h2, .inr (1, o_Code u.1 a2_0 h3 h4)), (h3, .inl (cA3, n3, .inl u.2.1)), (h4, .inl (cA4, n4, .inl u.2.2))] := hD.sub [0, 1, 2, 3, 4] (by decide) rfl
  exact b_Reader_addCommon_154 hc hA hE  (lv_sub hl [] rfl) hK hP hD hS hv
set_option maxHeartbeats 4000000 in
set_option maxRecDepth 100000 in
theorem b_Reader_addCommon_89 {h0 : Nat} {a0_3 : Nat} {h1 : Nat} {cA1 : ClassId} {h2 : Nat} {a2_0 : Nat} {h3 : Nat} {cA3 : ClassId} {h4 : Nat} {cA4 : ClassId} {I0 : Nat → Int32} {n1 : Nat} {f1 : Nat → Int32} {I2 : Nat → Int32} {n3 : Nat} {f3 : Nat → Int32} {n4 : Nat} {f4 : Nat → Int32} {x1 : Int32} {x2 : Int32} {x3 : Int32} {k67 : (Nat → Int32) → (Nat → Int32) → (Nat → Int32) → Int32 → Prop} {Z : (Nat → Int32) × (Nat → Int32) × (Nat → Int32) → Prop} {H : Heap} {locs : List Loc} {ls : Array Slot} (hc : zC p s m args meth c prog_9_method_10_code none 4 "NumberDress$Reader") (hA : ∀ q : Nat, s.heap.size ≤ q → A q) (hE : zE gE A s) (hk67 : ∀ (I2 : Nat → Int32) (f3 : Nat → Int32) (f4 : Nat → Int32) (x3 : Int32) (H : Heap) (locs : List Loc) (ls : Array Slot), lv_has ls 4 [(0, .ref h0), (1, .int x1), (2, .int x2), (3, .int x3)] → va_K (dC, dI) zCl [(cA1, .char), (cA3, .int), (cA4, .int)] s → va_P (dC, dI) zCl [(h0, .inr (8, o_Reader I0 h1 h2 a0_3)), (h1, .inl (cA1, n1, .inl f1)), (h2, .inr (1, o_Code I2 a2_0 h3 h4)), (h3, .inl (cA3, n3, .inl f3)), (h4, .inl (cA4, n4, .inl f4))] H → va_D A [(h0, .inr (8, o_Reader I0 h1 h2 a0_3)), (h1, .inl (cA1, n1, .inl f1)), (h2, .inr (1, o_Code I2 a2_0 h3 h4)), (h3, .inl (cA3, n3, .inl f3)), (h4, .inl (cA4, n4, .inl f4))] → va_S A s.heap H locs → k67 I2 f3 f4 x3 → W p l e (headSpec (Cond.code (⟨"NumberDress$Reader", "addCommon", "(II)V"⟩ : MethodName) prog_9_method_10_code 4 none :: zT) { frames := 1, cells := 0, slots := 0, locals := 22 }).room s m args below meth c H locs 0 0 (MQ below (va_Qv Z (zB (dC, dI) zCl [(cA1, .char), (cA3, .int), (cA4, .int)] A (fun u : (Nat → Int32) × (Nat → Int32) × (Nat → Int32) => [(h0, .inr (8, o_Reader I0 h1 h2 a0_3)), (h1, .inl (cA1, n1, .inl f1)), (h2, .inr (1, o_Code u.1 a2_0 h3 h4)), (h3, .inl (cA3, n3, .inl u.2.1)), (h4, .inl (cA4, n4, .inl u.2.2))])) A) args s 0 0 A) (F0 m 67 ls [])) (hl : lv_has ls 4 [(0, .ref h0), (1, .int x1), (2, .int x2), (3, .int x3)]) (hK : va_K (dC, dI) zCl [(cA1, .char), (cA3, .int), (cA4, .int)] s) (hP : va_P (dC, dI) zCl [(h0, .inr (8, o_Reader I0 h1 h2 a0_3)), (h1, .inl (cA1, n1, .inl f1)), (h2, .inr (1, o_Code I2 a2_0 h3 h4)), (h3, .inl (cA3, n3, .inl f3)), (h4, .inl (cA4, n4, .inl f4))] H) (hD : va_D A [(h0, .inr (8, o_Reader I0 h1 h2 a0_3)), (h1, .inl (cA1, n1, .inl f1)), (h2, .inr (1, o_Code I2 a2_0 h3 h4)), (h3, .inl (cA3, n3, .inl f3)), (h4, .inl (cA4, n4, .inl f4))]) (hS : va_S A s.heap H locs) (hv : v_Reader_addCommon_89 I0 n1 f1 I2 n3 f3 n4 f4 x1 x2 x3 k67 Z) : W p l e (headSpec (Cond.code (⟨"NumberDress$Reader", "addCommon", "(II)V"⟩ : MethodName) prog_9_method_10_code 4 none :: zT) { frames := 1, cells := 0, slots := 0, locals := 22 }).room s m args below meth c H locs 0 0 (MQ below (va_Qv Z (zB (dC, dI) zCl [(cA1, .char), (cA3, .int), (cA4, .int)] A (fun u : (Nat → Int32) × (Nat → Int32) × (Nat → Int32) => [(h0, .inr (8, o_Reader I0 h1 h2 a0_3)), (h1, .inl (cA1, n1, .inl f1)), (h2, .inr (1, o_Code u.1 a2_0 h3 h4)), (h3, .inl (cA3, n3, .inl u.2.1)), (h4, .inl (cA4, n4, .inl u.2.2))])) A) args s 0 0 A) (F0 m 89 ls []) := by
  obtain ⟨hx, hb, hr, hml, hown, ht, hlocks⟩ := id hc
  unfold v_Reader_addCommon_89 at hv
  refine lv_iinc (v := (x3 + (1 : Int32))) (lv' := [(3, .int (x3 + (1 : Int32))), (0, .ref h0), (1, .int x1), (2, .int x2)]) hx hb d_Reader_addCommon_89 hl (k := 3) rfl rfl (by decide) rfl (fun ls hl => ?_)
  refine lv_goto (tgt := 67) hx hb d_Reader_addCommon_92 (by decide) ?_
  exact hk67 I2 f3 f4 (x3 + (1 : Int32)) _ _ _ (lv_sub hl [1, 2, 3, 0] rfl) hK hP hD hS hv
set_option maxHeartbeats 4000000 in
set_option maxRecDepth 100000 in
theorem b_Reader_addCommon_86 {h0 : Nat} {a0_3 : Nat} {h1 : Nat} {cA1 : ClassId} {h2 : Nat} {a2_0 : Nat} {h3 : Nat} {cA3 : ClassId} {h4 : Nat} {cA4 : ClassId} {I0 : Nat → Int32} {n1 : Nat} {f1 : Nat → Int32} {I2 : Nat → Int32} {n3 : Nat} {f3 : Nat → Int32} {n4 : Nat} {f4 : Nat → Int32} {x1 : Int32} {x2 : Int32} {x3 : Int32} {s1 : Int32} {s2 : Int32} {k67 : (Nat → Int32) → (Nat → Int32) → (Nat → Int32) → Int32 → Prop} {Z : (Nat → Int32) × (Nat → Int32) × (Nat → Int32) → Prop} {H : Heap} {locs : List Loc} {ls : Array Slot} (hc : zC p s m args meth c prog_9_method_10_code none 4 "NumberDress$Reader") (hA : ∀ q : Nat, s.heap.size ≤ q → A q) (hE : zE gE A s) (hk67 : ∀ (I2 : Nat → Int32) (f3 : Nat → Int32) (f4 : Nat → Int32) (x3 : Int32) (H : Heap) (locs : List Loc) (ls : Array Slot), lv_has ls 4 [(0, .ref h0), (1, .int x1), (2, .int x2), (3, .int x3)] → va_K (dC, dI) zCl [(cA1, .char), (cA3, .int), (cA4, .int)] s → va_P (dC, dI) zCl [(h0, .inr (8, o_Reader I0 h1 h2 a0_3)), (h1, .inl (cA1, n1, .inl f1)), (h2, .inr (1, o_Code I2 a2_0 h3 h4)), (h3, .inl (cA3, n3, .inl f3)), (h4, .inl (cA4, n4, .inl f4))] H → va_D A [(h0, .inr (8, o_Reader I0 h1 h2 a0_3)), (h1, .inl (cA1, n1, .inl f1)), (h2, .inr (1, o_Code I2 a2_0 h3 h4)), (h3, .inl (cA3, n3, .inl f3)), (h4, .inl (cA4, n4, .inl f4))] → va_S A s.heap H locs → k67 I2 f3 f4 x3 → W p l e (headSpec (Cond.code (⟨"NumberDress$Reader", "addCommon", "(II)V"⟩ : MethodName) prog_9_method_10_code 4 none :: zT) { frames := 1, cells := 0, slots := 0, locals := 22 }).room s m args below meth c H locs 0 0 (MQ below (va_Qv Z (zB (dC, dI) zCl [(cA1, .char), (cA3, .int), (cA4, .int)] A (fun u : (Nat → Int32) × (Nat → Int32) × (Nat → Int32) => [(h0, .inr (8, o_Reader I0 h1 h2 a0_3)), (h1, .inl (cA1, n1, .inl f1)), (h2, .inr (1, o_Code u.1 a2_0 h3 h4)), (h3, .inl (cA3, n3, .inl u.2.1)), (h4, .inl (cA4, n4, .inl u.2.2))])) A) args s 0 0 A) (F0 m 67 ls [])) (hl : lv_has ls 4 [(0, .ref h0), (1, .int x1), (2, .int x2), (3, .int x3)]) (hK : va_K (dC, dI) zCl [(cA1, .char), (cA3, .int), (cA4, .int)] s) (hP : va_P (dC, dI) zCl [(h0, .inr (8, o_Reader I0 h1 h2 a0_3)), (h1, .inl (cA1, n1, .inl f1)), (h2, .inr (1, o_Code I2 a2_0 h3 h4)), (h3, .inl (cA3, n3, .inl f3)), (h4, .inl (cA4, n4, .inl f4))] H) (hD : va_D A [(h0, .inr (8, o_Reader I0 h1 h2 a0_3)), (h1, .inl (cA1, n1, .inl f1)), (h2, .inr (1, o_Code I2 a2_0 h3 h4)), (h3, .inl (cA3, n3, .inl f3)), (h4, .inl (cA4, n4, .inl f4))]) (hS : va_S A s.heap H locs) (hv : v_Reader_addCommon_86 I0 n1 f1 I2 n3 f3 n4 f4 x1 x2 x3 s1 s2 k67 Z) : W p l e (headSpec (Cond.code (⟨"NumberDress$Reader", "addCommon", "(II)V"⟩ : MethodName) prog_9_method_10_code 4 none :: zT) { frames := 1, cells := 0, slots := 0, locals := 22 }).room s m args below meth c H locs 0 0 (MQ below (va_Qv Z (zB (dC, dI) zCl [(cA1, .char), (cA3, .int), (cA4, .int)] A (fun u : (Nat → Int32) × (Nat → Int32) × (Nat → Int32) => [(h0, .inr (8, o_Reader I0 h1 h2 a0_3)), (h1, .inl (cA1, n1, .inl f1)), (h2, .inr (1, o_Code u.1 a2_0 h3 h4)), (h3, .inl (cA3, n3, .inl u.2.1)), (h4, .inl (cA4, n4, .inl u.2.2))])) A) args s 0 0 A) (F0 m 86 ls [.int s2, .int s1, .ref h2]) := by
  obtain ⟨hx, hb, hr, hml, hown, ht, hlocks⟩ := id hc
  unfold v_Reader_addCommon_86 at hv
  refine z_callv (wc := [(h2, .inr (1, o_Code I2 a2_0 h3 h4)), (h3, .inl (cA3, n3, .inl f3)), (h4, .inl (cA4, n4, .inl f4))]) (wr := [(h0, .inr (8, o_Reader I0 h1 h2 a0_3)), (h1, .inl (cA1, n1, .inl f1))]) [2, 3, 4] [0, 1] (va_runV (As := [.int s1, .int s2]) (rest := []) ⟨hx, hb, hml, hown, ht⟩ (m_Code_add l dC dI hv) ⟨(callB_of 2 ht (zG_in zi_Code_add) rfl rfl rfl (ht _ zw_111) (ht _ zw_710) zh_Code_add ⟨Nat.le_of_ble_eq_true rfl, Nat.le_of_ble_eq_true rfl⟩), (ht _ zw_711), (ht _ zw_712)⟩ ⟨zPc_blind, va_recv hK hP (ci := 1) (q0 := 2) rfl rfl, zPc_pre hP hK hD hS hA hE [2, 3, 4] [1, 2] rfl rfl (by decide) rfl⟩ rfl rfl hl.1 rfl (lv_room (Nat.le_of_ble_eq_true rfl)) d_Reader_addCommon_86 ⟨Nat.le_of_ble_eq_true rfl, Nat.le_of_ble_eq_true rfl⟩) hP hD hS hA rfl rfl (by decide) (by decide) (fun u H locs hv hP hD hS => ?_)
  have hP : va_P (dC, dI) zCl [(h0, .inr (8, o_Reader I0 h1 h2 a0_3)), (h1, .inl (cA1, n1, .inl f1)), (h2, .inr (1, o_Code u.1 a2_0 h3 h4)), (h3, .inl (cA3, n3, .inl u.2.1)), (h4, .inl (cA4, n4, .inl u.2.2))] H := hP.sub [0, 1, 2, 3, 4] rfl
  have hD : va_D A [(h0, .inr (8, o_Reader I0 h1 h2 a0_3)), (h1, .inl (cA1, n1, .inl f1)), (h2, .inr (1, o_Code u.1 a2_0 h3 h4)), (h3, .inl (cA3, n3, .inl u.2.1)), (h4, .inl (cA4, n4, .inl u.2.2))] := hD.sub [0, 1, 2, 3, 4] (by decide) rfl
  exact b_Reader_addCommon_89 hc hA hE hk67 (lv_sub hl [0, 1, 2, 3] rfl) hK hP hD hS hv
set_option maxHeartbeats 4000000 in
set_option maxRecDepth 100000 in
theorem b_Reader_addCommon_67 {h0 : Nat} {a0_3 : Nat} {h1 : Nat} {cA1 : ClassId} {h2 : Nat} {a2_0 : Nat} {h3 : Nat} {cA3 : ClassId} {h4 : Nat} {cA4 : ClassId} {I0 : Nat → Int32} {n1 : Nat} {f1 : Nat → Int32} {n3 : Nat} {n4 : Nat} {x1 : Int32} {x2 : Int32}  {Z : (Nat → Int32) × (Nat → Int32) × (Nat → Int32) → Prop} (hc : zC p s m args meth c prog_9_method_10_code none 4 "NumberDress$Reader") (hA : ∀ q : Nat, s.heap.size ≤ q → A q) (hE : zE gE A s) : ∀ (N : Nat) (I2 : Nat → Int32) (f3 : Nat → Int32) (f4 : Nat → Int32) (x3 : Int32) (H : Heap) (locs : List Loc) (ls : Array Slot), lv_has ls 4 [(0, .ref h0), (1, .int x1), (2, .int x2), (3, .int x3)] → va_K (dC, dI) zCl [(cA1, .char), (cA3, .int), (cA4, .int)] s → va_P (dC, dI) zCl [(h0, .inr (8, o_Reader I0 h1 h2 a0_3)), (h1, .inl (cA1, n1, .inl f1)), (h2, .inr (1, o_Code I2 a2_0 h3 h4)), (h3, .inl (cA3, n3, .inl f3)), (h4, .inl (cA4, n4, .inl f4))] H → va_D A [(h0, .inr (8, o_Reader I0 h1 h2 a0_3)), (h1, .inl (cA1, n1, .inl f1)), (h2, .inr (1, o_Code I2 a2_0 h3 h4)), (h3, .inl (cA3, n3, .inl f3)), (h4, .inl (cA4, n4, .inl f4))] → va_S A s.heap H locs → v_Reader_addCommon_67 I0 n1 f1 n3 n4 x1 x2  Z N I2 f3 f4 x3 → W p l e (headSpec (Cond.code (⟨"NumberDress$Reader", "addCommon", "(II)V"⟩ : MethodName) prog_9_method_10_code 4 none :: zT) { frames := 1, cells := 0, slots := 0, locals := 22 }).room s m args below meth c H locs 0 0 (MQ below (va_Qv Z (zB (dC, dI) zCl [(cA1, .char), (cA3, .int), (cA4, .int)] A (fun u : (Nat → Int32) × (Nat → Int32) × (Nat → Int32) => [(h0, .inr (8, o_Reader I0 h1 h2 a0_3)), (h1, .inl (cA1, n1, .inl f1)), (h2, .inr (1, o_Code u.1 a2_0 h3 h4)), (h3, .inl (cA3, n3, .inl u.2.1)), (h4, .inl (cA4, n4, .inl u.2.2))])) A) args s 0 0 A) (F0 m 67 ls []) := by
  obtain ⟨hx, hb, hr, hml, hown, ht, hlocks⟩ := id hc
  intro N
  induction N with
  | zero => intro I2 f3 f4 x3 H locs ls hl hK hP hD hS hv; exact hv.elim
  | succ N hk67 =>
    intro I2 f3 f4 x3 H locs ls hl hK hP hD hS hv
    unfold v_Reader_addCommon_67 at hv
    refine lv_iload_n hx hb d_Reader_addCommon_67 rfl (lv_at hl 3 rfl) ?_
    refine lv_iload_n hx hb d_Reader_addCommon_68 rfl (lv_at hl 2 rfl) ?_
    refine lv_iconst (v := (1 : Int32)) hx hb d_Reader_addCommon_69 (by decide) ?_
    refine lv_isub hx hb d_Reader_addCommon_70 ?_
    refine lv_icmp_ge (tgt := 95) hx hb d_Reader_addCommon_71 (by decide) (fun c_1 => ?_) (fun c_1 => ?_)
    · have hv := hv.1 c_1
      refine lv_goto (tgt := 154) hx hb d_Reader_addCommon_95 (by decide) ?_
      exact b_Reader_addCommon_154 hc hA hE  (lv_sub hl [] rfl) hK hP hD hS hv
    · have hv := hv.2 c_1
      refine lv_aload_n hx hb d_Reader_addCommon_74 rfl (lv_at hl 0 rfl) ?_
      refine va_get (D := (dC, dI)) (ci := 8) (v := .ref h2) (C := "NumberDress$Reader") (T := T_Reader) (N := 5) hx hb ht zin_Reader hown hK hP 0 rfl rfl 2 (by decide) (ht _ zw_273) (fun _ h9 => h9) rfl d_Reader_addCommon_75 ?_
      refine lv_iconst (v := (1 : Int32)) hx hb d_Reader_addCommon_78 (by decide) ?_
      refine lv_aload_n hx hb d_Reader_addCommon_79 rfl (lv_at hl 0 rfl) ?_
      refine lv_iload_n hx hb d_Reader_addCommon_80 rfl (lv_at hl 1 rfl) ?_
      refine lv_iload_n hx hb d_Reader_addCommon_81 rfl (lv_at hl 3 rfl) ?_
      refine lv_iadd hx hb d_Reader_addCommon_82 ?_
      refine z_calli (wc := [(h0, .inr (8, o_Reader I0 h1 h2 a0_3)), (h1, .inl (cA1, n1, .inl f1))]) (wr := [(h2, .inr (1, o_Code I2 a2_0 h3 h4)), (h3, .inl (cA3, n3, .inl f3)), (h4, .inl (cA4, n4, .inl f4))]) [0, 1] [2, 3, 4] (va_runV (As := [.int (x1 + x3)]) (rest := [.int (1 : Int32), .ref h2]) ⟨hx, hb, hml, hown, ht⟩ (m_Reader_sign l dC dI hv) ⟨(callB_of 1 ht (zG_in zi_Reader_sign) rfl rfl rfl (ht _ zw_113) (ht _ zw_512) zh_Reader_sign ⟨Nat.le_of_ble_eq_true rfl, Nat.le_of_ble_eq_true rfl⟩), (ht _ zw_514), (ht _ zw_1)⟩ ⟨zPc_blind, va_recv hK hP (ci := 8) (q0 := 0) rfl rfl, zPc_pre hP hK hD hS hA hE [0, 1] [0] rfl rfl (by decide) rfl⟩ rfl rfl hl.1 rfl (lv_room (Nat.le_of_ble_eq_true rfl)) d_Reader_addCommon_83 ⟨Nat.le_of_ble_eq_true rfl, Nat.le_of_ble_eq_true rfl⟩) hP hD hS hA rfl rfl (by decide) (by decide) (fun r u H locs hv hP hD hS => ?_)
      have hP : va_P (dC, dI) zCl [(h0, .inr (8, o_Reader I0 h1 h2 a0_3)), (h1, .inl (cA1, n1, .inl f1)), (h2, .inr (1, o_Code I2 a2_0 h3 h4)), (h3, .inl (cA3, n3, .inl f3)), (h4, .inl (cA4, n4, .inl f4))] H := hP.sub [3, 4, 0, 1, 2] rfl
      have hD : va_D A [(h0, .inr (8, o_Reader I0 h1 h2 a0_3)), (h1, .inl (cA1, n1, .inl f1)), (h2, .inr (1, o_Code I2 a2_0 h3 h4)), (h3, .inl (cA3, n3, .inl f3)), (h4, .inl (cA4, n4, .inl f4))] := hD.sub [3, 4, 0, 1, 2] (by decide) rfl
      exact b_Reader_addCommon_86 hc hA hE hk67 (lv_sub hl [0, 1, 2, 3] rfl) hK hP hD hS hv
set_option maxHeartbeats 4000000 in
set_option maxRecDepth 100000 in
theorem b_Reader_addCommon_65 {h0 : Nat} {a0_3 : Nat} {h1 : Nat} {cA1 : ClassId} {h2 : Nat} {a2_0 : Nat} {h3 : Nat} {cA3 : ClassId} {h4 : Nat} {cA4 : ClassId} {I0 : Nat → Int32} {n1 : Nat} {f1 : Nat → Int32} {I2 : Nat → Int32} {n3 : Nat} {f3 : Nat → Int32} {n4 : Nat} {f4 : Nat → Int32} {x1 : Int32} {x2 : Int32}  {Z : (Nat → Int32) × (Nat → Int32) × (Nat → Int32) → Prop} {H : Heap} {locs : List Loc} {ls : Array Slot} (hc : zC p s m args meth c prog_9_method_10_code none 4 "NumberDress$Reader") (hA : ∀ q : Nat, s.heap.size ≤ q → A q) (hE : zE gE A s) (hl : lv_has ls 4 [(0, .ref h0), (1, .int x1), (2, .int x2)]) (hK : va_K (dC, dI) zCl [(cA1, .char), (cA3, .int), (cA4, .int)] s) (hP : va_P (dC, dI) zCl [(h0, .inr (8, o_Reader I0 h1 h2 a0_3)), (h1, .inl (cA1, n1, .inl f1)), (h2, .inr (1, o_Code I2 a2_0 h3 h4)), (h3, .inl (cA3, n3, .inl f3)), (h4, .inl (cA4, n4, .inl f4))] H) (hD : va_D A [(h0, .inr (8, o_Reader I0 h1 h2 a0_3)), (h1, .inl (cA1, n1, .inl f1)), (h2, .inr (1, o_Code I2 a2_0 h3 h4)), (h3, .inl (cA3, n3, .inl f3)), (h4, .inl (cA4, n4, .inl f4))]) (hS : va_S A s.heap H locs) (hv : v_Reader_addCommon_65 I0 n1 f1 I2 n3 f3 n4 f4 x1 x2  Z) : W p l e (headSpec (Cond.code (⟨"NumberDress$Reader", "addCommon", "(II)V"⟩ : MethodName) prog_9_method_10_code 4 none :: zT) { frames := 1, cells := 0, slots := 0, locals := 22 }).room s m args below meth c H locs 0 0 (MQ below (va_Qv Z (zB (dC, dI) zCl [(cA1, .char), (cA3, .int), (cA4, .int)] A (fun u : (Nat → Int32) × (Nat → Int32) × (Nat → Int32) => [(h0, .inr (8, o_Reader I0 h1 h2 a0_3)), (h1, .inl (cA1, n1, .inl f1)), (h2, .inr (1, o_Code u.1 a2_0 h3 h4)), (h3, .inl (cA3, n3, .inl u.2.1)), (h4, .inl (cA4, n4, .inl u.2.2))])) A) args s 0 0 A) (F0 m 65 ls []) := by
  obtain ⟨hx, hb, hr, hml, hown, ht, hlocks⟩ := id hc
  unfold v_Reader_addCommon_65 at hv
  refine lv_iconst (v := (1 : Int32)) hx hb d_Reader_addCommon_65 (by decide) ?_
  refine lv_istore_n (lv' := [(3, .int (1 : Int32)), (0, .ref h0), (1, .int x1), (2, .int x2)]) hx hb d_Reader_addCommon_66 rfl hl (by decide) rfl (fun ls hl => ?_)
  obtain ⟨Nx, hv⟩ := hv
  exact b_Reader_addCommon_67 hc hA hE  Nx I2 f3 f4 (1 : Int32) _ _ _ (lv_sub hl [1, 2, 3, 0] rfl) hK hP hD hS hv
set_option maxHeartbeats 4000000 in
set_option maxRecDepth 100000 in
theorem b_Reader_addCommon_5 {h0 : Nat} {a0_3 : Nat} {h1 : Nat} {cA1 : ClassId} {h2 : Nat} {a2_0 : Nat} {h3 : Nat} {cA3 : ClassId} {h4 : Nat} {cA4 : ClassId} {I0 : Nat → Int32} {n1 : Nat} {f1 : Nat → Int32} {I2 : Nat → Int32} {n3 : Nat} {f3 : Nat → Int32} {n4 : Nat} {f4 : Nat → Int32} {x1 : Int32} {x2 : Int32} {s0 : Int32}  {Z : (Nat → Int32) × (Nat → Int32) × (Nat → Int32) → Prop} {H : Heap} {locs : List Loc} {ls : Array Slot} (hc : zC p s m args meth c prog_9_method_10_code none 4 "NumberDress$Reader") (hA : ∀ q : Nat, s.heap.size ≤ q → A q) (hE : zE gE A s) (hl : lv_has ls 4 [(0, .ref h0), (1, .int x1), (2, .int x2)]) (hK : va_K (dC, dI) zCl [(cA1, .char), (cA3, .int), (cA4, .int)] s) (hP : va_P (dC, dI) zCl [(h0, .inr (8, o_Reader I0 h1 h2 a0_3)), (h1, .inl (cA1, n1, .inl f1)), (h2, .inr (1, o_Code I2 a2_0 h3 h4)), (h3, .inl (cA3, n3, .inl f3)), (h4, .inl (cA4, n4, .inl f4))] H) (hD : va_D A [(h0, .inr (8, o_Reader I0 h1 h2 a0_3)), (h1, .inl (cA1, n1, .inl f1)), (h2, .inr (1, o_Code I2 a2_0 h3 h4)), (h3, .inl (cA3, n3, .inl f3)), (h4, .inl (cA4, n4, .inl f4))]) (hS : va_S A s.heap H locs) (hv : v_Reader_addCommon_5 I0 n1 f1 I2 n3 f3 n4 f4 x1 x2 s0  Z) : W p l e (headSpec (Cond.code (⟨"NumberDress$Reader", "addCommon", "(II)V"⟩ : MethodName) prog_9_method_10_code 4 none :: zT) { frames := 1, cells := 0, slots := 0, locals := 22 }).room s m args below meth c H locs 0 0 (MQ below (va_Qv Z (zB (dC, dI) zCl [(cA1, .char), (cA3, .int), (cA4, .int)] A (fun u : (Nat → Int32) × (Nat → Int32) × (Nat → Int32) => [(h0, .inr (8, o_Reader I0 h1 h2 a0_3)), (h1, .inl (cA1, n1, .inl f1)), (h2, .inr (1, o_Code u.1 a2_0 h3 h4)), (h3, .inl (cA3, n3, .inl u.2.1)), (h4, .inl (cA4, n4, .inl u.2.2))])) A) args s 0 0 A) (F0 m 5 ls [.int s0]) := by
  obtain ⟨hx, hb, hr, hml, hown, ht, hlocks⟩ := id hc
  unfold v_Reader_addCommon_5 at hv
  by_cases c_1 : s0 = (34 : Int32)
  · have hv := hv.1 c_1
    refine lv_lookup (off := 51) (tgt := 56) hx hb d_Reader_addCommon_5 (by decide) (by rw [c_1] <;> rfl) (by decide) ?_
    refine lv_aload_n hx hb d_Reader_addCommon_56 rfl (lv_at hl 0 rfl) ?_
    refine va_get (D := (dC, dI)) (ci := 8) (v := .ref h2) (C := "NumberDress$Reader") (T := T_Reader) (N := 5) hx hb ht zin_Reader hown hK hP 0 rfl rfl 2 (by decide) (ht _ zw_273) (fun _ h9 => h9) rfl d_Reader_addCommon_57 ?_
    refine lv_iconst (v := (0 : Int32)) hx hb d_Reader_addCommon_60 (by decide) ?_
    refine lv_iconst (v := (0 : Int32)) hx hb d_Reader_addCommon_61 (by decide) ?_
    refine z_callv (wc := [(h2, .inr (1, o_Code I2 a2_0 h3 h4)), (h3, .inl (cA3, n3, .inl f3)), (h4, .inl (cA4, n4, .inl f4))]) (wr := [(h0, .inr (8, o_Reader I0 h1 h2 a0_3)), (h1, .inl (cA1, n1, .inl f1))]) [2, 3, 4] [0, 1] (va_runV (As := [.int (0 : Int32), .int (0 : Int32)]) (rest := []) ⟨hx, hb, hml, hown, ht⟩ (m_Code_add l dC dI hv) ⟨(callB_of 2 ht (zG_in zi_Code_add) rfl rfl rfl (ht _ zw_111) (ht _ zw_710) zh_Code_add ⟨Nat.le_of_ble_eq_true rfl, Nat.le_of_ble_eq_true rfl⟩), (ht _ zw_711), (ht _ zw_712)⟩ ⟨zPc_blind, va_recv hK hP (ci := 1) (q0 := 2) rfl rfl, zPc_pre hP hK hD hS hA hE [2, 3, 4] [1, 2] rfl rfl (by decide) rfl⟩ rfl rfl hl.1 rfl (lv_room (Nat.le_of_ble_eq_true rfl)) d_Reader_addCommon_62 ⟨Nat.le_of_ble_eq_true rfl, Nat.le_of_ble_eq_true rfl⟩) hP hD hS hA rfl rfl (by decide) (by decide) (fun u H locs hv hP hD hS => ?_)
    have hP : va_P (dC, dI) zCl [(h0, .inr (8, o_Reader I0 h1 h2 a0_3)), (h1, .inl (cA1, n1, .inl f1)), (h2, .inr (1, o_Code u.1 a2_0 h3 h4)), (h3, .inl (cA3, n3, .inl u.2.1)), (h4, .inl (cA4, n4, .inl u.2.2))] H := hP.sub [0, 1, 2, 3, 4] rfl
    have hD : va_D A [(h0, .inr (8, o_Reader I0 h1 h2 a0_3)), (h1, .inl (cA1, n1, .inl f1)), (h2, .inr (1, o_Code u.1 a2_0 h3 h4)), (h3, .inl (cA3, n3, .inl u.2.1)), (h4, .inl (cA4, n4, .inl u.2.2))] := hD.sub [0, 1, 2, 3, 4] (by decide) rfl
    exact b_Reader_addCommon_65 hc hA hE  (lv_sub hl [0, 1, 2] rfl) hK hP hD hS hv
  have hv := hv.2 c_1
  by_cases c_2 : s0 = (42 : Int32)
  · have hv := hv.1 c_2
    refine lv_lookup (off := 124) (tgt := 129) hx hb d_Reader_addCommon_5 (by decide) (by rw [c_2] <;> rfl) (by decide) ?_
    refine lv_aload_n hx hb d_Reader_addCommon_129 rfl (lv_at hl 0 rfl) ?_
    refine va_get (D := (dC, dI)) (ci := 8) (v := .ref h2) (C := "NumberDress$Reader") (T := T_Reader) (N := 5) hx hb ht zin_Reader hown hK hP 0 rfl rfl 2 (by decide) (ht _ zw_273) (fun _ h9 => h9) rfl d_Reader_addCommon_130 ?_
    refine lv_iconst (v := (0 : Int32)) hx hb d_Reader_addCommon_133 (by decide) ?_
    refine lv_iconst (v := (0 : Int32)) hx hb d_Reader_addCommon_134 (by decide) ?_
    refine z_callv (wc := [(h2, .inr (1, o_Code I2 a2_0 h3 h4)), (h3, .inl (cA3, n3, .inl f3)), (h4, .inl (cA4, n4, .inl f4))]) (wr := [(h0, .inr (8, o_Reader I0 h1 h2 a0_3)), (h1, .inl (cA1, n1, .inl f1))]) [2, 3, 4] [0, 1] (va_runV (As := [.int (0 : Int32), .int (0 : Int32)]) (rest := []) ⟨hx, hb, hml, hown, ht⟩ (m_Code_add l dC dI hv) ⟨(callB_of 2 ht (zG_in zi_Code_add) rfl rfl rfl (ht _ zw_111) (ht _ zw_710) zh_Code_add ⟨Nat.le_of_ble_eq_true rfl, Nat.le_of_ble_eq_true rfl⟩), (ht _ zw_711), (ht _ zw_712)⟩ ⟨zPc_blind, va_recv hK hP (ci := 1) (q0 := 2) rfl rfl, zPc_pre hP hK hD hS hA hE [2, 3, 4] [1, 2] rfl rfl (by decide) rfl⟩ rfl rfl hl.1 rfl (lv_room (Nat.le_of_ble_eq_true rfl)) d_Reader_addCommon_135 ⟨Nat.le_of_ble_eq_true rfl, Nat.le_of_ble_eq_true rfl⟩) hP hD hS hA rfl rfl (by decide) (by decide) (fun u H locs hv hP hD hS => ?_)
    have hP : va_P (dC, dI) zCl [(h0, .inr (8, o_Reader I0 h1 h2 a0_3)), (h1, .inl (cA1, n1, .inl f1)), (h2, .inr (1, o_Code u.1 a2_0 h3 h4)), (h3, .inl (cA3, n3, .inl u.2.1)), (h4, .inl (cA4, n4, .inl u.2.2))] H := hP.sub [0, 1, 2, 3, 4] rfl
    have hD : va_D A [(h0, .inr (8, o_Reader I0 h1 h2 a0_3)), (h1, .inl (cA1, n1, .inl f1)), (h2, .inr (1, o_Code u.1 a2_0 h3 h4)), (h3, .inl (cA3, n3, .inl u.2.1)), (h4, .inl (cA4, n4, .inl u.2.2))] := hD.sub [0, 1, 2, 3, 4] (by decide) rfl
    exact b_Reader_addCommon_138 hc hA hE  (lv_sub hl [] rfl) hK hP hD hS hv
  have hv := hv.2 c_2
  by_cases c_3 : s0 = (91 : Int32)
  · have hv := hv.1 c_3
    refine lv_lookup (off := 124) (tgt := 129) hx hb d_Reader_addCommon_5 (by decide) (by rw [c_3] <;> rfl) (by decide) ?_
    refine lv_aload_n hx hb d_Reader_addCommon_129 rfl (lv_at hl 0 rfl) ?_
    refine va_get (D := (dC, dI)) (ci := 8) (v := .ref h2) (C := "NumberDress$Reader") (T := T_Reader) (N := 5) hx hb ht zin_Reader hown hK hP 0 rfl rfl 2 (by decide) (ht _ zw_273) (fun _ h9 => h9) rfl d_Reader_addCommon_130 ?_
    refine lv_iconst (v := (0 : Int32)) hx hb d_Reader_addCommon_133 (by decide) ?_
    refine lv_iconst (v := (0 : Int32)) hx hb d_Reader_addCommon_134 (by decide) ?_
    refine z_callv (wc := [(h2, .inr (1, o_Code I2 a2_0 h3 h4)), (h3, .inl (cA3, n3, .inl f3)), (h4, .inl (cA4, n4, .inl f4))]) (wr := [(h0, .inr (8, o_Reader I0 h1 h2 a0_3)), (h1, .inl (cA1, n1, .inl f1))]) [2, 3, 4] [0, 1] (va_runV (As := [.int (0 : Int32), .int (0 : Int32)]) (rest := []) ⟨hx, hb, hml, hown, ht⟩ (m_Code_add l dC dI hv) ⟨(callB_of 2 ht (zG_in zi_Code_add) rfl rfl rfl (ht _ zw_111) (ht _ zw_710) zh_Code_add ⟨Nat.le_of_ble_eq_true rfl, Nat.le_of_ble_eq_true rfl⟩), (ht _ zw_711), (ht _ zw_712)⟩ ⟨zPc_blind, va_recv hK hP (ci := 1) (q0 := 2) rfl rfl, zPc_pre hP hK hD hS hA hE [2, 3, 4] [1, 2] rfl rfl (by decide) rfl⟩ rfl rfl hl.1 rfl (lv_room (Nat.le_of_ble_eq_true rfl)) d_Reader_addCommon_135 ⟨Nat.le_of_ble_eq_true rfl, Nat.le_of_ble_eq_true rfl⟩) hP hD hS hA rfl rfl (by decide) (by decide) (fun u H locs hv hP hD hS => ?_)
    have hP : va_P (dC, dI) zCl [(h0, .inr (8, o_Reader I0 h1 h2 a0_3)), (h1, .inl (cA1, n1, .inl f1)), (h2, .inr (1, o_Code u.1 a2_0 h3 h4)), (h3, .inl (cA3, n3, .inl u.2.1)), (h4, .inl (cA4, n4, .inl u.2.2))] H := hP.sub [0, 1, 2, 3, 4] rfl
    have hD : va_D A [(h0, .inr (8, o_Reader I0 h1 h2 a0_3)), (h1, .inl (cA1, n1, .inl f1)), (h2, .inr (1, o_Code u.1 a2_0 h3 h4)), (h3, .inl (cA3, n3, .inl u.2.1)), (h4, .inl (cA4, n4, .inl u.2.2))] := hD.sub [0, 1, 2, 3, 4] (by decide) rfl
    exact b_Reader_addCommon_138 hc hA hE  (lv_sub hl [] rfl) hK hP hD hS hv
  have hv := hv.2 c_3
  by_cases c_4 : s0 = (92 : Int32)
  · have hv := hv.1 c_4
    refine lv_lookup (off := 93) (tgt := 98) hx hb d_Reader_addCommon_5 (by decide) (by rw [c_4] <;> rfl) (by decide) ?_
    refine lv_aload_n hx hb d_Reader_addCommon_98 rfl (lv_at hl 0 rfl) ?_
    refine va_get (D := (dC, dI)) (ci := 8) (v := .ref h2) (C := "NumberDress$Reader") (T := T_Reader) (N := 5) hx hb ht zin_Reader hown hK hP 0 rfl rfl 2 (by decide) (ht _ zw_273) (fun _ h9 => h9) rfl d_Reader_addCommon_99 ?_
    refine lv_iconst (v := (1 : Int32)) hx hb d_Reader_addCommon_102 (by decide) ?_
    refine lv_aload_n hx hb d_Reader_addCommon_103 rfl (lv_at hl 0 rfl) ?_
    refine lv_iload_n hx hb d_Reader_addCommon_104 rfl (lv_at hl 1 rfl) ?_
    refine lv_iconst (v := (1 : Int32)) hx hb d_Reader_addCommon_105 (by decide) ?_
    refine lv_iadd hx hb d_Reader_addCommon_106 ?_
    refine z_calli (wc := [(h0, .inr (8, o_Reader I0 h1 h2 a0_3)), (h1, .inl (cA1, n1, .inl f1))]) (wr := [(h2, .inr (1, o_Code I2 a2_0 h3 h4)), (h3, .inl (cA3, n3, .inl f3)), (h4, .inl (cA4, n4, .inl f4))]) [0, 1] [2, 3, 4] (va_runV (As := [.int (x1 + (1 : Int32))]) (rest := [.int (1 : Int32), .ref h2]) ⟨hx, hb, hml, hown, ht⟩ (m_Reader_sign l dC dI hv) ⟨(callB_of 1 ht (zG_in zi_Reader_sign) rfl rfl rfl (ht _ zw_113) (ht _ zw_512) zh_Reader_sign ⟨Nat.le_of_ble_eq_true rfl, Nat.le_of_ble_eq_true rfl⟩), (ht _ zw_514), (ht _ zw_1)⟩ ⟨zPc_blind, va_recv hK hP (ci := 8) (q0 := 0) rfl rfl, zPc_pre hP hK hD hS hA hE [0, 1] [0] rfl rfl (by decide) rfl⟩ rfl rfl hl.1 rfl (lv_room (Nat.le_of_ble_eq_true rfl)) d_Reader_addCommon_107 ⟨Nat.le_of_ble_eq_true rfl, Nat.le_of_ble_eq_true rfl⟩) hP hD hS hA rfl rfl (by decide) (by decide) (fun r u H locs hv hP hD hS => ?_)
    have hP : va_P (dC, dI) zCl [(h0, .inr (8, o_Reader I0 h1 h2 a0_3)), (h1, .inl (cA1, n1, .inl f1)), (h2, .inr (1, o_Code I2 a2_0 h3 h4)), (h3, .inl (cA3, n3, .inl f3)), (h4, .inl (cA4, n4, .inl f4))] H := hP.sub [3, 4, 0, 1, 2] rfl
    have hD : va_D A [(h0, .inr (8, o_Reader I0 h1 h2 a0_3)), (h1, .inl (cA1, n1, .inl f1)), (h2, .inr (1, o_Code I2 a2_0 h3 h4)), (h3, .inl (cA3, n3, .inl f3)), (h4, .inl (cA4, n4, .inl f4))] := hD.sub [3, 4, 0, 1, 2] (by decide) rfl
    exact b_Reader_addCommon_110 hc hA hE  (lv_sub hl [] rfl) hK hP hD hS hv
  have hv := hv.2 c_4
  by_cases c_5 : s0 = (95 : Int32)
  · have hv := hv.1 c_5
    refine lv_lookup (off := 111) (tgt := 116) hx hb d_Reader_addCommon_5 (by decide) (by rw [c_5] <;> rfl) (by decide) ?_
    refine lv_aload_n hx hb d_Reader_addCommon_116 rfl (lv_at hl 0 rfl) ?_
    refine va_get (D := (dC, dI)) (ci := 8) (v := .ref h2) (C := "NumberDress$Reader") (T := T_Reader) (N := 5) hx hb ht zin_Reader hown hK hP 0 rfl rfl 2 (by decide) (ht _ zw_273) (fun _ h9 => h9) rfl d_Reader_addCommon_117 ?_
    refine lv_iconst (v := (1 : Int32)) hx hb d_Reader_addCommon_120 (by decide) ?_
    refine lv_bipush (v := (32 : Int32)) hx hb d_Reader_addCommon_121 (by decide) ?_
    refine z_callv (wc := [(h2, .inr (1, o_Code I2 a2_0 h3 h4)), (h3, .inl (cA3, n3, .inl f3)), (h4, .inl (cA4, n4, .inl f4))]) (wr := [(h0, .inr (8, o_Reader I0 h1 h2 a0_3)), (h1, .inl (cA1, n1, .inl f1))]) [2, 3, 4] [0, 1] (va_runV (As := [.int (1 : Int32), .int (32 : Int32)]) (rest := []) ⟨hx, hb, hml, hown, ht⟩ (m_Code_add l dC dI hv) ⟨(callB_of 2 ht (zG_in zi_Code_add) rfl rfl rfl (ht _ zw_111) (ht _ zw_710) zh_Code_add ⟨Nat.le_of_ble_eq_true rfl, Nat.le_of_ble_eq_true rfl⟩), (ht _ zw_711), (ht _ zw_712)⟩ ⟨zPc_blind, va_recv hK hP (ci := 1) (q0 := 2) rfl rfl, zPc_pre hP hK hD hS hA hE [2, 3, 4] [1, 2] rfl rfl (by decide) rfl⟩ rfl rfl hl.1 rfl (lv_room (Nat.le_of_ble_eq_true rfl)) d_Reader_addCommon_123 ⟨Nat.le_of_ble_eq_true rfl, Nat.le_of_ble_eq_true rfl⟩) hP hD hS hA rfl rfl (by decide) (by decide) (fun u H locs hv hP hD hS => ?_)
    have hP : va_P (dC, dI) zCl [(h0, .inr (8, o_Reader I0 h1 h2 a0_3)), (h1, .inl (cA1, n1, .inl f1)), (h2, .inr (1, o_Code u.1 a2_0 h3 h4)), (h3, .inl (cA3, n3, .inl u.2.1)), (h4, .inl (cA4, n4, .inl u.2.2))] H := hP.sub [0, 1, 2, 3, 4] rfl
    have hD : va_D A [(h0, .inr (8, o_Reader I0 h1 h2 a0_3)), (h1, .inl (cA1, n1, .inl f1)), (h2, .inr (1, o_Code u.1 a2_0 h3 h4)), (h3, .inl (cA3, n3, .inl u.2.1)), (h4, .inl (cA4, n4, .inl u.2.2))] := hD.sub [0, 1, 2, 3, 4] (by decide) rfl
    exact b_Reader_addCommon_126 hc hA hE  (lv_sub hl [] rfl) hK hP hD hS hv
  have hv := hv.2 c_5
  refine lv_lookup (off := 136) (tgt := 141) hx hb d_Reader_addCommon_5 (by decide) ((lv_osw c_1 (by decide)).trans ((lv_osw c_2 (by decide)).trans ((lv_osw c_3 (by decide)).trans ((lv_osw c_4 (by decide)).trans ((lv_osw c_5 (by decide)).trans rfl))))) (by decide) ?_
  refine lv_aload_n hx hb d_Reader_addCommon_141 rfl (lv_at hl 0 rfl) ?_
  refine va_get (D := (dC, dI)) (ci := 8) (v := .ref h2) (C := "NumberDress$Reader") (T := T_Reader) (N := 5) hx hb ht zin_Reader hown hK hP 0 rfl rfl 2 (by decide) (ht _ zw_273) (fun _ h9 => h9) rfl d_Reader_addCommon_142 ?_
  refine lv_iconst (v := (1 : Int32)) hx hb d_Reader_addCommon_145 (by decide) ?_
  refine lv_aload_n hx hb d_Reader_addCommon_146 rfl (lv_at hl 0 rfl) ?_
  refine lv_iload_n hx hb d_Reader_addCommon_147 rfl (lv_at hl 1 rfl) ?_
  refine z_calli (wc := [(h0, .inr (8, o_Reader I0 h1 h2 a0_3)), (h1, .inl (cA1, n1, .inl f1))]) (wr := [(h2, .inr (1, o_Code I2 a2_0 h3 h4)), (h3, .inl (cA3, n3, .inl f3)), (h4, .inl (cA4, n4, .inl f4))]) [0, 1] [2, 3, 4] (va_runV (As := [.int x1]) (rest := [.int (1 : Int32), .ref h2]) ⟨hx, hb, hml, hown, ht⟩ (m_Reader_sign l dC dI hv) ⟨(callB_of 1 ht (zG_in zi_Reader_sign) rfl rfl rfl (ht _ zw_113) (ht _ zw_512) zh_Reader_sign ⟨Nat.le_of_ble_eq_true rfl, Nat.le_of_ble_eq_true rfl⟩), (ht _ zw_514), (ht _ zw_1)⟩ ⟨zPc_blind, va_recv hK hP (ci := 8) (q0 := 0) rfl rfl, zPc_pre hP hK hD hS hA hE [0, 1] [0] rfl rfl (by decide) rfl⟩ rfl rfl hl.1 rfl (lv_room (Nat.le_of_ble_eq_true rfl)) d_Reader_addCommon_148 ⟨Nat.le_of_ble_eq_true rfl, Nat.le_of_ble_eq_true rfl⟩) hP hD hS hA rfl rfl (by decide) (by decide) (fun r u H locs hv hP hD hS => ?_)
  have hP : va_P (dC, dI) zCl [(h0, .inr (8, o_Reader I0 h1 h2 a0_3)), (h1, .inl (cA1, n1, .inl f1)), (h2, .inr (1, o_Code I2 a2_0 h3 h4)), (h3, .inl (cA3, n3, .inl f3)), (h4, .inl (cA4, n4, .inl f4))] H := hP.sub [3, 4, 0, 1, 2] rfl
  have hD : va_D A [(h0, .inr (8, o_Reader I0 h1 h2 a0_3)), (h1, .inl (cA1, n1, .inl f1)), (h2, .inr (1, o_Code I2 a2_0 h3 h4)), (h3, .inl (cA3, n3, .inl f3)), (h4, .inl (cA4, n4, .inl f4))] := hD.sub [3, 4, 0, 1, 2] (by decide) rfl
  exact b_Reader_addCommon_151 hc hA hE  (lv_sub hl [] rfl) hK hP hD hS hv
set_option maxHeartbeats 4000000 in
set_option maxRecDepth 100000 in
theorem b_Reader_addCommon_0 {h0 : Nat} {a0_3 : Nat} {h1 : Nat} {cA1 : ClassId} {h2 : Nat} {a2_0 : Nat} {h3 : Nat} {cA3 : ClassId} {h4 : Nat} {cA4 : ClassId} {I0 : Nat → Int32} {n1 : Nat} {f1 : Nat → Int32} {I2 : Nat → Int32} {n3 : Nat} {f3 : Nat → Int32} {n4 : Nat} {f4 : Nat → Int32} {x1 : Int32} {x2 : Int32}  {Z : (Nat → Int32) × (Nat → Int32) × (Nat → Int32) → Prop} {H : Heap} {locs : List Loc} {ls : Array Slot} (hc : zC p s m args meth c prog_9_method_10_code none 4 "NumberDress$Reader") (hA : ∀ q : Nat, s.heap.size ≤ q → A q) (hE : zE gE A s) (hl : lv_has ls 4 [(0, .ref h0), (1, .int x1), (2, .int x2)]) (hK : va_K (dC, dI) zCl [(cA1, .char), (cA3, .int), (cA4, .int)] s) (hP : va_P (dC, dI) zCl [(h0, .inr (8, o_Reader I0 h1 h2 a0_3)), (h1, .inl (cA1, n1, .inl f1)), (h2, .inr (1, o_Code I2 a2_0 h3 h4)), (h3, .inl (cA3, n3, .inl f3)), (h4, .inl (cA4, n4, .inl f4))] H) (hD : va_D A [(h0, .inr (8, o_Reader I0 h1 h2 a0_3)), (h1, .inl (cA1, n1, .inl f1)), (h2, .inr (1, o_Code I2 a2_0 h3 h4)), (h3, .inl (cA3, n3, .inl f3)), (h4, .inl (cA4, n4, .inl f4))]) (hS : va_S A s.heap H locs) (hv : v_Reader_addCommon_0 I0 n1 f1 I2 n3 f3 n4 f4 x1 x2  Z) : W p l e (headSpec (Cond.code (⟨"NumberDress$Reader", "addCommon", "(II)V"⟩ : MethodName) prog_9_method_10_code 4 none :: zT) { frames := 1, cells := 0, slots := 0, locals := 22 }).room s m args below meth c H locs 0 0 (MQ below (va_Qv Z (zB (dC, dI) zCl [(cA1, .char), (cA3, .int), (cA4, .int)] A (fun u : (Nat → Int32) × (Nat → Int32) × (Nat → Int32) => [(h0, .inr (8, o_Reader I0 h1 h2 a0_3)), (h1, .inl (cA1, n1, .inl f1)), (h2, .inr (1, o_Code u.1 a2_0 h3 h4)), (h3, .inl (cA3, n3, .inl u.2.1)), (h4, .inl (cA4, n4, .inl u.2.2))])) A) args s 0 0 A) (F0 m 0 ls []) := by
  obtain ⟨hx, hb, hr, hml, hown, ht, hlocks⟩ := id hc
  unfold v_Reader_addCommon_0 at hv
  refine lv_aload_n hx hb d_Reader_addCommon_0 rfl (lv_at hl 0 rfl) ?_
  refine lv_iload_n hx hb d_Reader_addCommon_1 rfl (lv_at hl 1 rfl) ?_
  refine z_calli (wc := [(h0, .inr (8, o_Reader I0 h1 h2 a0_3)), (h1, .inl (cA1, n1, .inl f1))]) (wr := [(h2, .inr (1, o_Code I2 a2_0 h3 h4)), (h3, .inl (cA3, n3, .inl f3)), (h4, .inl (cA4, n4, .inl f4))]) [0, 1] [2, 3, 4] (va_runV (As := [.int x1]) (rest := []) ⟨hx, hb, hml, hown, ht⟩ (m_Reader_sign l dC dI hv) ⟨(callB_of 1 ht (zG_in zi_Reader_sign) rfl rfl rfl (ht _ zw_113) (ht _ zw_512) zh_Reader_sign ⟨Nat.le_of_ble_eq_true rfl, Nat.le_of_ble_eq_true rfl⟩), (ht _ zw_514), (ht _ zw_1)⟩ ⟨zPc_blind, va_recv hK hP (ci := 8) (q0 := 0) rfl rfl, zPc_pre hP hK hD hS hA hE [0, 1] [0] rfl rfl (by decide) rfl⟩ rfl rfl hl.1 rfl (lv_room (Nat.le_of_ble_eq_true rfl)) d_Reader_addCommon_2 ⟨Nat.le_of_ble_eq_true rfl, Nat.le_of_ble_eq_true rfl⟩) hP hD hS hA rfl rfl (by decide) (by decide) (fun r u H locs hv hP hD hS => ?_)
  have hP : va_P (dC, dI) zCl [(h0, .inr (8, o_Reader I0 h1 h2 a0_3)), (h1, .inl (cA1, n1, .inl f1)), (h2, .inr (1, o_Code I2 a2_0 h3 h4)), (h3, .inl (cA3, n3, .inl f3)), (h4, .inl (cA4, n4, .inl f4))] H := hP.sub [3, 4, 0, 1, 2] rfl
  have hD : va_D A [(h0, .inr (8, o_Reader I0 h1 h2 a0_3)), (h1, .inl (cA1, n1, .inl f1)), (h2, .inr (1, o_Code I2 a2_0 h3 h4)), (h3, .inl (cA3, n3, .inl f3)), (h4, .inl (cA4, n4, .inl f4))] := hD.sub [3, 4, 0, 1, 2] (by decide) rfl
  exact b_Reader_addCommon_5 hc hA hE  (lv_sub hl [0, 1, 2] rfl) hK hP hD hS hv
theorem zi_Reader_addCommon : Cond.code (⟨"NumberDress$Reader", "addCommon", "(II)V"⟩ : MethodName) prog_9_method_10_code 4 none ∈ zT := zw_709
theorem zh_Reader_addCommon : (((⟨"NumberDress$Reader", "addCommon", "(II)V"⟩ : MethodName)).cls ≠ "java/lang/invoke/MethodHandle" ∧ ((⟨"NumberDress$Reader", "addCommon", "(II)V"⟩ : MethodName)).cls ≠ "java/lang/invoke/VarHandle" ∧ (parseMethodDescriptor ((⟨"NumberDress$Reader", "addCommon", "(II)V"⟩ : MethodName)).desc).map (fun d => d.parameters.length) = some 2) := by decide +kernel
set_option maxHeartbeats 4000000 in
set_option maxRecDepth 100000 in
theorem m_Reader_addCommon (l : Launch) (dC : Nat → ClassId) (dI : Nat → Nat → Nat) {gE : zG} {h0 : Nat} {a0_3 : Nat} {h1 : Nat} {cA1 : ClassId} {h2 : Nat} {a2_0 : Nat} {h3 : Nat} {cA3 : ClassId} {h4 : Nat} {cA4 : ClassId} {I0 : Nat → Int32} {n1 : Nat} {f1 : Nat → Int32} {I2 : Nat → Int32} {n3 : Nat} {f3 : Nat → Int32} {n4 : Nat} {f4 : Nat → Int32} {x1 : Int32} {x2 : Int32} {sz : Nat} {Z : (Nat → Int32) × (Nat → Int32) × (Nat → Int32) → Prop} (hv : v_Reader_addCommon_0 I0 n1 f1 I2 n3 f3 n4 f4 x1 x2 Z) : Met l (⟨"NumberDress$Reader", "addCommon", "(II)V"⟩ : MethodName) (Cond.code (⟨"NumberDress$Reader", "addCommon", "(II)V"⟩ : MethodName) prog_9_method_10_code 4 none :: zT) { frames := 1, cells := 0, slots := 0, locals := 22 } (zPc gE (dC, dI) zCl [(cA1, .char), (cA3, .int), (cA4, .int)] [.ref h0, .int x1, .int x2] sz [(h0, .inr (8, o_Reader I0 h1 h2 a0_3)), (h1, .inl (cA1, n1, .inl f1)), (h2, .inr (1, o_Code I2 a2_0 h3 h4)), (h3, .inl (cA3, n3, .inl f3)), (h4, .inl (cA4, n4, .inl f4))]) (va_Qv Z (zB (dC, dI) zCl [(cA1, .char), (cA3, .int), (cA4, .int)] (va_A [(h0, .inr (8, o_Reader I0 h1 h2 a0_3)), (h1, .inl (cA1, n1, .inl f1)), (h2, .inr (1, o_Code I2 a2_0 h3 h4)), (h3, .inl (cA3, n3, .inl f3)), (h4, .inl (cA4, n4, .inl f4))] sz) (fun u : (Nat → Int32) × (Nat → Int32) × (Nat → Int32) => [(h0, .inr (8, o_Reader I0 h1 h2 a0_3)), (h1, .inl (cA1, n1, .inl f1)), (h2, .inr (1, o_Code u.1 a2_0 h3 h4)), (h3, .inl (cA3, n3, .inl u.2.1)), (h4, .inl (cA4, n4, .inl u.2.2))])) (va_A [(h0, .inr (8, o_Reader I0 h1 h2 a0_3)), (h1, .inl (cA1, n1, .inl f1)), (h2, .inr (1, o_Code I2 a2_0 h3 h4)), (h3, .inl (cA3, n3, .inl f3)), (h4, .inl (cA4, n4, .inl f4))] sz)) 0 0 (va_A [(h0, .inr (8, o_Reader I0 h1 h2 a0_3)), (h1, .inl (cA1, n1, .inl f1)), (h2, .inr (1, o_Code I2 a2_0 h3 h4)), (h3, .inl (cA3, n3, .inl f3)), (h4, .inl (cA4, n4, .inl f4))] sz) := by
  refine Met.ofW (cc := prog_9_method_10_code) (maxL := 4) (ret := none) (by decide +kernel) rfl ?_
  intro p e s m args below meth c s₁ B hml hp
  obtain ⟨rfl, hsz, hP, hK, hD0, hE⟩ := hp
  have hts := atoms_spec (ws := (Cond.code (⟨"NumberDress$Reader", "addCommon", "(II)V"⟩ : MethodName) prog_9_method_10_code 4 none :: zT)) B.pre
  have hown : s.vm.findClass "NumberDress$Reader" = some m.cls := findClass_of_methodNamed B.named
  have hc : zC p s m _ meth c prog_9_method_10_code none 4 "NumberDress$Reader" := ⟨B.exec, B.bytes, B.returns, hml, hown, fun w h => hts w (List.mem_cons_of_mem _ h), B.notSynchronized⟩
  subst hsz
  have hD := hD0.self (sz := s.heap.size)
  generalize hAe : va_A [(h0, .inr (8, o_Reader I0 h1 h2 a0_3)), (h1, .inl (cA1, n1, .inl f1)), (h2, .inr (1, o_Code I2 a2_0 h3 h4)), (h3, .inl (cA3, n3, .inl f3)), (h4, .inl (cA4, n4, .inl f4))] s.heap.size = A at hD hE ⊢
  have hA : ∀ q : Nat, s.heap.size ≤ q → A q := fun q h => by rw [← hAe]; exact Or.inr h
  have hl := lv_entry ([.ref h0, .int x1, .int x2]) (n := 4) (Nat.le_of_ble_eq_true rfl)
  rw [lg_entry_eq]
  exact b_Reader_addCommon_0 hc hA hE hl hK hP hD va_S.rf hv
end
