section
variable {p : Program} {l : Launch} {e : Env} {s : State} {m : MethodId} {args : Array Value} {below : List Frame} {meth : Method} {c : Code} {dC : Nat → ClassId} {dI : Nat → Nat → Nat} {A : Nat → Prop} {gE : zG}
theorem d_Code_mark_0 : decode prog_2_method_7_code 0 = .ok (.iload_n 1, 1) := by decide +kernel
theorem d_Code_mark_1 : decode prog_2_method_7_code 1 = .ok (.ifCond .lt 29, 3) := by decide +kernel
theorem d_Code_mark_4 : decode prog_2_method_7_code 4 = .ok (.iload_n 1, 1) := by decide +kernel
theorem d_Code_mark_5 : decode prog_2_method_7_code 5 = .ok (.aload_n 0, 1) := by decide +kernel
theorem d_Code_mark_6 : decode prog_2_method_7_code 6 = .ok (.getfield 29, 3) := by decide +kernel
theorem d_Code_mark_9 : decode prog_2_method_7_code 9 = .ok (.if_icmp .ge 21, 3) := by decide +kernel
theorem d_Code_mark_12 : decode prog_2_method_7_code 12 = .ok (.iload_n 1, 1) := by decide +kernel
theorem d_Code_mark_13 : decode prog_2_method_7_code 13 = .ok (.aload_n 0, 1) := by decide +kernel
theorem d_Code_mark_14 : decode prog_2_method_7_code 14 = .ok (.getfield 25, 3) := by decide +kernel
theorem d_Code_mark_17 : decode prog_2_method_7_code 17 = .ok (.arraylength, 1) := by decide +kernel
theorem d_Code_mark_18 : decode prog_2_method_7_code 18 = .ok (.if_icmp .ge 12, 3) := by decide +kernel
theorem d_Code_mark_21 : decode prog_2_method_7_code 21 = .ok (.aload_n 0, 1) := by decide +kernel
theorem d_Code_mark_22 : decode prog_2_method_7_code 22 = .ok (.getfield 25, 3) := by decide +kernel
theorem d_Code_mark_25 : decode prog_2_method_7_code 25 = .ok (.iload_n 1, 1) := by decide +kernel
theorem d_Code_mark_26 : decode prog_2_method_7_code 26 = .ok (.iaload, 1) := by decide +kernel
theorem d_Code_mark_27 : decode prog_2_method_7_code 27 = .ok (.goto 4, 3) := by decide +kernel
theorem d_Code_mark_30 : decode prog_2_method_7_code 30 = .ok (.iconst 0, 1) := by decide +kernel
theorem d_Code_mark_31 : decode prog_2_method_7_code 31 = .ok (.ireturn, 1) := by decide +kernel
set_option maxHeartbeats 4000000 in
set_option maxRecDepth 100000 in
theorem b_Code_mark_0 {h0 : Nat} {a0_0 : Nat} {a0_2 : Nat} {h1 : Nat} {cA1 : ClassId} {I0 : Nat → Int32} {n1 : Nat} {f1 : Nat → Int32} {x1 : Int32}  {Z : Int32 → Unit → Prop} {H : Heap} {locs : List Loc} {ls : Array Slot} (hc : zC p s m args meth c prog_2_method_7_code (some .int) 2 "NumberDress$Code") (hA : ∀ q : Nat, s.heap.size ≤ q → A q) (hE : zE gE A s) (hl : lv_has ls 2 [(0, .ref h0), (1, .int x1)]) (hK : va_K (dC, dI) zCl [(cA1, .int)] s) (hP : va_P (dC, dI) zCl [(h0, .inr (1, o_Code I0 a0_0 a0_2 h1)), (h1, .inl (cA1, n1, .inl f1))] H) (hD : va_D A [(h0, .inr (1, o_Code I0 a0_0 a0_2 h1)), (h1, .inl (cA1, n1, .inl f1))]) (hS : va_S A s.heap H locs) (hv : v_Code_mark_0 I0 n1 f1 x1  Z) : W p l e (headSpec (Cond.code (⟨"NumberDress$Code", "mark", "(I)I"⟩ : MethodName) prog_2_method_7_code 2 (some .int) :: zT) { frames := 0, cells := 0, slots := 0, locals := 0 }).room s m args below meth c H locs 0 0 (MQ below (va_Qi Z (zB (dC, dI) zCl [(cA1, .int)] A (fun u : Unit => [(h0, .inr (1, o_Code I0 a0_0 a0_2 h1)), (h1, .inl (cA1, n1, .inl f1))])) A) args s 0 0 A) (F0 m 0 ls []) := by
  obtain ⟨hx, hb, hr, hml, hown, ht, hlocks⟩ := id hc
  unfold v_Code_mark_0 at hv
  refine lv_iload_n hx hb d_Code_mark_0 rfl (lv_at hl 1 rfl) ?_
  refine lv_if_lt (tgt := 30) hx hb d_Code_mark_1 (by decide) (fun c_1 => ?_) (fun c_1 => ?_)
  · have hv := hv.1 c_1
    refine lv_iconst (v := (0 : Int32)) hx hb d_Code_mark_30 (by decide) ?_
    exact W.iret (v := (0 : Int32)) hx hb hr (fun t ht hW => ⟨⟨_, (), rfl, hv, ⟨by rw [ht]; exact hP, va_K.moved hW.alike hK, hD⟩⟩, hS.F ht⟩) hS.2.2 d_Code_mark_31
  · have hv := hv.2 c_1
    refine lv_iload_n hx hb d_Code_mark_4 rfl (lv_at hl 1 rfl) ?_
    refine lv_aload_n hx hb d_Code_mark_5 rfl (lv_at hl 0 rfl) ?_
    refine va_get (D := (dC, dI)) (ci := 1) (v := .int (I0 4)) (C := "NumberDress$Code") (T := T_Code) (N := 5) hx hb ht zin_Code hown hK hP 0 rfl rfl 4 (by decide) (ht _ zw_248) (fun _ h9 => h9) rfl d_Code_mark_6 ?_
    refine lv_icmp_ge (tgt := 30) hx hb d_Code_mark_9 (by decide) (fun c_2 => ?_) (fun c_2 => ?_)
    · have hv := hv.1 c_2
      refine lv_iconst (v := (0 : Int32)) hx hb d_Code_mark_30 (by decide) ?_
      exact W.iret (v := (0 : Int32)) hx hb hr (fun t ht hW => ⟨⟨_, (), rfl, hv, ⟨by rw [ht]; exact hP, va_K.moved hW.alike hK, hD⟩⟩, hS.F ht⟩) hS.2.2 d_Code_mark_31
    · have hv := hv.2 c_2
      refine lv_iload_n hx hb d_Code_mark_12 rfl (lv_at hl 1 rfl) ?_
      refine lv_aload_n hx hb d_Code_mark_13 rfl (lv_at hl 0 rfl) ?_
      refine va_get (D := (dC, dI)) (ci := 1) (v := .ref h1) (C := "NumberDress$Code") (T := T_Code) (N := 5) hx hb ht zin_Code hown hK hP 0 rfl rfl 3 (by decide) (ht _ zw_247) (fun _ h9 => h9) rfl d_Code_mark_14 ?_
      refine va_alen (v := (nI n1)) hx hb hK hP 1 0 rfl rfl rfl d_Code_mark_17 ?_
      refine lv_icmp_ge (tgt := 30) hx hb d_Code_mark_18 (by decide) (fun c_3 => ?_) (fun c_3 => ?_)
      · have hv := hv.1 c_3
        refine lv_iconst (v := (0 : Int32)) hx hb d_Code_mark_30 (by decide) ?_
        exact W.iret (v := (0 : Int32)) hx hb hr (fun t ht hW => ⟨⟨_, (), rfl, hv, ⟨by rw [ht]; exact hP, va_K.moved hW.alike hK, hD⟩⟩, hS.F ht⟩) hS.2.2 d_Code_mark_31
      · have hv := hv.2 c_3
        refine lv_aload_n hx hb d_Code_mark_21 rfl (lv_at hl 0 rfl) ?_
        refine va_get (D := (dC, dI)) (ci := 1) (v := .ref h1) (C := "NumberDress$Code") (T := T_Code) (N := 5) hx hb ht zin_Code hown hK hP 0 rfl rfl 3 (by decide) (ht _ zw_247) (fun _ h9 => h9) rfl d_Code_mark_22 ?_
        refine lv_iload_n hx hb d_Code_mark_25 rfl (lv_at hl 1 rfl) ?_
        obtain ⟨q_4, hv⟩ := hv
        refine va_iald hx hb hK hP 1 0 rfl rfl q_4 d_Code_mark_26 ?_
        refine lv_goto (tgt := 31) hx hb d_Code_mark_27 (by decide) ?_
        exact W.iret (v := (f1 x1.toNatClampNeg)) hx hb hr (fun t ht hW => ⟨⟨_, (), rfl, hv, ⟨by rw [ht]; exact hP, va_K.moved hW.alike hK, hD⟩⟩, hS.F ht⟩) hS.2.2 d_Code_mark_31
theorem zi_Code_mark : Cond.code (⟨"NumberDress$Code", "mark", "(I)I"⟩ : MethodName) prog_2_method_7_code 2 (some .int) ∈ zT := zw_808
theorem zh_Code_mark : (((⟨"NumberDress$Code", "mark", "(I)I"⟩ : MethodName)).cls ≠ "java/lang/invoke/MethodHandle" ∧ ((⟨"NumberDress$Code", "mark", "(I)I"⟩ : MethodName)).cls ≠ "java/lang/invoke/VarHandle" ∧ (parseMethodDescriptor ((⟨"NumberDress$Code", "mark", "(I)I"⟩ : MethodName)).desc).map (fun d => d.parameters.length) = some 1) := by decide +kernel
set_option maxHeartbeats 4000000 in
set_option maxRecDepth 100000 in
theorem m_Code_mark (l : Launch) (dC : Nat → ClassId) (dI : Nat → Nat → Nat) {gE : zG} {h0 : Nat} {a0_0 : Nat} {a0_2 : Nat} {h1 : Nat} {cA1 : ClassId} {I0 : Nat → Int32} {n1 : Nat} {f1 : Nat → Int32} {x1 : Int32} {sz : Nat} {Z : Int32 → Unit → Prop} (hv : v_Code_mark_0 I0 n1 f1 x1 Z) : Met l (⟨"NumberDress$Code", "mark", "(I)I"⟩ : MethodName) (Cond.code (⟨"NumberDress$Code", "mark", "(I)I"⟩ : MethodName) prog_2_method_7_code 2 (some .int) :: zT) { frames := 0, cells := 0, slots := 0, locals := 0 } (zPc gE (dC, dI) zCl [(cA1, .int)] [.ref h0, .int x1] sz [(h0, .inr (1, o_Code I0 a0_0 a0_2 h1)), (h1, .inl (cA1, n1, .inl f1))]) (va_Qi Z (zB (dC, dI) zCl [(cA1, .int)] (va_A [(h0, .inr (1, o_Code I0 a0_0 a0_2 h1)), (h1, .inl (cA1, n1, .inl f1))] sz) (fun u : Unit => [(h0, .inr (1, o_Code I0 a0_0 a0_2 h1)), (h1, .inl (cA1, n1, .inl f1))])) (va_A [(h0, .inr (1, o_Code I0 a0_0 a0_2 h1)), (h1, .inl (cA1, n1, .inl f1))] sz)) 0 0 (va_A [(h0, .inr (1, o_Code I0 a0_0 a0_2 h1)), (h1, .inl (cA1, n1, .inl f1))] sz) := by
  refine Met.ofW (cc := prog_2_method_7_code) (maxL := 2) (ret := (some .int)) (by decide +kernel) rfl ?_
  intro p e s m args below meth c s₁ B hml hp
  obtain ⟨rfl, hsz, hP, hK, hD0, hE⟩ := hp
  have hts := atoms_spec (ws := (Cond.code (⟨"NumberDress$Code", "mark", "(I)I"⟩ : MethodName) prog_2_method_7_code 2 (some .int) :: zT)) B.pre
  have hown : s.vm.findClass "NumberDress$Code" = some m.cls := findClass_of_methodNamed B.named
  have hc : zC p s m _ meth c prog_2_method_7_code (some .int) 2 "NumberDress$Code" := ⟨B.exec, B.bytes, B.returns, hml, hown, fun w h => hts w (List.mem_cons_of_mem _ h), B.notSynchronized⟩
  subst hsz
  have hD := hD0.self (sz := s.heap.size)
  generalize hAe : va_A [(h0, .inr (1, o_Code I0 a0_0 a0_2 h1)), (h1, .inl (cA1, n1, .inl f1))] s.heap.size = A at hD hE ⊢
  have hA : ∀ q : Nat, s.heap.size ≤ q → A q := fun q h => by rw [← hAe]; exact Or.inr h
  have hl := lv_entry ([.ref h0, .int x1]) (n := 2) (Nat.le_of_ble_eq_true rfl)
  rw [lg_entry_eq]
  exact b_Code_mark_0 hc hA hE hl hK hP hD va_S.rf hv
theorem d_Code_change_0 : decode prog_2_method_8_code 0 = .ok (.iload_n 1, 1) := by decide +kernel
theorem d_Code_change_1 : decode prog_2_method_8_code 1 = .ok (.ifCond .lt 27, 3) := by decide +kernel
theorem d_Code_change_4 : decode prog_2_method_8_code 4 = .ok (.iload_n 1, 1) := by decide +kernel
theorem d_Code_change_5 : decode prog_2_method_8_code 5 = .ok (.aload_n 0, 1) := by decide +kernel
theorem d_Code_change_6 : decode prog_2_method_8_code 6 = .ok (.getfield 29, 3) := by decide +kernel
theorem d_Code_change_9 : decode prog_2_method_8_code 9 = .ok (.if_icmp .ge 19, 3) := by decide +kernel
theorem d_Code_change_12 : decode prog_2_method_8_code 12 = .ok (.iload_n 1, 1) := by decide +kernel
theorem d_Code_change_13 : decode prog_2_method_8_code 13 = .ok (.aload_n 0, 1) := by decide +kernel
theorem d_Code_change_14 : decode prog_2_method_8_code 14 = .ok (.getfield 21, 3) := by decide +kernel
theorem d_Code_change_17 : decode prog_2_method_8_code 17 = .ok (.arraylength, 1) := by decide +kernel
theorem d_Code_change_18 : decode prog_2_method_8_code 18 = .ok (.if_icmp .ge 10, 3) := by decide +kernel
theorem d_Code_change_21 : decode prog_2_method_8_code 21 = .ok (.aload_n 0, 1) := by decide +kernel
theorem d_Code_change_22 : decode prog_2_method_8_code 22 = .ok (.getfield 21, 3) := by decide +kernel
theorem d_Code_change_25 : decode prog_2_method_8_code 25 = .ok (.iload_n 1, 1) := by decide +kernel
theorem d_Code_change_26 : decode prog_2_method_8_code 26 = .ok (.iload_n 2, 1) := by decide +kernel
theorem d_Code_change_27 : decode prog_2_method_8_code 27 = .ok (.iastore, 1) := by decide +kernel
theorem d_Code_change_28 : decode prog_2_method_8_code 28 = .ok (.return_, 1) := by decide +kernel
set_option maxHeartbeats 4000000 in
set_option maxRecDepth 100000 in
theorem b_Code_change_0 {h0 : Nat} {a0_0 : Nat} {a0_3 : Nat} {h1 : Nat} {cA1 : ClassId} {I0 : Nat → Int32} {n1 : Nat} {f1 : Nat → Int32} {x1 : Int32} {x2 : Int32}  {Z : (Nat → Int32) → Prop} {H : Heap} {locs : List Loc} {ls : Array Slot} (hc : zC p s m args meth c prog_2_method_8_code none 3 "NumberDress$Code") (hA : ∀ q : Nat, s.heap.size ≤ q → A q) (hE : zE gE A s) (hl : lv_has ls 3 [(0, .ref h0), (1, .int x1), (2, .int x2)]) (hK : va_K (dC, dI) zCl [(cA1, .int)] s) (hP : va_P (dC, dI) zCl [(h0, .inr (1, o_Code I0 a0_0 h1 a0_3)), (h1, .inl (cA1, n1, .inl f1))] H) (hD : va_D A [(h0, .inr (1, o_Code I0 a0_0 h1 a0_3)), (h1, .inl (cA1, n1, .inl f1))]) (hS : va_S A s.heap H locs) (hv : v_Code_change_0 I0 n1 f1 x1 x2  Z) : W p l e (headSpec (Cond.code (⟨"NumberDress$Code", "change", "(II)V"⟩ : MethodName) prog_2_method_8_code 3 none :: zT) { frames := 0, cells := 0, slots := 0, locals := 0 }).room s m args below meth c H locs 0 0 (MQ below (va_Qv Z (zB (dC, dI) zCl [(cA1, .int)] A (fun u : (Nat → Int32) => [(h0, .inr (1, o_Code I0 a0_0 h1 a0_3)), (h1, .inl (cA1, n1, .inl u))])) A) args s 0 0 A) (F0 m 0 ls []) := by
  obtain ⟨hx, hb, hr, hml, hown, ht, hlocks⟩ := id hc
  unfold v_Code_change_0 at hv
  refine lv_iload_n hx hb d_Code_change_0 rfl (lv_at hl 1 rfl) ?_
  refine lv_if_lt (tgt := 28) hx hb d_Code_change_1 (by decide) (fun c_1 => ?_) (fun c_1 => ?_)
  · have hv := hv.1 c_1
    exact W.vret hx hb hr (fun t ht hW => ⟨⟨(f1), rfl, hv, ⟨by rw [ht]; exact hP, va_K.moved hW.alike hK, hD⟩⟩, hS.F ht⟩) hS.2.2 d_Code_change_28
  · have hv := hv.2 c_1
    refine lv_iload_n hx hb d_Code_change_4 rfl (lv_at hl 1 rfl) ?_
    refine lv_aload_n hx hb d_Code_change_5 rfl (lv_at hl 0 rfl) ?_
    refine va_get (D := (dC, dI)) (ci := 1) (v := .int (I0 4)) (C := "NumberDress$Code") (T := T_Code) (N := 5) hx hb ht zin_Code hown hK hP 0 rfl rfl 4 (by decide) (ht _ zw_248) (fun _ h9 => h9) rfl d_Code_change_6 ?_
    refine lv_icmp_ge (tgt := 28) hx hb d_Code_change_9 (by decide) (fun c_2 => ?_) (fun c_2 => ?_)
    · have hv := hv.1 c_2
      exact W.vret hx hb hr (fun t ht hW => ⟨⟨(f1), rfl, hv, ⟨by rw [ht]; exact hP, va_K.moved hW.alike hK, hD⟩⟩, hS.F ht⟩) hS.2.2 d_Code_change_28
    · have hv := hv.2 c_2
      refine lv_iload_n hx hb d_Code_change_12 rfl (lv_at hl 1 rfl) ?_
      refine lv_aload_n hx hb d_Code_change_13 rfl (lv_at hl 0 rfl) ?_
      refine va_get (D := (dC, dI)) (ci := 1) (v := .ref h1) (C := "NumberDress$Code") (T := T_Code) (N := 5) hx hb ht zin_Code hown hK hP 0 rfl rfl 2 (by decide) (ht _ zw_246) (fun _ h9 => h9) rfl d_Code_change_14 ?_
      refine va_alen (v := (nI n1)) hx hb hK hP 1 0 rfl rfl rfl d_Code_change_17 ?_
      refine lv_icmp_ge (tgt := 28) hx hb d_Code_change_18 (by decide) (fun c_3 => ?_) (fun c_3 => ?_)
      · have hv := hv.1 c_3
        exact W.vret hx hb hr (fun t ht hW => ⟨⟨(f1), rfl, hv, ⟨by rw [ht]; exact hP, va_K.moved hW.alike hK, hD⟩⟩, hS.F ht⟩) hS.2.2 d_Code_change_28
      · have hv := hv.2 c_3
        refine lv_aload_n hx hb d_Code_change_21 rfl (lv_at hl 0 rfl) ?_
        refine va_get (D := (dC, dI)) (ci := 1) (v := .ref h1) (C := "NumberDress$Code") (T := T_Code) (N := 5) hx hb ht zin_Code hown hK hP 0 rfl rfl 2 (by decide) (ht _ zw_246) (fun _ h9 => h9) rfl d_Code_change_22 ?_
        refine lv_iload_n hx hb d_Code_change_25 rfl (lv_at hl 1 rfl) ?_
        refine lv_iload_n hx hb d_Code_change_26 rfl (lv_at hl 2 rfl) ?_
        obtain ⟨q_4, hv⟩ := hv
        refine va_iast hx hb hK hP hD hS 1 0 rfl rfl q_4 d_Code_change_27 (fun H locs hP hD hS => ?_)
        have hP : va_P (dC, dI) zCl [(h0, .inr (1, o_Code I0 a0_0 h1 a0_3)), (h1, .inl (cA1, n1, .inl (upd f1 x1.toNatClampNeg x2)))] H := hP
        have hD : va_D A [(h0, .inr (1, o_Code I0 a0_0 h1 a0_3)), (h1, .inl (cA1, n1, .inl (upd f1 x1.toNatClampNeg x2)))] := hD
        exact W.vret hx hb hr (fun t ht hW => ⟨⟨((upd f1 x1.toNatClampNeg x2)), rfl, hv, ⟨by rw [ht]; exact hP, va_K.moved hW.alike hK, hD⟩⟩, hS.F ht⟩) hS.2.2 d_Code_change_28
theorem zi_Code_change : Cond.code (⟨"NumberDress$Code", "change", "(II)V"⟩ : MethodName) prog_2_method_8_code 3 none ∈ zT := zw_772
theorem zh_Code_change : (((⟨"NumberDress$Code", "change", "(II)V"⟩ : MethodName)).cls ≠ "java/lang/invoke/MethodHandle" ∧ ((⟨"NumberDress$Code", "change", "(II)V"⟩ : MethodName)).cls ≠ "java/lang/invoke/VarHandle" ∧ (parseMethodDescriptor ((⟨"NumberDress$Code", "change", "(II)V"⟩ : MethodName)).desc).map (fun d => d.parameters.length) = some 2) := by decide +kernel
set_option maxHeartbeats 4000000 in
set_option maxRecDepth 100000 in
theorem m_Code_change (l : Launch) (dC : Nat → ClassId) (dI : Nat → Nat → Nat) {gE : zG} {h0 : Nat} {a0_0 : Nat} {a0_3 : Nat} {h1 : Nat} {cA1 : ClassId} {I0 : Nat → Int32} {n1 : Nat} {f1 : Nat → Int32} {x1 : Int32} {x2 : Int32} {sz : Nat} {Z : (Nat → Int32) → Prop} (hv : v_Code_change_0 I0 n1 f1 x1 x2 Z) : Met l (⟨"NumberDress$Code", "change", "(II)V"⟩ : MethodName) (Cond.code (⟨"NumberDress$Code", "change", "(II)V"⟩ : MethodName) prog_2_method_8_code 3 none :: zT) { frames := 0, cells := 0, slots := 0, locals := 0 } (zPc gE (dC, dI) zCl [(cA1, .int)] [.ref h0, .int x1, .int x2] sz [(h0, .inr (1, o_Code I0 a0_0 h1 a0_3)), (h1, .inl (cA1, n1, .inl f1))]) (va_Qv Z (zB (dC, dI) zCl [(cA1, .int)] (va_A [(h0, .inr (1, o_Code I0 a0_0 h1 a0_3)), (h1, .inl (cA1, n1, .inl f1))] sz) (fun u : (Nat → Int32) => [(h0, .inr (1, o_Code I0 a0_0 h1 a0_3)), (h1, .inl (cA1, n1, .inl u))])) (va_A [(h0, .inr (1, o_Code I0 a0_0 h1 a0_3)), (h1, .inl (cA1, n1, .inl f1))] sz)) 0 0 (va_A [(h0, .inr (1, o_Code I0 a0_0 h1 a0_3)), (h1, .inl (cA1, n1, .inl f1))] sz) := by
  refine Met.ofW (cc := prog_2_method_8_code) (maxL := 3) (ret := none) (by decide +kernel) rfl ?_
  intro p e s m args below meth c s₁ B hml hp
  obtain ⟨rfl, hsz, hP, hK, hD0, hE⟩ := hp
  have hts := atoms_spec (ws := (Cond.code (⟨"NumberDress$Code", "change", "(II)V"⟩ : MethodName) prog_2_method_8_code 3 none :: zT)) B.pre
  have hown : s.vm.findClass "NumberDress$Code" = some m.cls := findClass_of_methodNamed B.named
  have hc : zC p s m _ meth c prog_2_method_8_code none 3 "NumberDress$Code" := ⟨B.exec, B.bytes, B.returns, hml, hown, fun w h => hts w (List.mem_cons_of_mem _ h), B.notSynchronized⟩
  subst hsz
  have hD := hD0.self (sz := s.heap.size)
  generalize hAe : va_A [(h0, .inr (1, o_Code I0 a0_0 h1 a0_3)), (h1, .inl (cA1, n1, .inl f1))] s.heap.size = A at hD hE ⊢
  have hA : ∀ q : Nat, s.heap.size ≤ q → A q := fun q h => by rw [← hAe]; exact Or.inr h
  have hl := lv_entry ([.ref h0, .int x1, .int x2]) (n := 3) (Nat.le_of_ble_eq_true rfl)
  rw [lg_entry_eq]
  exact b_Code_change_0 hc hA hE hl hK hP hD va_S.rf hv
theorem d_Code_numberSections_0 : decode prog_2_method_9_code 0 = .ok (.iconst 0, 1) := by decide +kernel
theorem d_Code_numberSections_1 : decode prog_2_method_9_code 1 = .ok (.istore_n 1, 1) := by decide +kernel
theorem d_Code_numberSections_2 : decode prog_2_method_9_code 2 = .ok (.iconst 0, 1) := by decide +kernel
theorem d_Code_numberSections_3 : decode prog_2_method_9_code 3 = .ok (.istore_n 2, 1) := by decide +kernel
theorem d_Code_numberSections_4 : decode prog_2_method_9_code 4 = .ok (.iload_n 2, 1) := by decide +kernel
theorem d_Code_numberSections_5 : decode prog_2_method_9_code 5 = .ok (.iconst 3, 1) := by decide +kernel
theorem d_Code_numberSections_6 : decode prog_2_method_9_code 6 = .ok (.if_icmp .ge 31, 3) := by decide +kernel
theorem d_Code_numberSections_9 : decode prog_2_method_9_code 9 = .ok (.aload_n 0, 1) := by decide +kernel
theorem d_Code_numberSections_10 : decode prog_2_method_9_code 10 = .ok (.iload_n 2, 1) := by decide +kernel
theorem d_Code_numberSections_11 : decode prog_2_method_9_code 11 = .ok (.invokevirtual 36, 3) := by decide +kernel
theorem d_Code_numberSections_14 : decode prog_2_method_9_code 14 = .ok (.astore_n 3, 1) := by decide +kernel
theorem d_Code_numberSections_15 : decode prog_2_method_9_code 15 = .ok (.aload_n 3, 1) := by decide +kernel
theorem d_Code_numberSections_16 : decode prog_2_method_9_code 16 = .ok (.ifnull 15, 3) := by decide +kernel
theorem d_Code_numberSections_19 : decode prog_2_method_9_code 19 = .ok (.aload_n 3, 1) := by decide +kernel
theorem d_Code_numberSections_20 : decode prog_2_method_9_code 20 = .ok (.getfield 40, 3) := by decide +kernel
theorem d_Code_numberSections_23 : decode prog_2_method_9_code 23 = .ok (.bipush 6, 2) := by decide +kernel
theorem d_Code_numberSections_25 : decode prog_2_method_9_code 25 = .ok (.if_icmp .eq 6, 3) := by decide +kernel
theorem d_Code_numberSections_28 : decode prog_2_method_9_code 28 = .ok (.iinc 1 1, 3) := by decide +kernel
theorem d_Code_numberSections_31 : decode prog_2_method_9_code 31 = .ok (.iinc 2 1, 3) := by decide +kernel
theorem d_Code_numberSections_34 : decode prog_2_method_9_code 34 = .ok (.goto (-30), 3) := by decide +kernel
theorem d_Code_numberSections_37 : decode prog_2_method_9_code 37 = .ok (.iload_n 1, 1) := by decide +kernel
theorem d_Code_numberSections_38 : decode prog_2_method_9_code 38 = .ok (.ireturn, 1) := by decide +kernel
set_option maxHeartbeats 4000000 in
set_option maxRecDepth 100000 in
theorem b_Code_numberSections_31 {h0 : Nat} {a0_2 : Nat} {a0_3 : Nat} {h1 : Nat} {cA1 : ClassId} {ad1 : Nat → Nat} {I0 : Nat → Int32} {I2 : Nat → Int32} {I3 : Nat → Int32} {I4 : Nat → Int32} {I5 : Nat → Int32} {x1 : Int32} {x2 : Int32} {k4 : Int32 → Int32 → Prop} {Z : Int32 → Unit → Prop} {H : Heap} {locs : List Loc} {ls : Array Slot} (hc : zC p s m args meth c prog_2_method_9_code (some .int) 4 "NumberDress$Code") (hA : ∀ q : Nat, s.heap.size ≤ q → A q) (hE : zE gE A s) (hk4 : ∀ (x1 : Int32) (x2 : Int32) (H : Heap) (locs : List Loc) (ls : Array Slot), lv_has ls 4 [(0, .ref h0), (1, .int x1), (2, .int x2)] → va_K (dC, dI) zCl [(cA1, .object "NumberDress$Section")] s → va_P (dC, dI) zCl [(h0, .inr (1, o_Code I0 h1 a0_2 a0_3)), (h1, .inl (cA1, 4, .inr (.inr (.inr (.inr (zra ad1 4)))))), ((ad1 0), .inr (9, o_Section I2)), ((ad1 1), .inr (9, o_Section I3)), ((ad1 2), .inr (9, o_Section I4)), ((ad1 3), .inr (9, o_Section I5))] H → va_D A [(h0, .inr (1, o_Code I0 h1 a0_2 a0_3)), (h1, .inl (cA1, 4, .inr (.inr (.inr (.inr (zra ad1 4)))))), ((ad1 0), .inr (9, o_Section I2)), ((ad1 1), .inr (9, o_Section I3)), ((ad1 2), .inr (9, o_Section I4)), ((ad1 3), .inr (9, o_Section I5))] → va_S A s.heap H locs → k4 x1 x2 → W p l e (headSpec (Cond.code (⟨"NumberDress$Code", "numberSections", "()I"⟩ : MethodName) prog_2_method_9_code 4 (some .int) :: zT) { frames := 1, cells := 0, slots := 0, locals := 21 }).room s m args below meth c H locs 0 0 (MQ below (va_Qi Z (zB (dC, dI) zCl [(cA1, .object "NumberDress$Section")] A (fun u : Unit => [(h0, .inr (1, o_Code I0 h1 a0_2 a0_3)), (h1, .inl (cA1, 4, .inr (.inr (.inr (.inr (zra ad1 4)))))), ((ad1 0), .inr (9, o_Section I2)), ((ad1 1), .inr (9, o_Section I3)), ((ad1 2), .inr (9, o_Section I4)), ((ad1 3), .inr (9, o_Section I5))])) A) args s 0 0 A) (F0 m 4 ls [])) (hl : lv_has ls 4 [(0, .ref h0), (1, .int x1), (2, .int x2)]) (hK : va_K (dC, dI) zCl [(cA1, .object "NumberDress$Section")] s) (hP : va_P (dC, dI) zCl [(h0, .inr (1, o_Code I0 h1 a0_2 a0_3)), (h1, .inl (cA1, 4, .inr (.inr (.inr (.inr (zra ad1 4)))))), ((ad1 0), .inr (9, o_Section I2)), ((ad1 1), .inr (9, o_Section I3)), ((ad1 2), .inr (9, o_Section I4)), ((ad1 3), .inr (9, o_Section I5))] H) (hD : va_D A [(h0, .inr (1, o_Code I0 h1 a0_2 a0_3)), (h1, .inl (cA1, 4, .inr (.inr (.inr (.inr (zra ad1 4)))))), ((ad1 0), .inr (9, o_Section I2)), ((ad1 1), .inr (9, o_Section I3)), ((ad1 2), .inr (9, o_Section I4)), ((ad1 3), .inr (9, o_Section I5))]) (hS : va_S A s.heap H locs) (hv : v_Code_numberSections_31 I0 I2 I3 I4 I5 x1 x2 k4 Z) : W p l e (headSpec (Cond.code (⟨"NumberDress$Code", "numberSections", "()I"⟩ : MethodName) prog_2_method_9_code 4 (some .int) :: zT) { frames := 1, cells := 0, slots := 0, locals := 21 }).room s m args below meth c H locs 0 0 (MQ below (va_Qi Z (zB (dC, dI) zCl [(cA1, .object "NumberDress$Section")] A (fun u : Unit => [(h0, .inr (1, o_Code I0 h1 a0_2 a0_3)), (h1, .inl (cA1, 4, .inr (.inr (.inr (.inr (zra ad1 4)))))), ((ad1 0), .inr (9, o_Section I2)), ((ad1 1), .inr (9, o_Section I3)), ((ad1 2), .inr (9, o_Section I4)), ((ad1 3), .inr (9, o_Section I5))])) A) args s 0 0 A) (F0 m 31 ls []) := by
  obtain ⟨hx, hb, hr, hml, hown, ht, hlocks⟩ := id hc
  unfold v_Code_numberSections_31 at hv
  refine lv_iinc (v := (x2 + (1 : Int32))) (lv' := [(2, .int (x2 + (1 : Int32))), (0, .ref h0), (1, .int x1)]) hx hb d_Code_numberSections_31 hl (k := 2) rfl rfl (by decide) rfl (fun ls hl => ?_)
  refine lv_goto (tgt := 4) hx hb d_Code_numberSections_34 (by decide) ?_
  exact hk4 x1 (x2 + (1 : Int32)) _ _ _ (lv_sub hl [1, 2, 0] rfl) hK hP hD hS hv
set_option maxHeartbeats 4000000 in
set_option maxRecDepth 100000 in
theorem b_Code_numberSections_14 {h0 : Nat} {a0_2 : Nat} {a0_3 : Nat} {h1 : Nat} {cA1 : ClassId} {ad1 : Nat → Nat} {I0 : Nat → Int32} {I2 : Nat → Int32} {I3 : Nat → Int32} {I4 : Nat → Int32} {I5 : Nat → Int32} {x1 : Int32} {x2 : Int32} {k4 : Int32 → Int32 → Prop} {Z : Int32 → Unit → Prop} {H : Heap} {locs : List Loc} {ls : Array Slot} (hc : zC p s m args meth c prog_2_method_9_code (some .int) 4 "NumberDress$Code") (hA : ∀ q : Nat, s.heap.size ≤ q → A q) (hE : zE gE A s) (hk4 : ∀ (x1 : Int32) (x2 : Int32) (H : Heap) (locs : List Loc) (ls : Array Slot), lv_has ls 4 [(0, .ref h0), (1, .int x1), (2, .int x2)] → va_K (dC, dI) zCl [(cA1, .object "NumberDress$Section")] s → va_P (dC, dI) zCl [(h0, .inr (1, o_Code I0 h1 a0_2 a0_3)), (h1, .inl (cA1, 4, .inr (.inr (.inr (.inr (zra ad1 4)))))), ((ad1 0), .inr (9, o_Section I2)), ((ad1 1), .inr (9, o_Section I3)), ((ad1 2), .inr (9, o_Section I4)), ((ad1 3), .inr (9, o_Section I5))] H → va_D A [(h0, .inr (1, o_Code I0 h1 a0_2 a0_3)), (h1, .inl (cA1, 4, .inr (.inr (.inr (.inr (zra ad1 4)))))), ((ad1 0), .inr (9, o_Section I2)), ((ad1 1), .inr (9, o_Section I3)), ((ad1 2), .inr (9, o_Section I4)), ((ad1 3), .inr (9, o_Section I5))] → va_S A s.heap H locs → k4 x1 x2 → W p l e (headSpec (Cond.code (⟨"NumberDress$Code", "numberSections", "()I"⟩ : MethodName) prog_2_method_9_code 4 (some .int) :: zT) { frames := 1, cells := 0, slots := 0, locals := 21 }).room s m args below meth c H locs 0 0 (MQ below (va_Qi Z (zB (dC, dI) zCl [(cA1, .object "NumberDress$Section")] A (fun u : Unit => [(h0, .inr (1, o_Code I0 h1 a0_2 a0_3)), (h1, .inl (cA1, 4, .inr (.inr (.inr (.inr (zra ad1 4)))))), ((ad1 0), .inr (9, o_Section I2)), ((ad1 1), .inr (9, o_Section I3)), ((ad1 2), .inr (9, o_Section I4)), ((ad1 3), .inr (9, o_Section I5))])) A) args s 0 0 A) (F0 m 4 ls [])) (hl : lv_has ls 4 [(0, .ref h0), (1, .int x1), (2, .int x2)]) (hK : va_K (dC, dI) zCl [(cA1, .object "NumberDress$Section")] s) (hP : va_P (dC, dI) zCl [(h0, .inr (1, o_Code I0 h1 a0_2 a0_3)), (h1, .inl (cA1, 4, .inr (.inr (.inr (.inr (zra ad1 4)))))), ((ad1 0), .inr (9, o_Section I2)), ((ad1 1), .inr (9, o_Section I3)), ((ad1 2), .inr (9, o_Section I4)), ((ad1 3), .inr (9, o_Section I5))] H) (hD : va_D A [(h0, .inr (1, o_Code I0 h1 a0_2 a0_3)), (h1, .inl (cA1, 4, .inr (.inr (.inr (.inr (zra ad1 4)))))), ((ad1 0), .inr (9, o_Section I2)), ((ad1 1), .inr (9, o_Section I3)), ((ad1 2), .inr (9, o_Section I4)), ((ad1 3), .inr (9, o_Section I5))]) (hS : va_S A s.heap H locs) (hv : v_Code_numberSections_14 I0 I2 I3 I4 I5 x1 x2 k4 Z) : W p l e (headSpec (Cond.code (⟨"NumberDress$Code", "numberSections", "()I"⟩ : MethodName) prog_2_method_9_code 4 (some .int) :: zT) { frames := 1, cells := 0, slots := 0, locals := 21 }).room s m args below meth c H locs 0 0 (MQ below (va_Qi Z (zB (dC, dI) zCl [(cA1, .object "NumberDress$Section")] A (fun u : Unit => [(h0, .inr (1, o_Code I0 h1 a0_2 a0_3)), (h1, .inl (cA1, 4, .inr (.inr (.inr (.inr (zra ad1 4)))))), ((ad1 0), .inr (9, o_Section I2)), ((ad1 1), .inr (9, o_Section I3)), ((ad1 2), .inr (9, o_Section I4)), ((ad1 3), .inr (9, o_Section I5))])) A) args s 0 0 A) (F0 m 14 ls [.null]) := by
  obtain ⟨hx, hb, hr, hml, hown, ht, hlocks⟩ := id hc
  unfold v_Code_numberSections_14 at hv
  refine lv_astore_nN (lv' := [(3, .null), (0, .ref h0), (1, .int x1), (2, .int x2)]) hx hb d_Code_numberSections_14 rfl hl (by decide) rfl (fun ls hl => ?_)
  refine lv_aload_nN hx hb d_Code_numberSections_15 rfl (lv_at hl 0 rfl) ?_
  refine lv_ifnullN (tgt := 31) hx hb d_Code_numberSections_16 (by decide) ?_
  exact b_Code_numberSections_31 hc hA hE hk4 (lv_sub hl [1, 2, 3] rfl) hK hP hD hS hv
set_option maxHeartbeats 4000000 in
set_option maxRecDepth 100000 in
theorem b_Code_numberSections_14v1 {h0 : Nat} {a0_2 : Nat} {a0_3 : Nat} {h1 : Nat} {cA1 : ClassId} {ad1 : Nat → Nat} {I0 : Nat → Int32} {I2 : Nat → Int32} {I3 : Nat → Int32} {I4 : Nat → Int32} {I5 : Nat → Int32} {x1 : Int32} {x2 : Int32} {s0 : Nat} {k4 : Int32 → Int32 → Prop} {Z : Int32 → Unit → Prop} {H : Heap} {locs : List Loc} {ls : Array Slot} (hc : zC p s m args meth c prog_2_method_9_code (some .int) 4 "NumberDress$Code") (hA : ∀ q : Nat, s.heap.size ≤ q → A q) (hE : zE gE A s) (hk4 : ∀ (x1 : Int32) (x2 : Int32) (H : Heap) (locs : List Loc) (ls : Array Slot), lv_has ls 4 [(0, .ref h0), (1, .int x1), (2, .int x2)] → va_K (dC, dI) zCl [(cA1, .object "NumberDress$Section")] s → va_P (dC, dI) zCl [(h0, .inr (1, o_Code I0 h1 a0_2 a0_3)), (h1, .inl (cA1, 4, .inr (.inr (.inr (.inr (zra ad1 4)))))), ((ad1 0), .inr (9, o_Section I2)), ((ad1 1), .inr (9, o_Section I3)), ((ad1 2), .inr (9, o_Section I4)), ((ad1 3), .inr (9, o_Section I5))] H → va_D A [(h0, .inr (1, o_Code I0 h1 a0_2 a0_3)), (h1, .inl (cA1, 4, .inr (.inr (.inr (.inr (zra ad1 4)))))), ((ad1 0), .inr (9, o_Section I2)), ((ad1 1), .inr (9, o_Section I3)), ((ad1 2), .inr (9, o_Section I4)), ((ad1 3), .inr (9, o_Section I5))] → va_S A s.heap H locs → k4 x1 x2 → W p l e (headSpec (Cond.code (⟨"NumberDress$Code", "numberSections", "()I"⟩ : MethodName) prog_2_method_9_code 4 (some .int) :: zT) { frames := 1, cells := 0, slots := 0, locals := 21 }).room s m args below meth c H locs 0 0 (MQ below (va_Qi Z (zB (dC, dI) zCl [(cA1, .object "NumberDress$Section")] A (fun u : Unit => [(h0, .inr (1, o_Code I0 h1 a0_2 a0_3)), (h1, .inl (cA1, 4, .inr (.inr (.inr (.inr (zra ad1 4)))))), ((ad1 0), .inr (9, o_Section I2)), ((ad1 1), .inr (9, o_Section I3)), ((ad1 2), .inr (9, o_Section I4)), ((ad1 3), .inr (9, o_Section I5))])) A) args s 0 0 A) (F0 m 4 ls [])) (hl : lv_has ls 4 [(0, .ref h0), (1, .int x1), (2, .int x2)]) (hK : va_K (dC, dI) zCl [(cA1, .object "NumberDress$Section")] s) (hP : va_P (dC, dI) zCl [(h0, .inr (1, o_Code I0 h1 a0_2 a0_3)), (h1, .inl (cA1, 4, .inr (.inr (.inr (.inr (zra ad1 4)))))), ((ad1 0), .inr (9, o_Section I2)), ((ad1 1), .inr (9, o_Section I3)), ((ad1 2), .inr (9, o_Section I4)), ((ad1 3), .inr (9, o_Section I5))] H) (hD : va_D A [(h0, .inr (1, o_Code I0 h1 a0_2 a0_3)), (h1, .inl (cA1, 4, .inr (.inr (.inr (.inr (zra ad1 4)))))), ((ad1 0), .inr (9, o_Section I2)), ((ad1 1), .inr (9, o_Section I3)), ((ad1 2), .inr (9, o_Section I4)), ((ad1 3), .inr (9, o_Section I5))]) (hS : va_S A s.heap H locs) (hv : v_Code_numberSections_14v1 I0 I2 I3 I4 I5 x1 x2 s0 k4 Z) : W p l e (headSpec (Cond.code (⟨"NumberDress$Code", "numberSections", "()I"⟩ : MethodName) prog_2_method_9_code 4 (some .int) :: zT) { frames := 1, cells := 0, slots := 0, locals := 21 }).room s m args below meth c H locs 0 0 (MQ below (va_Qi Z (zB (dC, dI) zCl [(cA1, .object "NumberDress$Section")] A (fun u : Unit => [(h0, .inr (1, o_Code I0 h1 a0_2 a0_3)), (h1, .inl (cA1, 4, .inr (.inr (.inr (.inr (zra ad1 4)))))), ((ad1 0), .inr (9, o_Section I2)), ((ad1 1), .inr (9, o_Section I3)), ((ad1 2), .inr (9, o_Section I4)), ((ad1 3), .inr (9, o_Section I5))])) A) args s 0 0 A) (F0 m 14 ls [.ref (ad1 s0)]) := by
  obtain ⟨hx, hb, hr, hml, hown, ht, hlocks⟩ := id hc
  unfold v_Code_numberSections_14v1 at hv
  refine lv_astore_n (lv' := [(3, .ref (ad1 s0)), (0, .ref h0), (1, .int x1), (2, .int x2)]) hx hb d_Code_numberSections_14 rfl hl (by decide) rfl (fun ls hl => ?_)
  refine lv_aload_n hx hb d_Code_numberSections_15 rfl (lv_at hl 0 rfl) ?_
  refine lv_ifnull hx hb d_Code_numberSections_16 ?_
  refine lv_aload_n hx hb d_Code_numberSections_19 rfl (lv_at hl 0 rfl) ?_
  obtain ⟨q_1, hv⟩ := hv
  rcases z4 q_1 with rfl | rfl | rfl | rfl
  · have hv := hv.1 rfl
    refine va_get (D := (dC, dI)) (ci := 9) (v := .int (I2 0)) (C := "NumberDress$Section") (T := T_Section) (N := 15) hx hb ht zin_Section hown hK hP 2 rfl rfl 0 (by decide) (ht _ zw_160) (fun _ h9 => h9) rfl d_Code_numberSections_20 ?_
    refine lv_bipush (v := (6 : Int32)) hx hb d_Code_numberSections_23 (by decide) ?_
    refine lv_icmp_eq (tgt := 31) hx hb d_Code_numberSections_25 (by decide) (fun c_2 => ?_) (fun c_2 => ?_)
    · have hv := hv.1 c_2
      exact b_Code_numberSections_31 hc hA hE hk4 (lv_sub hl [1, 2, 3] rfl) hK hP hD hS hv
    · have hv := hv.2 c_2
      refine lv_iinc (v := (x1 + (1 : Int32))) (lv' := [(1, .int (x1 + (1 : Int32))), (3, .ref (ad1 0)), (0, .ref h0), (2, .int x2)]) hx hb d_Code_numberSections_28 hl (k := 2) rfl rfl (by decide) rfl (fun ls hl => ?_)
      exact b_Code_numberSections_31 hc hA hE hk4 (lv_sub hl [2, 0, 3] rfl) hK hP hD hS hv
  · have hv := hv.2.1 rfl
    refine va_get (D := (dC, dI)) (ci := 9) (v := .int (I3 0)) (C := "NumberDress$Section") (T := T_Section) (N := 15) hx hb ht zin_Section hown hK hP 3 rfl rfl 0 (by decide) (ht _ zw_160) (fun _ h9 => h9) rfl d_Code_numberSections_20 ?_
    refine lv_bipush (v := (6 : Int32)) hx hb d_Code_numberSections_23 (by decide) ?_
    refine lv_icmp_eq (tgt := 31) hx hb d_Code_numberSections_25 (by decide) (fun c_3 => ?_) (fun c_3 => ?_)
    · have hv := hv.1 c_3
      exact b_Code_numberSections_31 hc hA hE hk4 (lv_sub hl [1, 2, 3] rfl) hK hP hD hS hv
    · have hv := hv.2 c_3
      refine lv_iinc (v := (x1 + (1 : Int32))) (lv' := [(1, .int (x1 + (1 : Int32))), (3, .ref (ad1 1)), (0, .ref h0), (2, .int x2)]) hx hb d_Code_numberSections_28 hl (k := 2) rfl rfl (by decide) rfl (fun ls hl => ?_)
      exact b_Code_numberSections_31 hc hA hE hk4 (lv_sub hl [2, 0, 3] rfl) hK hP hD hS hv
  · have hv := hv.2.2.1 rfl
    refine va_get (D := (dC, dI)) (ci := 9) (v := .int (I4 0)) (C := "NumberDress$Section") (T := T_Section) (N := 15) hx hb ht zin_Section hown hK hP 4 rfl rfl 0 (by decide) (ht _ zw_160) (fun _ h9 => h9) rfl d_Code_numberSections_20 ?_
    refine lv_bipush (v := (6 : Int32)) hx hb d_Code_numberSections_23 (by decide) ?_
    refine lv_icmp_eq (tgt := 31) hx hb d_Code_numberSections_25 (by decide) (fun c_4 => ?_) (fun c_4 => ?_)
    · have hv := hv.1 c_4
      exact b_Code_numberSections_31 hc hA hE hk4 (lv_sub hl [1, 2, 3] rfl) hK hP hD hS hv
    · have hv := hv.2 c_4
      refine lv_iinc (v := (x1 + (1 : Int32))) (lv' := [(1, .int (x1 + (1 : Int32))), (3, .ref (ad1 2)), (0, .ref h0), (2, .int x2)]) hx hb d_Code_numberSections_28 hl (k := 2) rfl rfl (by decide) rfl (fun ls hl => ?_)
      exact b_Code_numberSections_31 hc hA hE hk4 (lv_sub hl [2, 0, 3] rfl) hK hP hD hS hv
  · have hv := hv.2.2.2 rfl
    refine va_get (D := (dC, dI)) (ci := 9) (v := .int (I5 0)) (C := "NumberDress$Section") (T := T_Section) (N := 15) hx hb ht zin_Section hown hK hP 5 rfl rfl 0 (by decide) (ht _ zw_160) (fun _ h9 => h9) rfl d_Code_numberSections_20 ?_
    refine lv_bipush (v := (6 : Int32)) hx hb d_Code_numberSections_23 (by decide) ?_
    refine lv_icmp_eq (tgt := 31) hx hb d_Code_numberSections_25 (by decide) (fun c_5 => ?_) (fun c_5 => ?_)
    · have hv := hv.1 c_5
      exact b_Code_numberSections_31 hc hA hE hk4 (lv_sub hl [1, 2, 3] rfl) hK hP hD hS hv
    · have hv := hv.2 c_5
      refine lv_iinc (v := (x1 + (1 : Int32))) (lv' := [(1, .int (x1 + (1 : Int32))), (3, .ref (ad1 3)), (0, .ref h0), (2, .int x2)]) hx hb d_Code_numberSections_28 hl (k := 2) rfl rfl (by decide) rfl (fun ls hl => ?_)
      exact b_Code_numberSections_31 hc hA hE hk4 (lv_sub hl [2, 0, 3] rfl) hK hP hD hS hv
set_option maxHeartbeats 4000000 in
set_option maxRecDepth 100000 in
theorem b_Code_numberSections_4 {h0 : Nat} {a0_2 : Nat} {a0_3 : Nat} {h1 : Nat} {cA1 : ClassId} {ad1 : Nat → Nat} {I0 : Nat → Int32} {I2 : Nat → Int32} {I3 : Nat → Int32} {I4 : Nat → Int32} {I5 : Nat → Int32}  {Z : Int32 → Unit → Prop} (hc : zC p s m args meth c prog_2_method_9_code (some .int) 4 "NumberDress$Code") (hA : ∀ q : Nat, s.heap.size ≤ q → A q) (hE : zE gE A s) : ∀ (N : Nat) (x1 : Int32) (x2 : Int32) (H : Heap) (locs : List Loc) (ls : Array Slot), lv_has ls 4 [(0, .ref h0), (1, .int x1), (2, .int x2)] → va_K (dC, dI) zCl [(cA1, .object "NumberDress$Section")] s → va_P (dC, dI) zCl [(h0, .inr (1, o_Code I0 h1 a0_2 a0_3)), (h1, .inl (cA1, 4, .inr (.inr (.inr (.inr (zra ad1 4)))))), ((ad1 0), .inr (9, o_Section I2)), ((ad1 1), .inr (9, o_Section I3)), ((ad1 2), .inr (9, o_Section I4)), ((ad1 3), .inr (9, o_Section I5))] H → va_D A [(h0, .inr (1, o_Code I0 h1 a0_2 a0_3)), (h1, .inl (cA1, 4, .inr (.inr (.inr (.inr (zra ad1 4)))))), ((ad1 0), .inr (9, o_Section I2)), ((ad1 1), .inr (9, o_Section I3)), ((ad1 2), .inr (9, o_Section I4)), ((ad1 3), .inr (9, o_Section I5))] → va_S A s.heap H locs → v_Code_numberSections_4 I0 I2 I3 I4 I5  Z N x1 x2 → W p l e (headSpec (Cond.code (⟨"NumberDress$Code", "numberSections", "()I"⟩ : MethodName) prog_2_method_9_code 4 (some .int) :: zT) { frames := 1, cells := 0, slots := 0, locals := 21 }).room s m args below meth c H locs 0 0 (MQ below (va_Qi Z (zB (dC, dI) zCl [(cA1, .object "NumberDress$Section")] A (fun u : Unit => [(h0, .inr (1, o_Code I0 h1 a0_2 a0_3)), (h1, .inl (cA1, 4, .inr (.inr (.inr (.inr (zra ad1 4)))))), ((ad1 0), .inr (9, o_Section I2)), ((ad1 1), .inr (9, o_Section I3)), ((ad1 2), .inr (9, o_Section I4)), ((ad1 3), .inr (9, o_Section I5))])) A) args s 0 0 A) (F0 m 4 ls []) := by
  obtain ⟨hx, hb, hr, hml, hown, ht, hlocks⟩ := id hc
  intro N
  induction N with
  | zero => intro x1 x2 H locs ls hl hK hP hD hS hv; exact hv.elim
  | succ N hk4 =>
    intro x1 x2 H locs ls hl hK hP hD hS hv
    unfold v_Code_numberSections_4 at hv
    refine lv_iload_n hx hb d_Code_numberSections_4 rfl (lv_at hl 2 rfl) ?_
    refine lv_iconst (v := (3 : Int32)) hx hb d_Code_numberSections_5 (by decide) ?_
    refine lv_icmp_ge (tgt := 37) hx hb d_Code_numberSections_6 (by decide) (fun c_1 => ?_) (fun c_1 => ?_)
    · have hv := hv.1 c_1
      refine lv_iload_n hx hb d_Code_numberSections_37 rfl (lv_at hl 1 rfl) ?_
      exact W.iret (v := x1) hx hb hr (fun t ht hW => ⟨⟨_, (), rfl, hv, ⟨by rw [ht]; exact hP, va_K.moved hW.alike hK, hD⟩⟩, hS.F ht⟩) hS.2.2 d_Code_numberSections_38
    · have hv := hv.2 c_1
      refine lv_aload_n hx hb d_Code_numberSections_9 rfl (lv_at hl 0 rfl) ?_
      refine lv_iload_n hx hb d_Code_numberSections_10 rfl (lv_at hl 2 rfl) ?_
      refine z_callq (wc := [(h0, .inr (1, o_Code I0 h1 a0_2 a0_3)), (h1, .inl (cA1, 4, .inr (.inr (.inr (.inr (zra ad1 4))))))]) (wr := [((ad1 0), .inr (9, o_Section I2)), ((ad1 1), .inr (9, o_Section I3)), ((ad1 2), .inr (9, o_Section I4)), ((ad1 3), .inr (9, o_Section I5))]) [0, 1] [2, 3, 4, 5] (va_runV (As := [.int x2]) (rest := []) ⟨hx, hb, hml, hown, ht⟩ (m_Code_section l dC dI hv) ⟨(callB_of 1 ht (zG_in zi_Code_section) rfl rfl rfl (ht _ zw_111) (ht _ zw_850) zh_Code_section ⟨Nat.le_of_ble_eq_true rfl, Nat.le_of_ble_eq_true rfl⟩), (ht _ zw_851), (ht _ zw_852)⟩ ⟨zPc_blind, va_recv hK hP (ci := 1) (q0 := 0) rfl rfl, zPc_pre hP hK hD hS hA hE [0, 1] [0] rfl rfl (by decide) rfl⟩ rfl rfl hl.1 rfl (lv_room (Nat.le_of_ble_eq_true rfl)) d_Code_numberSections_11 ⟨Nat.le_of_ble_eq_true rfl, Nat.le_of_ble_eq_true rfl⟩) hP hD hS hA rfl rfl (by decide) (by decide) (fun r u H locs hv hP0 hD0 hS => ?_)
      have hP : va_P (dC, dI) zCl [(h0, .inr (1, o_Code I0 h1 a0_2 a0_3)), (h1, .inl (cA1, 4, .inr (.inr (.inr (.inr (zra ad1 4)))))), ((ad1 0), .inr (9, o_Section I2)), ((ad1 1), .inr (9, o_Section I3)), ((ad1 2), .inr (9, o_Section I4)), ((ad1 3), .inr (9, o_Section I5))] H := hP0.sub [4, 5, 0, 1, 2, 3] rfl
      have hD : va_D A [(h0, .inr (1, o_Code I0 h1 a0_2 a0_3)), (h1, .inl (cA1, 4, .inr (.inr (.inr (.inr (zra ad1 4)))))), ((ad1 0), .inr (9, o_Section I2)), ((ad1 1), .inr (9, o_Section I3)), ((ad1 2), .inr (9, o_Section I4)), ((ad1 3), .inr (9, o_Section I5))] := hD0.sub [4, 5, 0, 1, 2, 3] (by decide) rfl
      clear hP0 hD0
      rcases r with _ | j
      · have hv := hv.1 rfl
        exact b_Code_numberSections_14 hc hA hE hk4 (lv_sub hl [0, 1, 2] rfl) hK hP hD hS hv
      · have hv := hv.2 j rfl
        exact b_Code_numberSections_14v1 hc hA hE hk4 (lv_sub hl [0, 1, 2] rfl) hK hP hD hS hv
set_option maxHeartbeats 4000000 in
set_option maxRecDepth 100000 in
theorem b_Code_numberSections_0 {h0 : Nat} {a0_2 : Nat} {a0_3 : Nat} {h1 : Nat} {cA1 : ClassId} {ad1 : Nat → Nat} {I0 : Nat → Int32} {I2 : Nat → Int32} {I3 : Nat → Int32} {I4 : Nat → Int32} {I5 : Nat → Int32}  {Z : Int32 → Unit → Prop} {H : Heap} {locs : List Loc} {ls : Array Slot} (hc : zC p s m args meth c prog_2_method_9_code (some .int) 4 "NumberDress$Code") (hA : ∀ q : Nat, s.heap.size ≤ q → A q) (hE : zE gE A s) (hl : lv_has ls 4 [(0, .ref h0)]) (hK : va_K (dC, dI) zCl [(cA1, .object "NumberDress$Section")] s) (hP : va_P (dC, dI) zCl [(h0, .inr (1, o_Code I0 h1 a0_2 a0_3)), (h1, .inl (cA1, 4, .inr (.inr (.inr (.inr (zra ad1 4)))))), ((ad1 0), .inr (9, o_Section I2)), ((ad1 1), .inr (9, o_Section I3)), ((ad1 2), .inr (9, o_Section I4)), ((ad1 3), .inr (9, o_Section I5))] H) (hD : va_D A [(h0, .inr (1, o_Code I0 h1 a0_2 a0_3)), (h1, .inl (cA1, 4, .inr (.inr (.inr (.inr (zra ad1 4)))))), ((ad1 0), .inr (9, o_Section I2)), ((ad1 1), .inr (9, o_Section I3)), ((ad1 2), .inr (9, o_Section I4)), ((ad1 3), .inr (9, o_Section I5))]) (hS : va_S A s.heap H locs) (hv : v_Code_numberSections_0 I0 I2 I3 I4 I5  Z) : W p l e (headSpec (Cond.code (⟨"NumberDress$Code", "numberSections", "()I"⟩ : MethodName) prog_2_method_9_code 4 (some .int) :: zT) { frames := 1, cells := 0, slots := 0, locals := 21 }).room s m args below meth c H locs 0 0 (MQ below (va_Qi Z (zB (dC, dI) zCl [(cA1, .object "NumberDress$Section")] A (fun u : Unit => [(h0, .inr (1, o_Code I0 h1 a0_2 a0_3)), (h1, .inl (cA1, 4, .inr (.inr (.inr (.inr (zra ad1 4)))))), ((ad1 0), .inr (9, o_Section I2)), ((ad1 1), .inr (9, o_Section I3)), ((ad1 2), .inr (9, o_Section I4)), ((ad1 3), .inr (9, o_Section I5))])) A) args s 0 0 A) (F0 m 0 ls []) := by
  obtain ⟨hx, hb, hr, hml, hown, ht, hlocks⟩ := id hc
  unfold v_Code_numberSections_0 at hv
  refine lv_iconst (v := (0 : Int32)) hx hb d_Code_numberSections_0 (by decide) ?_
  refine lv_istore_n (lv' := [(1, .int (0 : Int32)), (0, .ref h0)]) hx hb d_Code_numberSections_1 rfl hl (by decide) rfl (fun ls hl => ?_)
  refine lv_iconst (v := (0 : Int32)) hx hb d_Code_numberSections_2 (by decide) ?_
  refine lv_istore_n (lv' := [(2, .int (0 : Int32)), (1, .int (0 : Int32)), (0, .ref h0)]) hx hb d_Code_numberSections_3 rfl hl (by decide) rfl (fun ls hl => ?_)
  obtain ⟨Nx, hv⟩ := hv
  exact b_Code_numberSections_4 hc hA hE  Nx (0 : Int32) (0 : Int32) _ _ _ (lv_sub hl [2, 1, 0] rfl) hK hP hD hS hv
theorem zi_Code_numberSections : Cond.code (⟨"NumberDress$Code", "numberSections", "()I"⟩ : MethodName) prog_2_method_9_code 4 (some .int) ∈ zT := zw_857
theorem zh_Code_numberSections : (((⟨"NumberDress$Code", "numberSections", "()I"⟩ : MethodName)).cls ≠ "java/lang/invoke/MethodHandle" ∧ ((⟨"NumberDress$Code", "numberSections", "()I"⟩ : MethodName)).cls ≠ "java/lang/invoke/VarHandle" ∧ (parseMethodDescriptor ((⟨"NumberDress$Code", "numberSections", "()I"⟩ : MethodName)).desc).map (fun d => d.parameters.length) = some 0) := by decide +kernel
set_option maxHeartbeats 4000000 in
set_option maxRecDepth 100000 in
theorem m_Code_numberSections (l : Launch) (dC : Nat → ClassId) (dI : Nat → Nat → Nat) {gE : zG} {h0 : Nat} {a0_2 : Nat} {a0_3 : Nat} {h1 : Nat} {cA1 : ClassId} {ad1 : Nat → Nat} {I0 : Nat → Int32} {I2 : Nat → Int32} {I3 : Nat → Int32} {I4 : Nat → Int32} {I5 : Nat → Int32} {sz : Nat} {Z : Int32 → Unit → Prop} (hv : v_Code_numberSections_0 I0 I2 I3 I4 I5 Z) : Met l (⟨"NumberDress$Code", "numberSections", "()I"⟩ : MethodName) (Cond.code (⟨"NumberDress$Code", "numberSections", "()I"⟩ : MethodName) prog_2_method_9_code 4 (some .int) :: zT) { frames := 1, cells := 0, slots := 0, locals := 21 } (zPc gE (dC, dI) zCl [(cA1, .object "NumberDress$Section")] [.ref h0] sz [(h0, .inr (1, o_Code I0 h1 a0_2 a0_3)), (h1, .inl (cA1, 4, .inr (.inr (.inr (.inr (zra ad1 4)))))), ((ad1 0), .inr (9, o_Section I2)), ((ad1 1), .inr (9, o_Section I3)), ((ad1 2), .inr (9, o_Section I4)), ((ad1 3), .inr (9, o_Section I5))]) (va_Qi Z (zB (dC, dI) zCl [(cA1, .object "NumberDress$Section")] (va_A [(h0, .inr (1, o_Code I0 h1 a0_2 a0_3)), (h1, .inl (cA1, 4, .inr (.inr (.inr (.inr (zra ad1 4)))))), ((ad1 0), .inr (9, o_Section I2)), ((ad1 1), .inr (9, o_Section I3)), ((ad1 2), .inr (9, o_Section I4)), ((ad1 3), .inr (9, o_Section I5))] sz) (fun u : Unit => [(h0, .inr (1, o_Code I0 h1 a0_2 a0_3)), (h1, .inl (cA1, 4, .inr (.inr (.inr (.inr (zra ad1 4)))))), ((ad1 0), .inr (9, o_Section I2)), ((ad1 1), .inr (9, o_Section I3)), ((ad1 2), .inr (9, o_Section I4)), ((ad1 3), .inr (9, o_Section I5))])) (va_A [(h0, .inr (1, o_Code I0 h1 a0_2 a0_3)), (h1, .inl (cA1, 4, .inr (.inr (.inr (.inr (zra ad1 4)))))), ((ad1 0), .inr (9, o_Section I2)), ((ad1 1), .inr (9, o_Section I3)), ((ad1 2), .inr (9, o_Section I4)), ((ad1 3), .inr (9, o_Section I5))] sz)) 0 0 (va_A [(h0, .inr (1, o_Code I0 h1 a0_2 a0_3)), (h1, .inl (cA1, 4, .inr (.inr (.inr (.inr (zra ad1 4)))))), ((ad1 0), .inr (9, o_Section I2)), ((ad1 1), .inr (9, o_Section I3)), ((ad1 2), .inr (9, o_Section I4)), ((ad1 3), .inr (9, o_Section I5))] sz) := by
  refine Met.ofW (cc := prog_2_method_9_code) (maxL := 4) (ret := (some .int)) (by decide +kernel) rfl ?_
  intro p e s m args below meth c s₁ B hml hp
  obtain ⟨rfl, hsz, hP, hK, hD0, hE⟩ := hp
  have hts := atoms_spec (ws := (Cond.code (⟨"NumberDress$Code", "numberSections", "()I"⟩ : MethodName) prog_2_method_9_code 4 (some .int) :: zT)) B.pre
  have hown : s.vm.findClass "NumberDress$Code" = some m.cls := findClass_of_methodNamed B.named
  have hc : zC p s m _ meth c prog_2_method_9_code (some .int) 4 "NumberDress$Code" := ⟨B.exec, B.bytes, B.returns, hml, hown, fun w h => hts w (List.mem_cons_of_mem _ h), B.notSynchronized⟩
  subst hsz
  have hD := hD0.self (sz := s.heap.size)
  generalize hAe : va_A [(h0, .inr (1, o_Code I0 h1 a0_2 a0_3)), (h1, .inl (cA1, 4, .inr (.inr (.inr (.inr (zra ad1 4)))))), ((ad1 0), .inr (9, o_Section I2)), ((ad1 1), .inr (9, o_Section I3)), ((ad1 2), .inr (9, o_Section I4)), ((ad1 3), .inr (9, o_Section I5))] s.heap.size = A at hD hE ⊢
  have hA : ∀ q : Nat, s.heap.size ≤ q → A q := fun q h => by rw [← hAe]; exact Or.inr h
  have hl := lv_entry ([.ref h0]) (n := 4) (Nat.le_of_ble_eq_true rfl)
  rw [lg_entry_eq]
  exact b_Code_numberSections_0 hc hA hE hl hK hP hD va_S.rf hv
theorem d_Code_sectionForText_0 : decode prog_2_method_11_code 0 = .ok (.aload_n 0, 1) := by decide +kernel
theorem d_Code_sectionForText_1 : decode prog_2_method_11_code 1 = .ok (.aload_n 0, 1) := by decide +kernel
theorem d_Code_sectionForText_2 : decode prog_2_method_11_code 2 = .ok (.getfield 17, 3) := by decide +kernel
theorem d_Code_sectionForText_5 : decode prog_2_method_11_code 5 = .ok (.iconst 1, 1) := by decide +kernel
theorem d_Code_sectionForText_6 : decode prog_2_method_11_code 6 = .ok (.isub, 1) := by decide +kernel
theorem d_Code_sectionForText_7 : decode prog_2_method_11_code 7 = .ok (.invokevirtual 36, 3) := by decide +kernel
theorem d_Code_sectionForText_10 : decode prog_2_method_11_code 10 = .ok (.astore_n 1, 1) := by decide +kernel
theorem d_Code_sectionForText_11 : decode prog_2_method_11_code 11 = .ok (.aload_n 1, 1) := by decide +kernel
theorem d_Code_sectionForText_12 : decode prog_2_method_11_code 12 = .ok (.ifnull 24, 3) := by decide +kernel
theorem d_Code_sectionForText_15 : decode prog_2_method_11_code 15 = .ok (.aload_n 1, 1) := by decide +kernel
theorem d_Code_sectionForText_16 : decode prog_2_method_11_code 16 = .ok (.getfield 40, 3) := by decide +kernel
theorem d_Code_sectionForText_19 : decode prog_2_method_11_code 19 = .ok (.bipush 6, 2) := by decide +kernel
theorem d_Code_sectionForText_21 : decode prog_2_method_11_code 21 = .ok (.if_icmp .eq 11, 3) := by decide +kernel
theorem d_Code_sectionForText_24 : decode prog_2_method_11_code 24 = .ok (.aload_n 0, 1) := by decide +kernel
theorem d_Code_sectionForText_25 : decode prog_2_method_11_code 25 = .ok (.getfield 17, 3) := by decide +kernel
theorem d_Code_sectionForText_28 : decode prog_2_method_11_code 28 = .ok (.iconst 4, 1) := by decide +kernel
theorem d_Code_sectionForText_29 : decode prog_2_method_11_code 29 = .ok (.if_icmp .ne 7, 3) := by decide +kernel
theorem d_Code_sectionForText_32 : decode prog_2_method_11_code 32 = .ok (.iconst 1, 1) := by decide +kernel
theorem d_Code_sectionForText_33 : decode prog_2_method_11_code 33 = .ok (.goto 4, 3) := by decide +kernel
theorem d_Code_sectionForText_36 : decode prog_2_method_11_code 36 = .ok (.iconst 0, 1) := by decide +kernel
theorem d_Code_sectionForText_37 : decode prog_2_method_11_code 37 = .ok (.istore_n 2, 1) := by decide +kernel
theorem d_Code_sectionForText_38 : decode prog_2_method_11_code 38 = .ok (.iload_n 2, 1) := by decide +kernel
theorem d_Code_sectionForText_39 : decode prog_2_method_11_code 39 = .ok (.ifCond .eq 12, 3) := by decide +kernel
theorem d_Code_sectionForText_42 : decode prog_2_method_11_code 42 = .ok (.aload_n 0, 1) := by decide +kernel
theorem d_Code_sectionForText_43 : decode prog_2_method_11_code 43 = .ok (.getfield 17, 3) := by decide +kernel
theorem d_Code_sectionForText_46 : decode prog_2_method_11_code 46 = .ok (.iconst 1, 1) := by decide +kernel
theorem d_Code_sectionForText_47 : decode prog_2_method_11_code 47 = .ok (.isub, 1) := by decide +kernel
theorem d_Code_sectionForText_48 : decode prog_2_method_11_code 48 = .ok (.goto 4, 3) := by decide +kernel
theorem d_Code_sectionForText_51 : decode prog_2_method_11_code 51 = .ok (.iconst (-1), 1) := by decide +kernel
theorem d_Code_sectionForText_52 : decode prog_2_method_11_code 52 = .ok (.ireturn, 1) := by decide +kernel
set_option maxHeartbeats 4000000 in
set_option maxRecDepth 100000 in
theorem b_Code_sectionForText_37 {h0 : Nat} {a0_2 : Nat} {a0_3 : Nat} {h1 : Nat} {cA1 : ClassId} {ad1 : Nat → Nat} {I0 : Nat → Int32} {I2 : Nat → Int32} {I3 : Nat → Int32} {I4 : Nat → Int32} {I5 : Nat → Int32} {s0 : Int32}  {Z : Int32 → Unit → Prop} {H : Heap} {locs : List Loc} {ls : Array Slot} (hc : zC p s m args meth c prog_2_method_11_code (some .int) 3 "NumberDress$Code") (hA : ∀ q : Nat, s.heap.size ≤ q → A q) (hE : zE gE A s) (hl : lv_has ls 3 [(0, .ref h0)]) (hK : va_K (dC, dI) zCl [(cA1, .object "NumberDress$Section")] s) (hP : va_P (dC, dI) zCl [(h0, .inr (1, o_Code I0 h1 a0_2 a0_3)), (h1, .inl (cA1, 4, .inr (.inr (.inr (.inr (zra ad1 4)))))), ((ad1 0), .inr (9, o_Section I2)), ((ad1 1), .inr (9, o_Section I3)), ((ad1 2), .inr (9, o_Section I4)), ((ad1 3), .inr (9, o_Section I5))] H) (hD : va_D A [(h0, .inr (1, o_Code I0 h1 a0_2 a0_3)), (h1, .inl (cA1, 4, .inr (.inr (.inr (.inr (zra ad1 4)))))), ((ad1 0), .inr (9, o_Section I2)), ((ad1 1), .inr (9, o_Section I3)), ((ad1 2), .inr (9, o_Section I4)), ((ad1 3), .inr (9, o_Section I5))]) (hS : va_S A s.heap H locs) (hv : v_Code_sectionForText_37 I0 I2 I3 I4 I5 s0  Z) : W p l e (headSpec (Cond.code (⟨"NumberDress$Code", "sectionForText", "()I"⟩ : MethodName) prog_2_method_11_code 3 (some .int) :: zT) { frames := 1, cells := 0, slots := 0, locals := 21 }).room s m args below meth c H locs 0 0 (MQ below (va_Qi Z (zB (dC, dI) zCl [(cA1, .object "NumberDress$Section")] A (fun u : Unit => [(h0, .inr (1, o_Code I0 h1 a0_2 a0_3)), (h1, .inl (cA1, 4, .inr (.inr (.inr (.inr (zra ad1 4)))))), ((ad1 0), .inr (9, o_Section I2)), ((ad1 1), .inr (9, o_Section I3)), ((ad1 2), .inr (9, o_Section I4)), ((ad1 3), .inr (9, o_Section I5))])) A) args s 0 0 A) (F0 m 37 ls [.int s0]) := by
  obtain ⟨hx, hb, hr, hml, hown, ht, hlocks⟩ := id hc
  unfold v_Code_sectionForText_37 at hv
  refine lv_istore_n (lv' := [(2, .int s0), (0, .ref h0)]) hx hb d_Code_sectionForText_37 rfl hl (by decide) rfl (fun ls hl => ?_)
  refine lv_iload_n hx hb d_Code_sectionForText_38 rfl (lv_at hl 0 rfl) ?_
  refine lv_if_eq (tgt := 51) hx hb d_Code_sectionForText_39 (by decide) (fun c_1 => ?_) (fun c_1 => ?_)
  · have hv := hv.1 c_1
    refine lv_iconst (v := (-1 : Int32)) hx hb d_Code_sectionForText_51 (by decide) ?_
    exact W.iret (v := (-1 : Int32)) hx hb hr (fun t ht hW => ⟨⟨_, (), rfl, hv, ⟨by rw [ht]; exact hP, va_K.moved hW.alike hK, hD⟩⟩, hS.F ht⟩) hS.2.2 d_Code_sectionForText_52
  · have hv := hv.2 c_1
    refine lv_aload_n hx hb d_Code_sectionForText_42 rfl (lv_at hl 1 rfl) ?_
    refine va_get (D := (dC, dI)) (ci := 1) (v := .int (I0 1)) (C := "NumberDress$Code") (T := T_Code) (N := 5) hx hb ht zin_Code hown hK hP 0 rfl rfl 1 (by decide) (ht _ zw_244) (fun _ h9 => h9) rfl d_Code_sectionForText_43 ?_
    refine lv_iconst (v := (1 : Int32)) hx hb d_Code_sectionForText_46 (by decide) ?_
    refine lv_isub hx hb d_Code_sectionForText_47 ?_
    refine lv_goto (tgt := 52) hx hb d_Code_sectionForText_48 (by decide) ?_
    exact W.iret (v := ((I0 1) - (1 : Int32))) hx hb hr (fun t ht hW => ⟨⟨_, (), rfl, hv, ⟨by rw [ht]; exact hP, va_K.moved hW.alike hK, hD⟩⟩, hS.F ht⟩) hS.2.2 d_Code_sectionForText_52
set_option maxHeartbeats 4000000 in
set_option maxRecDepth 100000 in
theorem b_Code_sectionForText_36 {h0 : Nat} {a0_2 : Nat} {a0_3 : Nat} {h1 : Nat} {cA1 : ClassId} {ad1 : Nat → Nat} {I0 : Nat → Int32} {I2 : Nat → Int32} {I3 : Nat → Int32} {I4 : Nat → Int32} {I5 : Nat → Int32}  {Z : Int32 → Unit → Prop} {H : Heap} {locs : List Loc} {ls : Array Slot} (hc : zC p s m args meth c prog_2_method_11_code (some .int) 3 "NumberDress$Code") (hA : ∀ q : Nat, s.heap.size ≤ q → A q) (hE : zE gE A s) (hl : lv_has ls 3 [(0, .ref h0)]) (hK : va_K (dC, dI) zCl [(cA1, .object "NumberDress$Section")] s) (hP : va_P (dC, dI) zCl [(h0, .inr (1, o_Code I0 h1 a0_2 a0_3)), (h1, .inl (cA1, 4, .inr (.inr (.inr (.inr (zra ad1 4)))))), ((ad1 0), .inr (9, o_Section I2)), ((ad1 1), .inr (9, o_Section I3)), ((ad1 2), .inr (9, o_Section I4)), ((ad1 3), .inr (9, o_Section I5))] H) (hD : va_D A [(h0, .inr (1, o_Code I0 h1 a0_2 a0_3)), (h1, .inl (cA1, 4, .inr (.inr (.inr (.inr (zra ad1 4)))))), ((ad1 0), .inr (9, o_Section I2)), ((ad1 1), .inr (9, o_Section I3)), ((ad1 2), .inr (9, o_Section I4)), ((ad1 3), .inr (9, o_Section I5))]) (hS : va_S A s.heap H locs) (hv : v_Code_sectionForText_36 I0 I2 I3 I4 I5  Z) : W p l e (headSpec (Cond.code (⟨"NumberDress$Code", "sectionForText", "()I"⟩ : MethodName) prog_2_method_11_code 3 (some .int) :: zT) { frames := 1, cells := 0, slots := 0, locals := 21 }).room s m args below meth c H locs 0 0 (MQ below (va_Qi Z (zB (dC, dI) zCl [(cA1, .object "NumberDress$Section")] A (fun u : Unit => [(h0, .inr (1, o_Code I0 h1 a0_2 a0_3)), (h1, .inl (cA1, 4, .inr (.inr (.inr (.inr (zra ad1 4)))))), ((ad1 0), .inr (9, o_Section I2)), ((ad1 1), .inr (9, o_Section I3)), ((ad1 2), .inr (9, o_Section I4)), ((ad1 3), .inr (9, o_Section I5))])) A) args s 0 0 A) (F0 m 36 ls []) := by
  obtain ⟨hx, hb, hr, hml, hown, ht, hlocks⟩ := id hc
  unfold v_Code_sectionForText_36 at hv
  refine lv_iconst (v := (0 : Int32)) hx hb d_Code_sectionForText_36 (by decide) ?_
  exact b_Code_sectionForText_37 hc hA hE  (lv_sub hl [0] rfl) hK hP hD hS hv
set_option maxHeartbeats 4000000 in
set_option maxRecDepth 100000 in
theorem b_Code_sectionForText_10 {h0 : Nat} {a0_2 : Nat} {a0_3 : Nat} {h1 : Nat} {cA1 : ClassId} {ad1 : Nat → Nat} {I0 : Nat → Int32} {I2 : Nat → Int32} {I3 : Nat → Int32} {I4 : Nat → Int32} {I5 : Nat → Int32}  {Z : Int32 → Unit → Prop} {H : Heap} {locs : List Loc} {ls : Array Slot} (hc : zC p s m args meth c prog_2_method_11_code (some .int) 3 "NumberDress$Code") (hA : ∀ q : Nat, s.heap.size ≤ q → A q) (hE : zE gE A s) (hl : lv_has ls 3 [(0, .ref h0)]) (hK : va_K (dC, dI) zCl [(cA1, .object "NumberDress$Section")] s) (hP : va_P (dC, dI) zCl [(h0, .inr (1, o_Code I0 h1 a0_2 a0_3)), (h1, .inl (cA1, 4, .inr (.inr (.inr (.inr (zra ad1 4)))))), ((ad1 0), .inr (9, o_Section I2)), ((ad1 1), .inr (9, o_Section I3)), ((ad1 2), .inr (9, o_Section I4)), ((ad1 3), .inr (9, o_Section I5))] H) (hD : va_D A [(h0, .inr (1, o_Code I0 h1 a0_2 a0_3)), (h1, .inl (cA1, 4, .inr (.inr (.inr (.inr (zra ad1 4)))))), ((ad1 0), .inr (9, o_Section I2)), ((ad1 1), .inr (9, o_Section I3)), ((ad1 2), .inr (9, o_Section I4)), ((ad1 3), .inr (9, o_Section I5))]) (hS : va_S A s.heap H locs) (hv : v_Code_sectionForText_10 I0 I2 I3 I4 I5  Z) : W p l e (headSpec (Cond.code (⟨"NumberDress$Code", "sectionForText", "()I"⟩ : MethodName) prog_2_method_11_code 3 (some .int) :: zT) { frames := 1, cells := 0, slots := 0, locals := 21 }).room s m args below meth c H locs 0 0 (MQ below (va_Qi Z (zB (dC, dI) zCl [(cA1, .object "NumberDress$Section")] A (fun u : Unit => [(h0, .inr (1, o_Code I0 h1 a0_2 a0_3)), (h1, .inl (cA1, 4, .inr (.inr (.inr (.inr (zra ad1 4)))))), ((ad1 0), .inr (9, o_Section I2)), ((ad1 1), .inr (9, o_Section I3)), ((ad1 2), .inr (9, o_Section I4)), ((ad1 3), .inr (9, o_Section I5))])) A) args s 0 0 A) (F0 m 10 ls [.null]) := by
  obtain ⟨hx, hb, hr, hml, hown, ht, hlocks⟩ := id hc
  unfold v_Code_sectionForText_10 at hv
  refine lv_astore_nN (lv' := [(1, .null), (0, .ref h0)]) hx hb d_Code_sectionForText_10 rfl hl (by decide) rfl (fun ls hl => ?_)
  refine lv_aload_nN hx hb d_Code_sectionForText_11 rfl (lv_at hl 0 rfl) ?_
  refine lv_ifnullN (tgt := 36) hx hb d_Code_sectionForText_12 (by decide) ?_
  exact b_Code_sectionForText_36 hc hA hE  (lv_sub hl [1] rfl) hK hP hD hS hv
set_option maxHeartbeats 4000000 in
set_option maxRecDepth 100000 in
theorem b_Code_sectionForText_32 {h0 : Nat} {a0_2 : Nat} {a0_3 : Nat} {h1 : Nat} {cA1 : ClassId} {ad1 : Nat → Nat} {I0 : Nat → Int32} {I2 : Nat → Int32} {I3 : Nat → Int32} {I4 : Nat → Int32} {I5 : Nat → Int32}  {Z : Int32 → Unit → Prop} {H : Heap} {locs : List Loc} {ls : Array Slot} (hc : zC p s m args meth c prog_2_method_11_code (some .int) 3 "NumberDress$Code") (hA : ∀ q : Nat, s.heap.size ≤ q → A q) (hE : zE gE A s) (hl : lv_has ls 3 [(0, .ref h0)]) (hK : va_K (dC, dI) zCl [(cA1, .object "NumberDress$Section")] s) (hP : va_P (dC, dI) zCl [(h0, .inr (1, o_Code I0 h1 a0_2 a0_3)), (h1, .inl (cA1, 4, .inr (.inr (.inr (.inr (zra ad1 4)))))), ((ad1 0), .inr (9, o_Section I2)), ((ad1 1), .inr (9, o_Section I3)), ((ad1 2), .inr (9, o_Section I4)), ((ad1 3), .inr (9, o_Section I5))] H) (hD : va_D A [(h0, .inr (1, o_Code I0 h1 a0_2 a0_3)), (h1, .inl (cA1, 4, .inr (.inr (.inr (.inr (zra ad1 4)))))), ((ad1 0), .inr (9, o_Section I2)), ((ad1 1), .inr (9, o_Section I3)), ((ad1 2), .inr (9, o_Section I4)), ((ad1 3), .inr (9, o_Section I5))]) (hS : va_S A s.heap H locs) (hv : v_Code_sectionForText_32 I0 I2 I3 I4 I5  Z) : W p l e (headSpec (Cond.code (⟨"NumberDress$Code", "sectionForText", "()I"⟩ : MethodName) prog_2_method_11_code 3 (some .int) :: zT) { frames := 1, cells := 0, slots := 0, locals := 21 }).room s m args below meth c H locs 0 0 (MQ below (va_Qi Z (zB (dC, dI) zCl [(cA1, .object "NumberDress$Section")] A (fun u : Unit => [(h0, .inr (1, o_Code I0 h1 a0_2 a0_3)), (h1, .inl (cA1, 4, .inr (.inr (.inr (.inr (zra ad1 4)))))), ((ad1 0), .inr (9, o_Section I2)), ((ad1 1), .inr (9, o_Section I3)), ((ad1 2), .inr (9, o_Section I4)), ((ad1 3), .inr (9, o_Section I5))])) A) args s 0 0 A) (F0 m 32 ls []) := by
  obtain ⟨hx, hb, hr, hml, hown, ht, hlocks⟩ := id hc
  unfold v_Code_sectionForText_32 at hv
  refine lv_iconst (v := (1 : Int32)) hx hb d_Code_sectionForText_32 (by decide) ?_
  refine lv_goto (tgt := 37) hx hb d_Code_sectionForText_33 (by decide) ?_
  exact b_Code_sectionForText_37 hc hA hE  (lv_sub hl [0] rfl) hK hP hD hS hv
set_option maxHeartbeats 4000000 in
set_option maxRecDepth 100000 in
theorem b_Code_sectionForText_10v1 {h0 : Nat} {a0_2 : Nat} {a0_3 : Nat} {h1 : Nat} {cA1 : ClassId} {ad1 : Nat → Nat} {I0 : Nat → Int32} {I2 : Nat → Int32} {I3 : Nat → Int32} {I4 : Nat → Int32} {I5 : Nat → Int32} {s0 : Nat}  {Z : Int32 → Unit → Prop} {H : Heap} {locs : List Loc} {ls : Array Slot} (hc : zC p s m args meth c prog_2_method_11_code (some .int) 3 "NumberDress$Code") (hA : ∀ q : Nat, s.heap.size ≤ q → A q) (hE : zE gE A s) (hl : lv_has ls 3 [(0, .ref h0)]) (hK : va_K (dC, dI) zCl [(cA1, .object "NumberDress$Section")] s) (hP : va_P (dC, dI) zCl [(h0, .inr (1, o_Code I0 h1 a0_2 a0_3)), (h1, .inl (cA1, 4, .inr (.inr (.inr (.inr (zra ad1 4)))))), ((ad1 0), .inr (9, o_Section I2)), ((ad1 1), .inr (9, o_Section I3)), ((ad1 2), .inr (9, o_Section I4)), ((ad1 3), .inr (9, o_Section I5))] H) (hD : va_D A [(h0, .inr (1, o_Code I0 h1 a0_2 a0_3)), (h1, .inl (cA1, 4, .inr (.inr (.inr (.inr (zra ad1 4)))))), ((ad1 0), .inr (9, o_Section I2)), ((ad1 1), .inr (9, o_Section I3)), ((ad1 2), .inr (9, o_Section I4)), ((ad1 3), .inr (9, o_Section I5))]) (hS : va_S A s.heap H locs) (hv : v_Code_sectionForText_10v1 I0 I2 I3 I4 I5 s0  Z) : W p l e (headSpec (Cond.code (⟨"NumberDress$Code", "sectionForText", "()I"⟩ : MethodName) prog_2_method_11_code 3 (some .int) :: zT) { frames := 1, cells := 0, slots := 0, locals := 21 }).room s m args below meth c H locs 0 0 (MQ below (va_Qi Z (zB (dC, dI) zCl [(cA1, .object "NumberDress$Section")] A (fun u : Unit => [(h0, .inr (1, o_Code I0 h1 a0_2 a0_3)), (h1, .inl (cA1, 4, .inr (.inr (.inr (.inr (zra ad1 4)))))), ((ad1 0), .inr (9, o_Section I2)), ((ad1 1), .inr (9, o_Section I3)), ((ad1 2), .inr (9, o_Section I4)), ((ad1 3), .inr (9, o_Section I5))])) A) args s 0 0 A) (F0 m 10 ls [.ref (ad1 s0)]) := by
  obtain ⟨hx, hb, hr, hml, hown, ht, hlocks⟩ := id hc
  unfold v_Code_sectionForText_10v1 at hv
  refine lv_astore_n (lv' := [(1, .ref (ad1 s0)), (0, .ref h0)]) hx hb d_Code_sectionForText_10 rfl hl (by decide) rfl (fun ls hl => ?_)
  refine lv_aload_n hx hb d_Code_sectionForText_11 rfl (lv_at hl 0 rfl) ?_
  refine lv_ifnull hx hb d_Code_sectionForText_12 ?_
  refine lv_aload_n hx hb d_Code_sectionForText_15 rfl (lv_at hl 0 rfl) ?_
  obtain ⟨q_1, hv⟩ := hv
  rcases z4 q_1 with rfl | rfl | rfl | rfl
  · have hv := hv.1 rfl
    refine va_get (D := (dC, dI)) (ci := 9) (v := .int (I2 0)) (C := "NumberDress$Section") (T := T_Section) (N := 15) hx hb ht zin_Section hown hK hP 2 rfl rfl 0 (by decide) (ht _ zw_160) (fun _ h9 => h9) rfl d_Code_sectionForText_16 ?_
    refine lv_bipush (v := (6 : Int32)) hx hb d_Code_sectionForText_19 (by decide) ?_
    refine lv_icmp_eq (tgt := 32) hx hb d_Code_sectionForText_21 (by decide) (fun c_2 => ?_) (fun c_2 => ?_)
    · have hv := hv.1 c_2
      exact b_Code_sectionForText_32 hc hA hE  (lv_sub hl [1] rfl) hK hP hD hS hv
    · have hv := hv.2 c_2
      refine lv_aload_n hx hb d_Code_sectionForText_24 rfl (lv_at hl 1 rfl) ?_
      refine va_get (D := (dC, dI)) (ci := 1) (v := .int (I0 1)) (C := "NumberDress$Code") (T := T_Code) (N := 5) hx hb ht zin_Code hown hK hP 0 rfl rfl 1 (by decide) (ht _ zw_244) (fun _ h9 => h9) rfl d_Code_sectionForText_25 ?_
      refine lv_iconst (v := (4 : Int32)) hx hb d_Code_sectionForText_28 (by decide) ?_
      refine lv_icmp_ne (tgt := 36) hx hb d_Code_sectionForText_29 (by decide) (fun c_3 => ?_) (fun c_3 => ?_)
      · have hv := hv.1 c_3
        exact b_Code_sectionForText_36 hc hA hE  (lv_sub hl [1] rfl) hK hP hD hS hv
      · have hv := hv.2 c_3
        exact b_Code_sectionForText_32 hc hA hE  (lv_sub hl [1] rfl) hK hP hD hS hv
  · have hv := hv.2.1 rfl
    refine va_get (D := (dC, dI)) (ci := 9) (v := .int (I3 0)) (C := "NumberDress$Section") (T := T_Section) (N := 15) hx hb ht zin_Section hown hK hP 3 rfl rfl 0 (by decide) (ht _ zw_160) (fun _ h9 => h9) rfl d_Code_sectionForText_16 ?_
    refine lv_bipush (v := (6 : Int32)) hx hb d_Code_sectionForText_19 (by decide) ?_
    refine lv_icmp_eq (tgt := 32) hx hb d_Code_sectionForText_21 (by decide) (fun c_4 => ?_) (fun c_4 => ?_)
    · have hv := hv.1 c_4
      exact b_Code_sectionForText_32 hc hA hE  (lv_sub hl [1] rfl) hK hP hD hS hv
    · have hv := hv.2 c_4
      refine lv_aload_n hx hb d_Code_sectionForText_24 rfl (lv_at hl 1 rfl) ?_
      refine va_get (D := (dC, dI)) (ci := 1) (v := .int (I0 1)) (C := "NumberDress$Code") (T := T_Code) (N := 5) hx hb ht zin_Code hown hK hP 0 rfl rfl 1 (by decide) (ht _ zw_244) (fun _ h9 => h9) rfl d_Code_sectionForText_25 ?_
      refine lv_iconst (v := (4 : Int32)) hx hb d_Code_sectionForText_28 (by decide) ?_
      refine lv_icmp_ne (tgt := 36) hx hb d_Code_sectionForText_29 (by decide) (fun c_5 => ?_) (fun c_5 => ?_)
      · have hv := hv.1 c_5
        exact b_Code_sectionForText_36 hc hA hE  (lv_sub hl [1] rfl) hK hP hD hS hv
      · have hv := hv.2 c_5
        exact b_Code_sectionForText_32 hc hA hE  (lv_sub hl [1] rfl) hK hP hD hS hv
  · have hv := hv.2.2.1 rfl
    refine va_get (D := (dC, dI)) (ci := 9) (v := .int (I4 0)) (C := "NumberDress$Section") (T := T_Section) (N := 15) hx hb ht zin_Section hown hK hP 4 rfl rfl 0 (by decide) (ht _ zw_160) (fun _ h9 => h9) rfl d_Code_sectionForText_16 ?_
    refine lv_bipush (v := (6 : Int32)) hx hb d_Code_sectionForText_19 (by decide) ?_
    refine lv_icmp_eq (tgt := 32) hx hb d_Code_sectionForText_21 (by decide) (fun c_6 => ?_) (fun c_6 => ?_)
    · have hv := hv.1 c_6
      exact b_Code_sectionForText_32 hc hA hE  (lv_sub hl [1] rfl) hK hP hD hS hv
    · have hv := hv.2 c_6
      refine lv_aload_n hx hb d_Code_sectionForText_24 rfl (lv_at hl 1 rfl) ?_
      refine va_get (D := (dC, dI)) (ci := 1) (v := .int (I0 1)) (C := "NumberDress$Code") (T := T_Code) (N := 5) hx hb ht zin_Code hown hK hP 0 rfl rfl 1 (by decide) (ht _ zw_244) (fun _ h9 => h9) rfl d_Code_sectionForText_25 ?_
      refine lv_iconst (v := (4 : Int32)) hx hb d_Code_sectionForText_28 (by decide) ?_
      refine lv_icmp_ne (tgt := 36) hx hb d_Code_sectionForText_29 (by decide) (fun c_7 => ?_) (fun c_7 => ?_)
      · have hv := hv.1 c_7
        exact b_Code_sectionForText_36 hc hA hE  (lv_sub hl [1] rfl) hK hP hD hS hv
      · have hv := hv.2 c_7
        exact b_Code_sectionForText_32 hc hA hE  (lv_sub hl [1] rfl) hK hP hD hS hv
  · have hv := hv.2.2.2 rfl
    refine va_get (D := (dC, dI)) (ci := 9) (v := .int (I5 0)) (C := "NumberDress$Section") (T := T_Section) (N := 15) hx hb ht zin_Section hown hK hP 5 rfl rfl 0 (by decide) (ht _ zw_160) (fun _ h9 => h9) rfl d_Code_sectionForText_16 ?_
    refine lv_bipush (v := (6 : Int32)) hx hb d_Code_sectionForText_19 (by decide) ?_
    refine lv_icmp_eq (tgt := 32) hx hb d_Code_sectionForText_21 (by decide) (fun c_8 => ?_) (fun c_8 => ?_)
    · have hv := hv.1 c_8
      exact b_Code_sectionForText_32 hc hA hE  (lv_sub hl [1] rfl) hK hP hD hS hv
    · have hv := hv.2 c_8
      refine lv_aload_n hx hb d_Code_sectionForText_24 rfl (lv_at hl 1 rfl) ?_
      refine va_get (D := (dC, dI)) (ci := 1) (v := .int (I0 1)) (C := "NumberDress$Code") (T := T_Code) (N := 5) hx hb ht zin_Code hown hK hP 0 rfl rfl 1 (by decide) (ht _ zw_244) (fun _ h9 => h9) rfl d_Code_sectionForText_25 ?_
      refine lv_iconst (v := (4 : Int32)) hx hb d_Code_sectionForText_28 (by decide) ?_
      refine lv_icmp_ne (tgt := 36) hx hb d_Code_sectionForText_29 (by decide) (fun c_9 => ?_) (fun c_9 => ?_)
      · have hv := hv.1 c_9
        exact b_Code_sectionForText_36 hc hA hE  (lv_sub hl [1] rfl) hK hP hD hS hv
      · have hv := hv.2 c_9
        exact b_Code_sectionForText_32 hc hA hE  (lv_sub hl [1] rfl) hK hP hD hS hv
set_option maxHeartbeats 4000000 in
set_option maxRecDepth 100000 in
theorem b_Code_sectionForText_0 {h0 : Nat} {a0_2 : Nat} {a0_3 : Nat} {h1 : Nat} {cA1 : ClassId} {ad1 : Nat → Nat} {I0 : Nat → Int32} {I2 : Nat → Int32} {I3 : Nat → Int32} {I4 : Nat → Int32} {I5 : Nat → Int32}  {Z : Int32 → Unit → Prop} {H : Heap} {locs : List Loc} {ls : Array Slot} (hc : zC p s m args meth c prog_2_method_11_code (some .int) 3 "NumberDress$Code") (hA : ∀ q : Nat, s.heap.size ≤ q → A q) (hE : zE gE A s) (hl : lv_has ls 3 [(0, .ref h0)]) (hK : va_K (dC, dI) zCl [(cA1, .object "NumberDress$Section")] s) (hP : va_P (dC, dI) zCl [(h0, .inr (1, o_Code I0 h1 a0_2 a0_3)), (h1, .inl (cA1, 4, .inr (.inr (.inr (.inr (zra ad1 4)))))), ((ad1 0), .inr (9, o_Section I2)), ((ad1 1), .inr (9, o_Section I3)), ((ad1 2), .inr (9, o_Section I4)), ((ad1 3), .inr (9, o_Section I5))] H) (hD : va_D A [(h0, .inr (1, o_Code I0 h1 a0_2 a0_3)), (h1, .inl (cA1, 4, .inr (.inr (.inr (.inr (zra ad1 4)))))), ((ad1 0), .inr (9, o_Section I2)), ((ad1 1), .inr (9, o_Section I3)), ((ad1 2), .inr (9, o_Section I4)), ((ad1 3), .inr (9, o_Section I5))]) (hS : va_S A s.heap H locs) (hv : v_Code_sectionForText_0 I0 I2 I3 I4 I5  Z) : W p l e (headSpec (Cond.code (⟨"NumberDress$Code", "sectionForText", "()I"⟩ : MethodName) prog_2_method_11_code 3 (some .int) :: zT) { frames := 1, cells := 0, slots := 0, locals := 21 }).room s m args below meth c H locs 0 0 (MQ below (va_Qi Z (zB (dC, dI) zCl [(cA1, .object "NumberDress$Section")] A (fun u : Unit => [(h0, .inr (1, o_Code I0 h1 a0_2 a0_3)), (h1, .inl (cA1, 4, .inr (.inr (.inr (.inr (zra ad1 4)))))), ((ad1 0), .inr (9, o_Section I2)), ((ad1 1), .inr (9, o_Section I3)), ((ad1 2), .inr (9, o_Section I4)), ((ad1 3), .inr (9, o_Section I5))])) A) args s 0 0 A) (F0 m 0 ls []) := by
  obtain ⟨hx, hb, hr, hml, hown, ht, hlocks⟩ := id hc
  unfold v_Code_sectionForText_0 at hv
  refine lv_aload_n hx hb d_Code_sectionForText_0 rfl (lv_at hl 0 rfl) ?_
  refine lv_aload_n hx hb d_Code_sectionForText_1 rfl (lv_at hl 0 rfl) ?_
  refine va_get (D := (dC, dI)) (ci := 1) (v := .int (I0 1)) (C := "NumberDress$Code") (T := T_Code) (N := 5) hx hb ht zin_Code hown hK hP 0 rfl rfl 1 (by decide) (ht _ zw_244) (fun _ h9 => h9) rfl d_Code_sectionForText_2 ?_
  refine lv_iconst (v := (1 : Int32)) hx hb d_Code_sectionForText_5 (by decide) ?_
  refine lv_isub hx hb d_Code_sectionForText_6 ?_
  refine z_callq (wc := [(h0, .inr (1, o_Code I0 h1 a0_2 a0_3)), (h1, .inl (cA1, 4, .inr (.inr (.inr (.inr (zra ad1 4))))))]) (wr := [((ad1 0), .inr (9, o_Section I2)), ((ad1 1), .inr (9, o_Section I3)), ((ad1 2), .inr (9, o_Section I4)), ((ad1 3), .inr (9, o_Section I5))]) [0, 1] [2, 3, 4, 5] (va_runV (As := [.int ((I0 1) - (1 : Int32))]) (rest := []) ⟨hx, hb, hml, hown, ht⟩ (m_Code_section l dC dI hv) ⟨(callB_of 1 ht (zG_in zi_Code_section) rfl rfl rfl (ht _ zw_111) (ht _ zw_850) zh_Code_section ⟨Nat.le_of_ble_eq_true rfl, Nat.le_of_ble_eq_true rfl⟩), (ht _ zw_851), (ht _ zw_852)⟩ ⟨zPc_blind, va_recv hK hP (ci := 1) (q0 := 0) rfl rfl, zPc_pre hP hK hD hS hA hE [0, 1] [0] rfl rfl (by decide) rfl⟩ rfl rfl hl.1 rfl (lv_room (Nat.le_of_ble_eq_true rfl)) d_Code_sectionForText_7 ⟨Nat.le_of_ble_eq_true rfl, Nat.le_of_ble_eq_true rfl⟩) hP hD hS hA rfl rfl (by decide) (by decide) (fun r u H locs hv hP0 hD0 hS => ?_)
  have hP : va_P (dC, dI) zCl [(h0, .inr (1, o_Code I0 h1 a0_2 a0_3)), (h1, .inl (cA1, 4, .inr (.inr (.inr (.inr (zra ad1 4)))))), ((ad1 0), .inr (9, o_Section I2)), ((ad1 1), .inr (9, o_Section I3)), ((ad1 2), .inr (9, o_Section I4)), ((ad1 3), .inr (9, o_Section I5))] H := hP0.sub [4, 5, 0, 1, 2, 3] rfl
  have hD : va_D A [(h0, .inr (1, o_Code I0 h1 a0_2 a0_3)), (h1, .inl (cA1, 4, .inr (.inr (.inr (.inr (zra ad1 4)))))), ((ad1 0), .inr (9, o_Section I2)), ((ad1 1), .inr (9, o_Section I3)), ((ad1 2), .inr (9, o_Section I4)), ((ad1 3), .inr (9, o_Section I5))] := hD0.sub [4, 5, 0, 1, 2, 3] (by decide) rfl
  clear hP0 hD0
  rcases r with _ | j
  · have hv := hv.1 rfl
    exact b_Code_sectionForText_10 hc hA hE  (lv_sub hl [0] rfl) hK hP hD hS hv
  · have hv := hv.2 j rfl
    exact b_Code_sectionForText_10v1 hc hA hE  (lv_sub hl [0] rfl) hK hP hD hS hv
theorem zi_Code_sectionForText : Cond.code (⟨"NumberDress$Code", "sectionForText", "()I"⟩ : MethodName) prog_2_method_11_code 3 (some .int) ∈ zT := zw_849
theorem zh_Code_sectionForText : (((⟨"NumberDress$Code", "sectionForText", "()I"⟩ : MethodName)).cls ≠ "java/lang/invoke/MethodHandle" ∧ ((⟨"NumberDress$Code", "sectionForText", "()I"⟩ : MethodName)).cls ≠ "java/lang/invoke/VarHandle" ∧ (parseMethodDescriptor ((⟨"NumberDress$Code", "sectionForText", "()I"⟩ : MethodName)).desc).map (fun d => d.parameters.length) = some 0) := by decide +kernel
set_option maxHeartbeats 4000000 in
set_option maxRecDepth 100000 in
theorem m_Code_sectionForText (l : Launch) (dC : Nat → ClassId) (dI : Nat → Nat → Nat) {gE : zG} {h0 : Nat} {a0_2 : Nat} {a0_3 : Nat} {h1 : Nat} {cA1 : ClassId} {ad1 : Nat → Nat} {I0 : Nat → Int32} {I2 : Nat → Int32} {I3 : Nat → Int32} {I4 : Nat → Int32} {I5 : Nat → Int32} {sz : Nat} {Z : Int32 → Unit → Prop} (hv : v_Code_sectionForText_0 I0 I2 I3 I4 I5 Z) : Met l (⟨"NumberDress$Code", "sectionForText", "()I"⟩ : MethodName) (Cond.code (⟨"NumberDress$Code", "sectionForText", "()I"⟩ : MethodName) prog_2_method_11_code 3 (some .int) :: zT) { frames := 1, cells := 0, slots := 0, locals := 21 } (zPc gE (dC, dI) zCl [(cA1, .object "NumberDress$Section")] [.ref h0] sz [(h0, .inr (1, o_Code I0 h1 a0_2 a0_3)), (h1, .inl (cA1, 4, .inr (.inr (.inr (.inr (zra ad1 4)))))), ((ad1 0), .inr (9, o_Section I2)), ((ad1 1), .inr (9, o_Section I3)), ((ad1 2), .inr (9, o_Section I4)), ((ad1 3), .inr (9, o_Section I5))]) (va_Qi Z (zB (dC, dI) zCl [(cA1, .object "NumberDress$Section")] (va_A [(h0, .inr (1, o_Code I0 h1 a0_2 a0_3)), (h1, .inl (cA1, 4, .inr (.inr (.inr (.inr (zra ad1 4)))))), ((ad1 0), .inr (9, o_Section I2)), ((ad1 1), .inr (9, o_Section I3)), ((ad1 2), .inr (9, o_Section I4)), ((ad1 3), .inr (9, o_Section I5))] sz) (fun u : Unit => [(h0, .inr (1, o_Code I0 h1 a0_2 a0_3)), (h1, .inl (cA1, 4, .inr (.inr (.inr (.inr (zra ad1 4)))))), ((ad1 0), .inr (9, o_Section I2)), ((ad1 1), .inr (9, o_Section I3)), ((ad1 2), .inr (9, o_Section I4)), ((ad1 3), .inr (9, o_Section I5))])) (va_A [(h0, .inr (1, o_Code I0 h1 a0_2 a0_3)), (h1, .inl (cA1, 4, .inr (.inr (.inr (.inr (zra ad1 4)))))), ((ad1 0), .inr (9, o_Section I2)), ((ad1 1), .inr (9, o_Section I3)), ((ad1 2), .inr (9, o_Section I4)), ((ad1 3), .inr (9, o_Section I5))] sz)) 0 0 (va_A [(h0, .inr (1, o_Code I0 h1 a0_2 a0_3)), (h1, .inl (cA1, 4, .inr (.inr (.inr (.inr (zra ad1 4)))))), ((ad1 0), .inr (9, o_Section I2)), ((ad1 1), .inr (9, o_Section I3)), ((ad1 2), .inr (9, o_Section I4)), ((ad1 3), .inr (9, o_Section I5))] sz) := by
  refine Met.ofW (cc := prog_2_method_11_code) (maxL := 3) (ret := (some .int)) (by decide +kernel) rfl ?_
  intro p e s m args below meth c s₁ B hml hp
  obtain ⟨rfl, hsz, hP, hK, hD0, hE⟩ := hp
  have hts := atoms_spec (ws := (Cond.code (⟨"NumberDress$Code", "sectionForText", "()I"⟩ : MethodName) prog_2_method_11_code 3 (some .int) :: zT)) B.pre
  have hown : s.vm.findClass "NumberDress$Code" = some m.cls := findClass_of_methodNamed B.named
  have hc : zC p s m _ meth c prog_2_method_11_code (some .int) 3 "NumberDress$Code" := ⟨B.exec, B.bytes, B.returns, hml, hown, fun w h => hts w (List.mem_cons_of_mem _ h), B.notSynchronized⟩
  subst hsz
  have hD := hD0.self (sz := s.heap.size)
  generalize hAe : va_A [(h0, .inr (1, o_Code I0 h1 a0_2 a0_3)), (h1, .inl (cA1, 4, .inr (.inr (.inr (.inr (zra ad1 4)))))), ((ad1 0), .inr (9, o_Section I2)), ((ad1 1), .inr (9, o_Section I3)), ((ad1 2), .inr (9, o_Section I4)), ((ad1 3), .inr (9, o_Section I5))] s.heap.size = A at hD hE ⊢
  have hA : ∀ q : Nat, s.heap.size ≤ q → A q := fun q h => by rw [← hAe]; exact Or.inr h
  have hl := lv_entry ([.ref h0]) (n := 3) (Nat.le_of_ble_eq_true rfl)
  rw [lg_entry_eq]
  exact b_Code_sectionForText_0 hc hA hE hl hK hP hD va_S.rf hv
theorem d_Code_sectionFor_0 : decode prog_2_method_10_code 0 = .ok (.aload_n 1, 1) := by decide +kernel
theorem d_Code_sectionFor_1 : decode prog_2_method_10_code 1 = .ok (.getfield 43, 3) := by decide +kernel
theorem d_Code_sectionFor_4 : decode prog_2_method_10_code 4 = .ok (.ifCond .eq 8, 3) := by decide +kernel
theorem d_Code_sectionFor_7 : decode prog_2_method_10_code 7 = .ok (.aload_n 0, 1) := by decide +kernel
theorem d_Code_sectionFor_8 : decode prog_2_method_10_code 8 = .ok (.invokevirtual 49, 3) := by decide +kernel
theorem d_Code_sectionFor_11 : decode prog_2_method_10_code 11 = .ok (.ireturn, 1) := by decide +kernel
theorem d_Code_sectionFor_12 : decode prog_2_method_10_code 12 = .ok (.aload_n 0, 1) := by decide +kernel
theorem d_Code_sectionFor_13 : decode prog_2_method_10_code 13 = .ok (.invokevirtual 53, 3) := by decide +kernel
theorem d_Code_sectionFor_16 : decode prog_2_method_10_code 16 = .ok (.istore_n 2, 1) := by decide +kernel
theorem d_Code_sectionFor_17 : decode prog_2_method_10_code 17 = .ok (.iload_n 2, 1) := by decide +kernel
theorem d_Code_sectionFor_18 : decode prog_2_method_10_code 18 = .ok (.ifCond .ne 5, 3) := by decide +kernel
theorem d_Code_sectionFor_21 : decode prog_2_method_10_code 21 = .ok (.iconst (-1), 1) := by decide +kernel
theorem d_Code_sectionFor_22 : decode prog_2_method_10_code 22 = .ok (.ireturn, 1) := by decide +kernel
theorem d_Code_sectionFor_23 : decode prog_2_method_10_code 23 = .ok (.iload_n 2, 1) := by decide +kernel
theorem d_Code_sectionFor_24 : decode prog_2_method_10_code 24 = .ok (.iconst 2, 1) := by decide +kernel
theorem d_Code_sectionFor_25 : decode prog_2_method_10_code 25 = .ok (.if_icmp .lt 12, 3) := by decide +kernel
theorem d_Code_sectionFor_28 : decode prog_2_method_10_code 28 = .ok (.aload_n 1, 1) := by decide +kernel
theorem d_Code_sectionFor_29 : decode prog_2_method_10_code 29 = .ok (.getfield 56, 3) := by decide +kernel
theorem d_Code_sectionFor_32 : decode prog_2_method_10_code 32 = .ok (.ifCond .eq 5, 3) := by decide +kernel
theorem d_Code_sectionFor_35 : decode prog_2_method_10_code 35 = .ok (.iconst 1, 1) := by decide +kernel
theorem d_Code_sectionFor_36 : decode prog_2_method_10_code 36 = .ok (.ireturn, 1) := by decide +kernel
theorem d_Code_sectionFor_37 : decode prog_2_method_10_code 37 = .ok (.iload_n 2, 1) := by decide +kernel
theorem d_Code_sectionFor_38 : decode prog_2_method_10_code 38 = .ok (.iconst 3, 1) := by decide +kernel
theorem d_Code_sectionFor_39 : decode prog_2_method_10_code 39 = .ok (.if_icmp .ne 16, 3) := by decide +kernel
theorem d_Code_sectionFor_42 : decode prog_2_method_10_code 42 = .ok (.aload_n 1, 1) := by decide +kernel
theorem d_Code_sectionFor_43 : decode prog_2_method_10_code 43 = .ok (.getfield 59, 3) := by decide +kernel
theorem d_Code_sectionFor_46 : decode prog_2_method_10_code 46 = .ok (.lconst 0, 1) := by decide +kernel
theorem d_Code_sectionFor_47 : decode prog_2_method_10_code 47 = .ok (.lcmp, 1) := by decide +kernel
theorem d_Code_sectionFor_48 : decode prog_2_method_10_code 48 = .ok (.ifCond .ne 7, 3) := by decide +kernel
theorem d_Code_sectionFor_51 : decode prog_2_method_10_code 51 = .ok (.iconst 2, 1) := by decide +kernel
theorem d_Code_sectionFor_52 : decode prog_2_method_10_code 52 = .ok (.goto 4, 3) := by decide +kernel
theorem d_Code_sectionFor_55 : decode prog_2_method_10_code 55 = .ok (.iconst 0, 1) := by decide +kernel
theorem d_Code_sectionFor_56 : decode prog_2_method_10_code 56 = .ok (.ireturn, 1) := by decide +kernel
set_option maxHeartbeats 4000000 in
set_option maxRecDepth 100000 in
theorem b_Code_sectionFor_11 {h0 : Nat} {a0_2 : Nat} {a0_3 : Nat} {h1 : Nat} {a1_4 : Nat} {h2 : Nat} {cA2 : ClassId} {ad2 : Nat → Nat} {I0 : Nat → Int32} {I1 : Nat → Int32} {J1 : Nat → Int64} {I3 : Nat → Int32} {I4 : Nat → Int32} {I5 : Nat → Int32} {I6 : Nat → Int32} {s0 : Int32}  {Z : Int32 → Unit → Prop} {H : Heap} {locs : List Loc} {ls : Array Slot} (hc : zC p s m args meth c prog_2_method_10_code (some .int) 3 "NumberDress$Code") (hA : ∀ q : Nat, s.heap.size ≤ q → A q) (hE : zE gE A s) (hl : lv_has ls 3 []) (hK : va_K (dC, dI) zCl [(cA2, .object "NumberDress$Section")] s) (hP : va_P (dC, dI) zCl [(h0, .inr (1, o_Code I0 h2 a0_2 a0_3)), (h1, .inr (11, o_Value I1 J1 a1_4)), (h2, .inl (cA2, 4, .inr (.inr (.inr (.inr (zra ad2 4)))))), ((ad2 0), .inr (9, o_Section I3)), ((ad2 1), .inr (9, o_Section I4)), ((ad2 2), .inr (9, o_Section I5)), ((ad2 3), .inr (9, o_Section I6))] H) (hD : va_D A [(h0, .inr (1, o_Code I0 h2 a0_2 a0_3)), (h1, .inr (11, o_Value I1 J1 a1_4)), (h2, .inl (cA2, 4, .inr (.inr (.inr (.inr (zra ad2 4)))))), ((ad2 0), .inr (9, o_Section I3)), ((ad2 1), .inr (9, o_Section I4)), ((ad2 2), .inr (9, o_Section I5)), ((ad2 3), .inr (9, o_Section I6))]) (hS : va_S A s.heap H locs) (hv : v_Code_sectionFor_11 I0 I1 J1 I3 I4 I5 I6 s0  Z) : W p l e (headSpec (Cond.code (⟨"NumberDress$Code", "sectionFor", "(LNumberDress$Value;)I"⟩ : MethodName) prog_2_method_10_code 3 (some .int) :: zT) { frames := 2, cells := 0, slots := 0, locals := 44 }).room s m args below meth c H locs 0 0 (MQ below (va_Qi Z (zB (dC, dI) zCl [(cA2, .object "NumberDress$Section")] A (fun u : Unit => [(h0, .inr (1, o_Code I0 h2 a0_2 a0_3)), (h1, .inr (11, o_Value I1 J1 a1_4)), (h2, .inl (cA2, 4, .inr (.inr (.inr (.inr (zra ad2 4)))))), ((ad2 0), .inr (9, o_Section I3)), ((ad2 1), .inr (9, o_Section I4)), ((ad2 2), .inr (9, o_Section I5)), ((ad2 3), .inr (9, o_Section I6))])) A) args s 0 0 A) (F0 m 11 ls [.int s0]) := by
  obtain ⟨hx, hb, hr, hml, hown, ht, hlocks⟩ := id hc
  unfold v_Code_sectionFor_11 at hv
  exact W.iret (v := s0) hx hb hr (fun t ht hW => ⟨⟨_, (), rfl, hv, ⟨by rw [ht]; exact hP, va_K.moved hW.alike hK, hD⟩⟩, hS.F ht⟩) hS.2.2 d_Code_sectionFor_11
set_option maxHeartbeats 4000000 in
set_option maxRecDepth 100000 in
theorem b_Code_sectionFor_37 {h0 : Nat} {a0_2 : Nat} {a0_3 : Nat} {h1 : Nat} {a1_4 : Nat} {h2 : Nat} {cA2 : ClassId} {ad2 : Nat → Nat} {I0 : Nat → Int32} {I1 : Nat → Int32} {J1 : Nat → Int64} {I3 : Nat → Int32} {I4 : Nat → Int32} {I5 : Nat → Int32} {I6 : Nat → Int32} {x2 : Int32}  {Z : Int32 → Unit → Prop} {H : Heap} {locs : List Loc} {ls : Array Slot} (hc : zC p s m args meth c prog_2_method_10_code (some .int) 3 "NumberDress$Code") (hA : ∀ q : Nat, s.heap.size ≤ q → A q) (hE : zE gE A s) (hl : lv_has ls 3 [(1, .ref h1), (2, .int x2)]) (hK : va_K (dC, dI) zCl [(cA2, .object "NumberDress$Section")] s) (hP : va_P (dC, dI) zCl [(h0, .inr (1, o_Code I0 h2 a0_2 a0_3)), (h1, .inr (11, o_Value I1 J1 a1_4)), (h2, .inl (cA2, 4, .inr (.inr (.inr (.inr (zra ad2 4)))))), ((ad2 0), .inr (9, o_Section I3)), ((ad2 1), .inr (9, o_Section I4)), ((ad2 2), .inr (9, o_Section I5)), ((ad2 3), .inr (9, o_Section I6))] H) (hD : va_D A [(h0, .inr (1, o_Code I0 h2 a0_2 a0_3)), (h1, .inr (11, o_Value I1 J1 a1_4)), (h2, .inl (cA2, 4, .inr (.inr (.inr (.inr (zra ad2 4)))))), ((ad2 0), .inr (9, o_Section I3)), ((ad2 1), .inr (9, o_Section I4)), ((ad2 2), .inr (9, o_Section I5)), ((ad2 3), .inr (9, o_Section I6))]) (hS : va_S A s.heap H locs) (hv : v_Code_sectionFor_37 I0 I1 J1 I3 I4 I5 I6 x2  Z) : W p l e (headSpec (Cond.code (⟨"NumberDress$Code", "sectionFor", "(LNumberDress$Value;)I"⟩ : MethodName) prog_2_method_10_code 3 (some .int) :: zT) { frames := 2, cells := 0, slots := 0, locals := 44 }).room s m args below meth c H locs 0 0 (MQ below (va_Qi Z (zB (dC, dI) zCl [(cA2, .object "NumberDress$Section")] A (fun u : Unit => [(h0, .inr (1, o_Code I0 h2 a0_2 a0_3)), (h1, .inr (11, o_Value I1 J1 a1_4)), (h2, .inl (cA2, 4, .inr (.inr (.inr (.inr (zra ad2 4)))))), ((ad2 0), .inr (9, o_Section I3)), ((ad2 1), .inr (9, o_Section I4)), ((ad2 2), .inr (9, o_Section I5)), ((ad2 3), .inr (9, o_Section I6))])) A) args s 0 0 A) (F0 m 37 ls []) := by
  obtain ⟨hx, hb, hr, hml, hown, ht, hlocks⟩ := id hc
  unfold v_Code_sectionFor_37 at hv
  refine lv_iload_n hx hb d_Code_sectionFor_37 rfl (lv_at hl 1 rfl) ?_
  refine lv_iconst (v := (3 : Int32)) hx hb d_Code_sectionFor_38 (by decide) ?_
  refine lv_icmp_ne (tgt := 55) hx hb d_Code_sectionFor_39 (by decide) (fun c_1 => ?_) (fun c_1 => ?_)
  · have hv := hv.1 c_1
    refine lv_iconst (v := (0 : Int32)) hx hb d_Code_sectionFor_55 (by decide) ?_
    exact W.iret (v := (0 : Int32)) hx hb hr (fun t ht hW => ⟨⟨_, (), rfl, hv, ⟨by rw [ht]; exact hP, va_K.moved hW.alike hK, hD⟩⟩, hS.F ht⟩) hS.2.2 d_Code_sectionFor_56
  · have hv := hv.2 c_1
    refine lv_aload_n hx hb d_Code_sectionFor_42 rfl (lv_at hl 0 rfl) ?_
    refine va_get (D := (dC, dI)) (ci := 11) (v := .long (J1 2)) (C := "NumberDress$Value") (T := T_Value) (N := 6) hx hb ht zin_Value hown hK hP 1 rfl rfl 2 (by decide) (ht _ zw_303) (fun _ h9 => h9) rfl d_Code_sectionFor_43 ?_
    refine lv_lconst (v := (0 : Int64)) hx hb d_Code_sectionFor_46 (by decide) ?_
    refine z_lcmp_ne (tgt := 55) hx hb d_Code_sectionFor_47 d_Code_sectionFor_48 (by decide) (fun c_2 => ?_) (fun c_2 => ?_)
    · have hv := hv.1 c_2
      refine lv_iconst (v := (0 : Int32)) hx hb d_Code_sectionFor_55 (by decide) ?_
      exact W.iret (v := (0 : Int32)) hx hb hr (fun t ht hW => ⟨⟨_, (), rfl, hv, ⟨by rw [ht]; exact hP, va_K.moved hW.alike hK, hD⟩⟩, hS.F ht⟩) hS.2.2 d_Code_sectionFor_56
    · have hv := hv.2 c_2
      refine lv_iconst (v := (2 : Int32)) hx hb d_Code_sectionFor_51 (by decide) ?_
      refine lv_goto (tgt := 56) hx hb d_Code_sectionFor_52 (by decide) ?_
      exact W.iret (v := (2 : Int32)) hx hb hr (fun t ht hW => ⟨⟨_, (), rfl, hv, ⟨by rw [ht]; exact hP, va_K.moved hW.alike hK, hD⟩⟩, hS.F ht⟩) hS.2.2 d_Code_sectionFor_56
set_option maxHeartbeats 4000000 in
set_option maxRecDepth 100000 in
theorem b_Code_sectionFor_16 {h0 : Nat} {a0_2 : Nat} {a0_3 : Nat} {h1 : Nat} {a1_4 : Nat} {h2 : Nat} {cA2 : ClassId} {ad2 : Nat → Nat} {I0 : Nat → Int32} {I1 : Nat → Int32} {J1 : Nat → Int64} {I3 : Nat → Int32} {I4 : Nat → Int32} {I5 : Nat → Int32} {I6 : Nat → Int32} {s0 : Int32}  {Z : Int32 → Unit → Prop} {H : Heap} {locs : List Loc} {ls : Array Slot} (hc : zC p s m args meth c prog_2_method_10_code (some .int) 3 "NumberDress$Code") (hA : ∀ q : Nat, s.heap.size ≤ q → A q) (hE : zE gE A s) (hl : lv_has ls 3 [(1, .ref h1)]) (hK : va_K (dC, dI) zCl [(cA2, .object "NumberDress$Section")] s) (hP : va_P (dC, dI) zCl [(h0, .inr (1, o_Code I0 h2 a0_2 a0_3)), (h1, .inr (11, o_Value I1 J1 a1_4)), (h2, .inl (cA2, 4, .inr (.inr (.inr (.inr (zra ad2 4)))))), ((ad2 0), .inr (9, o_Section I3)), ((ad2 1), .inr (9, o_Section I4)), ((ad2 2), .inr (9, o_Section I5)), ((ad2 3), .inr (9, o_Section I6))] H) (hD : va_D A [(h0, .inr (1, o_Code I0 h2 a0_2 a0_3)), (h1, .inr (11, o_Value I1 J1 a1_4)), (h2, .inl (cA2, 4, .inr (.inr (.inr (.inr (zra ad2 4)))))), ((ad2 0), .inr (9, o_Section I3)), ((ad2 1), .inr (9, o_Section I4)), ((ad2 2), .inr (9, o_Section I5)), ((ad2 3), .inr (9, o_Section I6))]) (hS : va_S A s.heap H locs) (hv : v_Code_sectionFor_16 I0 I1 J1 I3 I4 I5 I6 s0  Z) : W p l e (headSpec (Cond.code (⟨"NumberDress$Code", "sectionFor", "(LNumberDress$Value;)I"⟩ : MethodName) prog_2_method_10_code 3 (some .int) :: zT) { frames := 2, cells := 0, slots := 0, locals := 44 }).room s m args below meth c H locs 0 0 (MQ below (va_Qi Z (zB (dC, dI) zCl [(cA2, .object "NumberDress$Section")] A (fun u : Unit => [(h0, .inr (1, o_Code I0 h2 a0_2 a0_3)), (h1, .inr (11, o_Value I1 J1 a1_4)), (h2, .inl (cA2, 4, .inr (.inr (.inr (.inr (zra ad2 4)))))), ((ad2 0), .inr (9, o_Section I3)), ((ad2 1), .inr (9, o_Section I4)), ((ad2 2), .inr (9, o_Section I5)), ((ad2 3), .inr (9, o_Section I6))])) A) args s 0 0 A) (F0 m 16 ls [.int s0]) := by
  obtain ⟨hx, hb, hr, hml, hown, ht, hlocks⟩ := id hc
  unfold v_Code_sectionFor_16 at hv
  refine lv_istore_n (lv' := [(2, .int s0), (1, .ref h1)]) hx hb d_Code_sectionFor_16 rfl hl (by decide) rfl (fun ls hl => ?_)
  refine lv_iload_n hx hb d_Code_sectionFor_17 rfl (lv_at hl 0 rfl) ?_
  refine lv_if_ne (tgt := 23) hx hb d_Code_sectionFor_18 (by decide) (fun c_1 => ?_) (fun c_1 => ?_)
  · have hv := hv.1 c_1
    refine lv_iload_n hx hb d_Code_sectionFor_23 rfl (lv_at hl 0 rfl) ?_
    refine lv_iconst (v := (2 : Int32)) hx hb d_Code_sectionFor_24 (by decide) ?_
    refine lv_icmp_lt (tgt := 37) hx hb d_Code_sectionFor_25 (by decide) (fun c_2 => ?_) (fun c_2 => ?_)
    · have hv := hv.1 c_2
      exact b_Code_sectionFor_37 hc hA hE  (lv_sub hl [1, 0] rfl) hK hP hD hS hv
    · have hv := hv.2 c_2
      refine lv_aload_n hx hb d_Code_sectionFor_28 rfl (lv_at hl 1 rfl) ?_
      refine va_get (D := (dC, dI)) (ci := 11) (v := .int (I1 1)) (C := "NumberDress$Value") (T := T_Value) (N := 6) hx hb ht zin_Value hown hK hP 1 rfl rfl 1 (by decide) (ht _ zw_298) (fun _ h9 => h9) rfl d_Code_sectionFor_29 ?_
      refine lv_if_eq (tgt := 37) hx hb d_Code_sectionFor_32 (by decide) (fun c_3 => ?_) (fun c_3 => ?_)
      · have hv := hv.1 c_3
        exact b_Code_sectionFor_37 hc hA hE  (lv_sub hl [1, 0] rfl) hK hP hD hS hv
      · have hv := hv.2 c_3
        refine lv_iconst (v := (1 : Int32)) hx hb d_Code_sectionFor_35 (by decide) ?_
        exact W.iret (v := (1 : Int32)) hx hb hr (fun t ht hW => ⟨⟨_, (), rfl, hv, ⟨by rw [ht]; exact hP, va_K.moved hW.alike hK, hD⟩⟩, hS.F ht⟩) hS.2.2 d_Code_sectionFor_36
  · have hv := hv.2 c_1
    refine lv_iconst (v := (-1 : Int32)) hx hb d_Code_sectionFor_21 (by decide) ?_
    exact W.iret (v := (-1 : Int32)) hx hb hr (fun t ht hW => ⟨⟨_, (), rfl, hv, ⟨by rw [ht]; exact hP, va_K.moved hW.alike hK, hD⟩⟩, hS.F ht⟩) hS.2.2 d_Code_sectionFor_22
set_option maxHeartbeats 4000000 in
set_option maxRecDepth 100000 in
theorem b_Code_sectionFor_0 {h0 : Nat} {a0_2 : Nat} {a0_3 : Nat} {h1 : Nat} {a1_4 : Nat} {h2 : Nat} {cA2 : ClassId} {ad2 : Nat → Nat} {I0 : Nat → Int32} {I1 : Nat → Int32} {J1 : Nat → Int64} {I3 : Nat → Int32} {I4 : Nat → Int32} {I5 : Nat → Int32} {I6 : Nat → Int32}  {Z : Int32 → Unit → Prop} {H : Heap} {locs : List Loc} {ls : Array Slot} (hc : zC p s m args meth c prog_2_method_10_code (some .int) 3 "NumberDress$Code") (hA : ∀ q : Nat, s.heap.size ≤ q → A q) (hE : zE gE A s) (hl : lv_has ls 3 [(0, .ref h0), (1, .ref h1)]) (hK : va_K (dC, dI) zCl [(cA2, .object "NumberDress$Section")] s) (hP : va_P (dC, dI) zCl [(h0, .inr (1, o_Code I0 h2 a0_2 a0_3)), (h1, .inr (11, o_Value I1 J1 a1_4)), (h2, .inl (cA2, 4, .inr (.inr (.inr (.inr (zra ad2 4)))))), ((ad2 0), .inr (9, o_Section I3)), ((ad2 1), .inr (9, o_Section I4)), ((ad2 2), .inr (9, o_Section I5)), ((ad2 3), .inr (9, o_Section I6))] H) (hD : va_D A [(h0, .inr (1, o_Code I0 h2 a0_2 a0_3)), (h1, .inr (11, o_Value I1 J1 a1_4)), (h2, .inl (cA2, 4, .inr (.inr (.inr (.inr (zra ad2 4)))))), ((ad2 0), .inr (9, o_Section I3)), ((ad2 1), .inr (9, o_Section I4)), ((ad2 2), .inr (9, o_Section I5)), ((ad2 3), .inr (9, o_Section I6))]) (hS : va_S A s.heap H locs) (hv : v_Code_sectionFor_0 I0 I1 J1 I3 I4 I5 I6  Z) : W p l e (headSpec (Cond.code (⟨"NumberDress$Code", "sectionFor", "(LNumberDress$Value;)I"⟩ : MethodName) prog_2_method_10_code 3 (some .int) :: zT) { frames := 2, cells := 0, slots := 0, locals := 44 }).room s m args below meth c H locs 0 0 (MQ below (va_Qi Z (zB (dC, dI) zCl [(cA2, .object "NumberDress$Section")] A (fun u : Unit => [(h0, .inr (1, o_Code I0 h2 a0_2 a0_3)), (h1, .inr (11, o_Value I1 J1 a1_4)), (h2, .inl (cA2, 4, .inr (.inr (.inr (.inr (zra ad2 4)))))), ((ad2 0), .inr (9, o_Section I3)), ((ad2 1), .inr (9, o_Section I4)), ((ad2 2), .inr (9, o_Section I5)), ((ad2 3), .inr (9, o_Section I6))])) A) args s 0 0 A) (F0 m 0 ls []) := by
  obtain ⟨hx, hb, hr, hml, hown, ht, hlocks⟩ := id hc
  unfold v_Code_sectionFor_0 at hv
  refine lv_aload_n hx hb d_Code_sectionFor_0 rfl (lv_at hl 1 rfl) ?_
  refine va_get (D := (dC, dI)) (ci := 11) (v := .int (I1 0)) (C := "NumberDress$Value") (T := T_Value) (N := 6) hx hb ht zin_Value hown hK hP 1 rfl rfl 0 (by decide) (ht _ zw_295) (fun _ h9 => h9) rfl d_Code_sectionFor_1 ?_
  refine lv_if_eq (tgt := 12) hx hb d_Code_sectionFor_4 (by decide) (fun c_1 => ?_) (fun c_1 => ?_)
  · have hv := hv.1 c_1
    refine lv_aload_n hx hb d_Code_sectionFor_12 rfl (lv_at hl 0 rfl) ?_
    refine z_calli (wc := [(h0, .inr (1, o_Code I0 h2 a0_2 a0_3)), (h2, .inl (cA2, 4, .inr (.inr (.inr (.inr (zra ad2 4)))))), ((ad2 0), .inr (9, o_Section I3)), ((ad2 1), .inr (9, o_Section I4)), ((ad2 2), .inr (9, o_Section I5)), ((ad2 3), .inr (9, o_Section I6))]) (wr := [(h1, .inr (11, o_Value I1 J1 a1_4))]) [0, 2, 3, 4, 5, 6] [1] (va_runV (As := []) (rest := []) ⟨hx, hb, hml, hown, ht⟩ (m_Code_numberSections l dC dI hv) ⟨(callB_of 0 ht (zG_in zi_Code_numberSections) rfl rfl rfl (ht _ zw_111) (ht _ zw_854) zh_Code_numberSections ⟨Nat.le_of_ble_eq_true rfl, Nat.le_of_ble_eq_true rfl⟩), (ht _ zw_855), (ht _ zw_856)⟩ ⟨zPc_blind, va_recv hK hP (ci := 1) (q0 := 0) rfl rfl, zPc_pre hP hK hD hS hA hE [0, 2, 3, 4, 5, 6] [0] rfl rfl (by decide) rfl⟩ rfl rfl hl.1 rfl (lv_room (Nat.le_of_ble_eq_true rfl)) d_Code_sectionFor_13 ⟨Nat.le_of_ble_eq_true rfl, Nat.le_of_ble_eq_true rfl⟩) hP hD hS hA rfl rfl (by decide) (by decide) (fun r u H locs hv hP hD hS => ?_)
    have hP : va_P (dC, dI) zCl [(h0, .inr (1, o_Code I0 h2 a0_2 a0_3)), (h1, .inr (11, o_Value I1 J1 a1_4)), (h2, .inl (cA2, 4, .inr (.inr (.inr (.inr (zra ad2 4)))))), ((ad2 0), .inr (9, o_Section I3)), ((ad2 1), .inr (9, o_Section I4)), ((ad2 2), .inr (9, o_Section I5)), ((ad2 3), .inr (9, o_Section I6))] H := hP.sub [1, 0, 2, 3, 4, 5, 6] rfl
    have hD : va_D A [(h0, .inr (1, o_Code I0 h2 a0_2 a0_3)), (h1, .inr (11, o_Value I1 J1 a1_4)), (h2, .inl (cA2, 4, .inr (.inr (.inr (.inr (zra ad2 4)))))), ((ad2 0), .inr (9, o_Section I3)), ((ad2 1), .inr (9, o_Section I4)), ((ad2 2), .inr (9, o_Section I5)), ((ad2 3), .inr (9, o_Section I6))] := hD.sub [1, 0, 2, 3, 4, 5, 6] (by decide) rfl
    exact b_Code_sectionFor_16 hc hA hE  (lv_sub hl [1] rfl) hK hP hD hS hv
  · have hv := hv.2 c_1
    refine lv_aload_n hx hb d_Code_sectionFor_7 rfl (lv_at hl 0 rfl) ?_
    refine z_calli (wc := [(h0, .inr (1, o_Code I0 h2 a0_2 a0_3)), (h2, .inl (cA2, 4, .inr (.inr (.inr (.inr (zra ad2 4)))))), ((ad2 0), .inr (9, o_Section I3)), ((ad2 1), .inr (9, o_Section I4)), ((ad2 2), .inr (9, o_Section I5)), ((ad2 3), .inr (9, o_Section I6))]) (wr := [(h1, .inr (11, o_Value I1 J1 a1_4))]) [0, 2, 3, 4, 5, 6] [1] (va_runV (As := []) (rest := []) ⟨hx, hb, hml, hown, ht⟩ (m_Code_sectionForText l dC dI hv) ⟨(callB_of 0 ht (zG_in zi_Code_sectionForText) rfl rfl rfl (ht _ zw_111) (ht _ zw_846) zh_Code_sectionForText ⟨Nat.le_of_ble_eq_true rfl, Nat.le_of_ble_eq_true rfl⟩), (ht _ zw_848), (ht _ zw_36)⟩ ⟨zPc_blind, va_recv hK hP (ci := 1) (q0 := 0) rfl rfl, zPc_pre hP hK hD hS hA hE [0, 2, 3, 4, 5, 6] [0] rfl rfl (by decide) rfl⟩ rfl rfl hl.1 rfl (lv_room (Nat.le_of_ble_eq_true rfl)) d_Code_sectionFor_8 ⟨Nat.le_of_ble_eq_true rfl, Nat.le_of_ble_eq_true rfl⟩) hP hD hS hA rfl rfl (by decide) (by decide) (fun r u H locs hv hP hD hS => ?_)
    have hP : va_P (dC, dI) zCl [(h0, .inr (1, o_Code I0 h2 a0_2 a0_3)), (h1, .inr (11, o_Value I1 J1 a1_4)), (h2, .inl (cA2, 4, .inr (.inr (.inr (.inr (zra ad2 4)))))), ((ad2 0), .inr (9, o_Section I3)), ((ad2 1), .inr (9, o_Section I4)), ((ad2 2), .inr (9, o_Section I5)), ((ad2 3), .inr (9, o_Section I6))] H := hP.sub [1, 0, 2, 3, 4, 5, 6] rfl
    have hD : va_D A [(h0, .inr (1, o_Code I0 h2 a0_2 a0_3)), (h1, .inr (11, o_Value I1 J1 a1_4)), (h2, .inl (cA2, 4, .inr (.inr (.inr (.inr (zra ad2 4)))))), ((ad2 0), .inr (9, o_Section I3)), ((ad2 1), .inr (9, o_Section I4)), ((ad2 2), .inr (9, o_Section I5)), ((ad2 3), .inr (9, o_Section I6))] := hD.sub [1, 0, 2, 3, 4, 5, 6] (by decide) rfl
    exact b_Code_sectionFor_11 hc hA hE  (lv_sub hl [] rfl) hK hP hD hS hv
theorem zi_Code_sectionFor : Cond.code (⟨"NumberDress$Code", "sectionFor", "(LNumberDress$Value;)I"⟩ : MethodName) prog_2_method_10_code 3 (some .int) ∈ zT := zw_845
theorem zh_Code_sectionFor : (((⟨"NumberDress$Code", "sectionFor", "(LNumberDress$Value;)I"⟩ : MethodName)).cls ≠ "java/lang/invoke/MethodHandle" ∧ ((⟨"NumberDress$Code", "sectionFor", "(LNumberDress$Value;)I"⟩ : MethodName)).cls ≠ "java/lang/invoke/VarHandle" ∧ (parseMethodDescriptor ((⟨"NumberDress$Code", "sectionFor", "(LNumberDress$Value;)I"⟩ : MethodName)).desc).map (fun d => d.parameters.length) = some 1) := by decide +kernel
set_option maxHeartbeats 4000000 in
set_option maxRecDepth 100000 in
theorem m_Code_sectionFor (l : Launch) (dC : Nat → ClassId) (dI : Nat → Nat → Nat) {gE : zG} {h0 : Nat} {a0_2 : Nat} {a0_3 : Nat} {h1 : Nat} {a1_4 : Nat} {h2 : Nat} {cA2 : ClassId} {ad2 : Nat → Nat} {I0 : Nat → Int32} {I1 : Nat → Int32} {J1 : Nat → Int64} {I3 : Nat → Int32} {I4 : Nat → Int32} {I5 : Nat → Int32} {I6 : Nat → Int32} {sz : Nat} {Z : Int32 → Unit → Prop} (hv : v_Code_sectionFor_0 I0 I1 J1 I3 I4 I5 I6 Z) : Met l (⟨"NumberDress$Code", "sectionFor", "(LNumberDress$Value;)I"⟩ : MethodName) (Cond.code (⟨"NumberDress$Code", "sectionFor", "(LNumberDress$Value;)I"⟩ : MethodName) prog_2_method_10_code 3 (some .int) :: zT) { frames := 2, cells := 0, slots := 0, locals := 44 } (zPc gE (dC, dI) zCl [(cA2, .object "NumberDress$Section")] [.ref h0, .ref h1] sz [(h0, .inr (1, o_Code I0 h2 a0_2 a0_3)), (h1, .inr (11, o_Value I1 J1 a1_4)), (h2, .inl (cA2, 4, .inr (.inr (.inr (.inr (zra ad2 4)))))), ((ad2 0), .inr (9, o_Section I3)), ((ad2 1), .inr (9, o_Section I4)), ((ad2 2), .inr (9, o_Section I5)), ((ad2 3), .inr (9, o_Section I6))]) (va_Qi Z (zB (dC, dI) zCl [(cA2, .object "NumberDress$Section")] (va_A [(h0, .inr (1, o_Code I0 h2 a0_2 a0_3)), (h1, .inr (11, o_Value I1 J1 a1_4)), (h2, .inl (cA2, 4, .inr (.inr (.inr (.inr (zra ad2 4)))))), ((ad2 0), .inr (9, o_Section I3)), ((ad2 1), .inr (9, o_Section I4)), ((ad2 2), .inr (9, o_Section I5)), ((ad2 3), .inr (9, o_Section I6))] sz) (fun u : Unit => [(h0, .inr (1, o_Code I0 h2 a0_2 a0_3)), (h1, .inr (11, o_Value I1 J1 a1_4)), (h2, .inl (cA2, 4, .inr (.inr (.inr (.inr (zra ad2 4)))))), ((ad2 0), .inr (9, o_Section I3)), ((ad2 1), .inr (9, o_Section I4)), ((ad2 2), .inr (9, o_Section I5)), ((ad2 3), .inr (9, o_Section I6))])) (va_A [(h0, .inr (1, o_Code I0 h2 a0_2 a0_3)), (h1, .inr (11, o_Value I1 J1 a1_4)), (h2, .inl (cA2, 4, .inr (.inr (.inr (.inr (zra ad2 4)))))), ((ad2 0), .inr (9, o_Section I3)), ((ad2 1), .inr (9, o_Section I4)), ((ad2 2), .inr (9, o_Section I5)), ((ad2 3), .inr (9, o_Section I6))] sz)) 0 0 (va_A [(h0, .inr (1, o_Code I0 h2 a0_2 a0_3)), (h1, .inr (11, o_Value I1 J1 a1_4)), (h2, .inl (cA2, 4, .inr (.inr (.inr (.inr (zra ad2 4)))))), ((ad2 0), .inr (9, o_Section I3)), ((ad2 1), .inr (9, o_Section I4)), ((ad2 2), .inr (9, o_Section I5)), ((ad2 3), .inr (9, o_Section I6))] sz) := by
  refine Met.ofW (cc := prog_2_method_10_code) (maxL := 3) (ret := (some .int)) (by decide +kernel) rfl ?_
  intro p e s m args below meth c s₁ B hml hp
  obtain ⟨rfl, hsz, hP, hK, hD0, hE⟩ := hp
  have hts := atoms_spec (ws := (Cond.code (⟨"NumberDress$Code", "sectionFor", "(LNumberDress$Value;)I"⟩ : MethodName) prog_2_method_10_code 3 (some .int) :: zT)) B.pre
  have hown : s.vm.findClass "NumberDress$Code" = some m.cls := findClass_of_methodNamed B.named
  have hc : zC p s m _ meth c prog_2_method_10_code (some .int) 3 "NumberDress$Code" := ⟨B.exec, B.bytes, B.returns, hml, hown, fun w h => hts w (List.mem_cons_of_mem _ h), B.notSynchronized⟩
  subst hsz
  have hD := hD0.self (sz := s.heap.size)
  generalize hAe : va_A [(h0, .inr (1, o_Code I0 h2 a0_2 a0_3)), (h1, .inr (11, o_Value I1 J1 a1_4)), (h2, .inl (cA2, 4, .inr (.inr (.inr (.inr (zra ad2 4)))))), ((ad2 0), .inr (9, o_Section I3)), ((ad2 1), .inr (9, o_Section I4)), ((ad2 2), .inr (9, o_Section I5)), ((ad2 3), .inr (9, o_Section I6))] s.heap.size = A at hD hE ⊢
  have hA : ∀ q : Nat, s.heap.size ≤ q → A q := fun q h => by rw [← hAe]; exact Or.inr h
  have hl := lv_entry ([.ref h0, .ref h1]) (n := 3) (Nat.le_of_ble_eq_true rfl)
  rw [lg_entry_eq]
  exact b_Code_sectionFor_0 hc hA hE hl hK hP hD va_S.rf hv
theorem d_DateDresser_monthName_0 : decode prog_3_method_10_code 0 = .ok (.iload_n 0, 1) := by decide +kernel
theorem d_DateDresser_monthName_1 : decode prog_3_method_10_code 1 = .ok (.tableswitch 92 1 11 #[59, 62, 65, 68, 71, 74, 77, 80, 83, 86, 89], 59) := by decide +kernel
theorem d_DateDresser_monthName_60 : decode prog_3_method_10_code 60 = .ok (.ldc 168, 2) := by decide +kernel
theorem d_DateDresser_monthName_62 : decode prog_3_method_10_code 62 = .ok (.areturn, 1) := by decide +kernel
theorem d_DateDresser_monthName_63 : decode prog_3_method_10_code 63 = .ok (.ldc 170, 2) := by decide +kernel
theorem d_DateDresser_monthName_65 : decode prog_3_method_10_code 65 = .ok (.areturn, 1) := by decide +kernel
theorem d_DateDresser_monthName_66 : decode prog_3_method_10_code 66 = .ok (.ldc 172, 2) := by decide +kernel
theorem d_DateDresser_monthName_68 : decode prog_3_method_10_code 68 = .ok (.areturn, 1) := by decide +kernel
theorem d_DateDresser_monthName_69 : decode prog_3_method_10_code 69 = .ok (.ldc 174, 2) := by decide +kernel
theorem d_DateDresser_monthName_71 : decode prog_3_method_10_code 71 = .ok (.areturn, 1) := by decide +kernel
theorem d_DateDresser_monthName_72 : decode prog_3_method_10_code 72 = .ok (.ldc 176, 2) := by decide +kernel
theorem d_DateDresser_monthName_74 : decode prog_3_method_10_code 74 = .ok (.areturn, 1) := by decide +kernel
theorem d_DateDresser_monthName_75 : decode prog_3_method_10_code 75 = .ok (.ldc 178, 2) := by decide +kernel
theorem d_DateDresser_monthName_77 : decode prog_3_method_10_code 77 = .ok (.areturn, 1) := by decide +kernel
theorem d_DateDresser_monthName_78 : decode prog_3_method_10_code 78 = .ok (.ldc 180, 2) := by decide +kernel
theorem d_DateDresser_monthName_80 : decode prog_3_method_10_code 80 = .ok (.areturn, 1) := by decide +kernel
theorem d_DateDresser_monthName_81 : decode prog_3_method_10_code 81 = .ok (.ldc 182, 2) := by decide +kernel
theorem d_DateDresser_monthName_83 : decode prog_3_method_10_code 83 = .ok (.areturn, 1) := by decide +kernel
theorem d_DateDresser_monthName_84 : decode prog_3_method_10_code 84 = .ok (.ldc 184, 2) := by decide +kernel
theorem d_DateDresser_monthName_86 : decode prog_3_method_10_code 86 = .ok (.areturn, 1) := by decide +kernel
theorem d_DateDresser_monthName_87 : decode prog_3_method_10_code 87 = .ok (.ldc 186, 2) := by decide +kernel
theorem d_DateDresser_monthName_89 : decode prog_3_method_10_code 89 = .ok (.areturn, 1) := by decide +kernel
theorem d_DateDresser_monthName_90 : decode prog_3_method_10_code 90 = .ok (.ldc 188, 2) := by decide +kernel
theorem d_DateDresser_monthName_92 : decode prog_3_method_10_code 92 = .ok (.areturn, 1) := by decide +kernel
theorem d_DateDresser_monthName_93 : decode prog_3_method_10_code 93 = .ok (.ldc 190, 2) := by decide +kernel
theorem d_DateDresser_monthName_95 : decode prog_3_method_10_code 95 = .ok (.areturn, 1) := by decide +kernel
set_option maxHeartbeats 4000000 in
set_option maxRecDepth 100000 in
theorem b_DateDresser_monthName_0  {x0 : Int32}  {Z : Nat → Unit → Prop} {H : Heap} {locs : List Loc} {ls : Array Slot} (hc : zC p s m args meth c prog_3_method_10_code (some (.object "java/lang/String")) 1 "NumberDress$DateDresser") (hA : ∀ q : Nat, s.heap.size ≤ q → A q) (hE : zE gE A s) (hl : lv_has ls 1 [(0, .int x0)]) (hK : va_K (dC, dI) zCl [] s) (hP : va_P (dC, dI) zCl [] H) (hD : va_D A []) (hS : va_S A s.heap H locs) (hv : v_DateDresser_monthName_0 x0  Z) : W p l e (headSpec (Cond.code (⟨"NumberDress$DateDresser", "monthName", "(I)Ljava/lang/String;"⟩ : MethodName) prog_3_method_10_code 1 (some (.object "java/lang/String")) :: zT) { frames := 0, cells := 0, slots := 0, locals := 0 }).room s m args below meth c H locs 0 0 (MQ below (va_Qr (fun u : (Unit) × Nat => Z u.2 u.1) (fun (u : (Unit) × Nat) a t => a = gE.2.1 u.2 ∧ zB (dC, dI) zCl [] A (fun u : (Unit) × Nat => []) u t) A) args s 0 0 A) (F0 m 0 ls []) := by
  obtain ⟨hx, hb, hr, hml, hown, ht, hlocks⟩ := id hc
  unfold v_DateDresser_monthName_0 at hv
  refine lv_iload_n hx hb d_DateDresser_monthName_0 rfl (lv_at hl 0 rfl) ?_
  by_cases c_1 : x0 = (1 : Int32)
  · have hv := hv.1 c_1
    refine lv_tableIn (off := 59) (tgt := 60) hx hb d_DateDresser_monthName_1 (by rw [c_1] <;> decide) (by rw [c_1] <;> decide) (by rw [c_1] <;> rfl) (by decide) ?_
    refine va_ldcS hx hb hown (hE.str (i := 13) (by decide)) d_DateDresser_monthName_60 ?_
    exact W.aret (v := .ref (gE.2.1 13)) hx hb hr (Or.inl ⟨_, rfl⟩) (Or.inr ⟨_, rfl⟩) (fun t ht hW => ⟨⟨((), 13), _, rfl, hv, ⟨rfl, ⟨by rw [ht]; exact hP, va_K.moved hW.alike hK, hD⟩⟩⟩, hS.F ht⟩) hS.2.2 d_DateDresser_monthName_62
  have hv := hv.2 c_1
  by_cases c_2 : x0 = (2 : Int32)
  · have hv := hv.1 c_2
    refine lv_tableIn (off := 62) (tgt := 63) hx hb d_DateDresser_monthName_1 (by rw [c_2] <;> decide) (by rw [c_2] <;> decide) (by rw [c_2] <;> rfl) (by decide) ?_
    refine va_ldcS hx hb hown (hE.str (i := 14) (by decide)) d_DateDresser_monthName_63 ?_
    exact W.aret (v := .ref (gE.2.1 14)) hx hb hr (Or.inl ⟨_, rfl⟩) (Or.inr ⟨_, rfl⟩) (fun t ht hW => ⟨⟨((), 14), _, rfl, hv, ⟨rfl, ⟨by rw [ht]; exact hP, va_K.moved hW.alike hK, hD⟩⟩⟩, hS.F ht⟩) hS.2.2 d_DateDresser_monthName_65
  have hv := hv.2 c_2
  by_cases c_3 : x0 = (3 : Int32)
  · have hv := hv.1 c_3
    refine lv_tableIn (off := 65) (tgt := 66) hx hb d_DateDresser_monthName_1 (by rw [c_3] <;> decide) (by rw [c_3] <;> decide) (by rw [c_3] <;> rfl) (by decide) ?_
    refine va_ldcS hx hb hown (hE.str (i := 15) (by decide)) d_DateDresser_monthName_66 ?_
    exact W.aret (v := .ref (gE.2.1 15)) hx hb hr (Or.inl ⟨_, rfl⟩) (Or.inr ⟨_, rfl⟩) (fun t ht hW => ⟨⟨((), 15), _, rfl, hv, ⟨rfl, ⟨by rw [ht]; exact hP, va_K.moved hW.alike hK, hD⟩⟩⟩, hS.F ht⟩) hS.2.2 d_DateDresser_monthName_68
  have hv := hv.2 c_3
  by_cases c_4 : x0 = (4 : Int32)
  · have hv := hv.1 c_4
    refine lv_tableIn (off := 68) (tgt := 69) hx hb d_DateDresser_monthName_1 (by rw [c_4] <;> decide) (by rw [c_4] <;> decide) (by rw [c_4] <;> rfl) (by decide) ?_
    refine va_ldcS hx hb hown (hE.str (i := 16) (by decide)) d_DateDresser_monthName_69 ?_
    exact W.aret (v := .ref (gE.2.1 16)) hx hb hr (Or.inl ⟨_, rfl⟩) (Or.inr ⟨_, rfl⟩) (fun t ht hW => ⟨⟨((), 16), _, rfl, hv, ⟨rfl, ⟨by rw [ht]; exact hP, va_K.moved hW.alike hK, hD⟩⟩⟩, hS.F ht⟩) hS.2.2 d_DateDresser_monthName_71
  have hv := hv.2 c_4
  by_cases c_5 : x0 = (5 : Int32)
  · have hv := hv.1 c_5
    refine lv_tableIn (off := 71) (tgt := 72) hx hb d_DateDresser_monthName_1 (by rw [c_5] <;> decide) (by rw [c_5] <;> decide) (by rw [c_5] <;> rfl) (by decide) ?_
    refine va_ldcS hx hb hown (hE.str (i := 17) (by decide)) d_DateDresser_monthName_72 ?_
    exact W.aret (v := .ref (gE.2.1 17)) hx hb hr (Or.inl ⟨_, rfl⟩) (Or.inr ⟨_, rfl⟩) (fun t ht hW => ⟨⟨((), 17), _, rfl, hv, ⟨rfl, ⟨by rw [ht]; exact hP, va_K.moved hW.alike hK, hD⟩⟩⟩, hS.F ht⟩) hS.2.2 d_DateDresser_monthName_74
  have hv := hv.2 c_5
  by_cases c_6 : x0 = (6 : Int32)
  · have hv := hv.1 c_6
    refine lv_tableIn (off := 74) (tgt := 75) hx hb d_DateDresser_monthName_1 (by rw [c_6] <;> decide) (by rw [c_6] <;> decide) (by rw [c_6] <;> rfl) (by decide) ?_
    refine va_ldcS hx hb hown (hE.str (i := 18) (by decide)) d_DateDresser_monthName_75 ?_
    exact W.aret (v := .ref (gE.2.1 18)) hx hb hr (Or.inl ⟨_, rfl⟩) (Or.inr ⟨_, rfl⟩) (fun t ht hW => ⟨⟨((), 18), _, rfl, hv, ⟨rfl, ⟨by rw [ht]; exact hP, va_K.moved hW.alike hK, hD⟩⟩⟩, hS.F ht⟩) hS.2.2 d_DateDresser_monthName_77
  have hv := hv.2 c_6
  by_cases c_7 : x0 = (7 : Int32)
  · have hv := hv.1 c_7
    refine lv_tableIn (off := 77) (tgt := 78) hx hb d_DateDresser_monthName_1 (by rw [c_7] <;> decide) (by rw [c_7] <;> decide) (by rw [c_7] <;> rfl) (by decide) ?_
    refine va_ldcS hx hb hown (hE.str (i := 19) (by decide)) d_DateDresser_monthName_78 ?_
    exact W.aret (v := .ref (gE.2.1 19)) hx hb hr (Or.inl ⟨_, rfl⟩) (Or.inr ⟨_, rfl⟩) (fun t ht hW => ⟨⟨((), 19), _, rfl, hv, ⟨rfl, ⟨by rw [ht]; exact hP, va_K.moved hW.alike hK, hD⟩⟩⟩, hS.F ht⟩) hS.2.2 d_DateDresser_monthName_80
  have hv := hv.2 c_7
  by_cases c_8 : x0 = (8 : Int32)
  · have hv := hv.1 c_8
    refine lv_tableIn (off := 80) (tgt := 81) hx hb d_DateDresser_monthName_1 (by rw [c_8] <;> decide) (by rw [c_8] <;> decide) (by rw [c_8] <;> rfl) (by decide) ?_
    refine va_ldcS hx hb hown (hE.str (i := 20) (by decide)) d_DateDresser_monthName_81 ?_
    exact W.aret (v := .ref (gE.2.1 20)) hx hb hr (Or.inl ⟨_, rfl⟩) (Or.inr ⟨_, rfl⟩) (fun t ht hW => ⟨⟨((), 20), _, rfl, hv, ⟨rfl, ⟨by rw [ht]; exact hP, va_K.moved hW.alike hK, hD⟩⟩⟩, hS.F ht⟩) hS.2.2 d_DateDresser_monthName_83
  have hv := hv.2 c_8
  by_cases c_9 : x0 = (9 : Int32)
  · have hv := hv.1 c_9
    refine lv_tableIn (off := 83) (tgt := 84) hx hb d_DateDresser_monthName_1 (by rw [c_9] <;> decide) (by rw [c_9] <;> decide) (by rw [c_9] <;> rfl) (by decide) ?_
    refine va_ldcS hx hb hown (hE.str (i := 21) (by decide)) d_DateDresser_monthName_84 ?_
    exact W.aret (v := .ref (gE.2.1 21)) hx hb hr (Or.inl ⟨_, rfl⟩) (Or.inr ⟨_, rfl⟩) (fun t ht hW => ⟨⟨((), 21), _, rfl, hv, ⟨rfl, ⟨by rw [ht]; exact hP, va_K.moved hW.alike hK, hD⟩⟩⟩, hS.F ht⟩) hS.2.2 d_DateDresser_monthName_86
  have hv := hv.2 c_9
  by_cases c_10 : x0 = (10 : Int32)
  · have hv := hv.1 c_10
    refine lv_tableIn (off := 86) (tgt := 87) hx hb d_DateDresser_monthName_1 (by rw [c_10] <;> decide) (by rw [c_10] <;> decide) (by rw [c_10] <;> rfl) (by decide) ?_
    refine va_ldcS hx hb hown (hE.str (i := 22) (by decide)) d_DateDresser_monthName_87 ?_
    exact W.aret (v := .ref (gE.2.1 22)) hx hb hr (Or.inl ⟨_, rfl⟩) (Or.inr ⟨_, rfl⟩) (fun t ht hW => ⟨⟨((), 22), _, rfl, hv, ⟨rfl, ⟨by rw [ht]; exact hP, va_K.moved hW.alike hK, hD⟩⟩⟩, hS.F ht⟩) hS.2.2 d_DateDresser_monthName_89
  have hv := hv.2 c_10
  by_cases c_11 : x0 = (11 : Int32)
  · have hv := hv.1 c_11
    refine lv_tableIn (off := 89) (tgt := 90) hx hb d_DateDresser_monthName_1 (by rw [c_11] <;> decide) (by rw [c_11] <;> decide) (by rw [c_11] <;> rfl) (by decide) ?_
    refine va_ldcS hx hb hown (hE.str (i := 23) (by decide)) d_DateDresser_monthName_90 ?_
    exact W.aret (v := .ref (gE.2.1 23)) hx hb hr (Or.inl ⟨_, rfl⟩) (Or.inr ⟨_, rfl⟩) (fun t ht hW => ⟨⟨((), 23), _, rfl, hv, ⟨rfl, ⟨by rw [ht]; exact hP, va_K.moved hW.alike hK, hD⟩⟩⟩, hS.F ht⟩) hS.2.2 d_DateDresser_monthName_92
  have hv := hv.2 c_11
  refine lv_tableOut (tgt := 93) hx hb d_DateDresser_monthName_1 (by have ec_1 := lv_neT (a := 1) c_1 (by decide); have ec_2 := lv_neT (a := 2) c_2 (by decide); have ec_3 := lv_neT (a := 3) c_3 (by decide); have ec_4 := lv_neT (a := 4) c_4 (by decide); have ec_5 := lv_neT (a := 5) c_5 (by decide); have ec_6 := lv_neT (a := 6) c_6 (by decide); have ec_7 := lv_neT (a := 7) c_7 (by decide); have ec_8 := lv_neT (a := 8) c_8 (by decide); have ec_9 := lv_neT (a := 9) c_9 (by decide); have ec_10 := lv_neT (a := 10) c_10 (by decide); have ec_11 := lv_neT (a := 11) c_11 (by decide); omega) (by decide) ?_
  refine va_ldcS hx hb hown (hE.str (i := 24) (by decide)) d_DateDresser_monthName_93 ?_
  exact W.aret (v := .ref (gE.2.1 24)) hx hb hr (Or.inl ⟨_, rfl⟩) (Or.inr ⟨_, rfl⟩) (fun t ht hW => ⟨⟨((), 24), _, rfl, hv, ⟨rfl, ⟨by rw [ht]; exact hP, va_K.moved hW.alike hK, hD⟩⟩⟩, hS.F ht⟩) hS.2.2 d_DateDresser_monthName_95
theorem zi_DateDresser_monthName : Cond.code (⟨"NumberDress$DateDresser", "monthName", "(I)Ljava/lang/String;"⟩ : MethodName) prog_3_method_10_code 1 (some (.object "java/lang/String")) ∈ zT := zw_1094
theorem zh_DateDresser_monthName : (((⟨"NumberDress$DateDresser", "monthName", "(I)Ljava/lang/String;"⟩ : MethodName)).cls ≠ "java/lang/invoke/MethodHandle" ∧ ((⟨"NumberDress$DateDresser", "monthName", "(I)Ljava/lang/String;"⟩ : MethodName)).cls ≠ "java/lang/invoke/VarHandle" ∧ (parseMethodDescriptor ((⟨"NumberDress$DateDresser", "monthName", "(I)Ljava/lang/String;"⟩ : MethodName)).desc).map (fun d => d.parameters.length) = some 1) := by decide +kernel
set_option maxHeartbeats 4000000 in
set_option maxRecDepth 100000 in
theorem m_DateDresser_monthName (l : Launch) (dC : Nat → ClassId) (dI : Nat → Nat → Nat) {gE : zG}  {x0 : Int32} {sz : Nat} {Z : Nat → Unit → Prop} (hv : v_DateDresser_monthName_0 x0 Z) : Met l (⟨"NumberDress$DateDresser", "monthName", "(I)Ljava/lang/String;"⟩ : MethodName) (Cond.code (⟨"NumberDress$DateDresser", "monthName", "(I)Ljava/lang/String;"⟩ : MethodName) prog_3_method_10_code 1 (some (.object "java/lang/String")) :: zT) { frames := 0, cells := 0, slots := 0, locals := 0 } (zPc gE (dC, dI) zCl [] [.int x0] sz []) (va_Qr (fun u : (Unit) × Nat => Z u.2 u.1) (fun (u : (Unit) × Nat) a t => a = gE.2.1 u.2 ∧ zB (dC, dI) zCl [] (va_A [] sz) (fun u : (Unit) × Nat => []) u t) (va_A [] sz)) 0 0 (va_A [] sz) := by
  refine Met.ofW (cc := prog_3_method_10_code) (maxL := 1) (ret := (some (.object "java/lang/String"))) (by decide +kernel) rfl ?_
  intro p e s m args below meth c s₁ B hml hp
  obtain ⟨rfl, hsz, hP, hK, hD0, hE⟩ := hp
  have hts := atoms_spec (ws := (Cond.code (⟨"NumberDress$DateDresser", "monthName", "(I)Ljava/lang/String;"⟩ : MethodName) prog_3_method_10_code 1 (some (.object "java/lang/String")) :: zT)) B.pre
  have hown : s.vm.findClass "NumberDress$DateDresser" = some m.cls := findClass_of_methodNamed B.named
  have hc : zC p s m _ meth c prog_3_method_10_code (some (.object "java/lang/String")) 1 "NumberDress$DateDresser" := ⟨B.exec, B.bytes, B.returns, hml, hown, fun w h => hts w (List.mem_cons_of_mem _ h), B.notSynchronized⟩
  subst hsz
  have hD := hD0.self (sz := s.heap.size)
  generalize hAe : va_A [] s.heap.size = A at hD hE ⊢
  have hA : ∀ q : Nat, s.heap.size ≤ q → A q := fun q h => by rw [← hAe]; exact Or.inr h
  have hl := lv_entry ([.int x0]) (n := 1) (Nat.le_of_ble_eq_true rfl)
  rw [lg_entry_eq]
  exact b_DateDresser_monthName_0 hc hA hE hl hK hP hD va_S.rf hv
theorem d_Look_put_0 : decode prog_7_method_4_code 0 = .ok (.aload_n 0, 1) := by decide +kernel
theorem d_Look_put_1 : decode prog_7_method_4_code 1 = .ok (.getfield 15, 3) := by decide +kernel
theorem d_Look_put_4 : decode prog_7_method_4_code 4 = .ok (.aload_n 0, 1) := by decide +kernel
theorem d_Look_put_5 : decode prog_7_method_4_code 5 = .ok (.getfield 9, 3) := by decide +kernel
theorem d_Look_put_8 : decode prog_7_method_4_code 8 = .ok (.arraylength, 1) := by decide +kernel
theorem d_Look_put_9 : decode prog_7_method_4_code 9 = .ok (.if_icmp .lt 44, 3) := by decide +kernel
theorem d_Look_put_12 : decode prog_7_method_4_code 12 = .ok (.aload_n 0, 1) := by decide +kernel
theorem d_Look_put_13 : decode prog_7_method_4_code 13 = .ok (.getfield 9, 3) := by decide +kernel
theorem d_Look_put_16 : decode prog_7_method_4_code 16 = .ok (.arraylength, 1) := by decide +kernel
theorem d_Look_put_17 : decode prog_7_method_4_code 17 = .ok (.sipush 4096, 3) := by decide +kernel
theorem d_Look_put_20 : decode prog_7_method_4_code 20 = .ok (.if_icmp .ge 33, 3) := by decide +kernel
theorem d_Look_put_23 : decode prog_7_method_4_code 23 = .ok (.aload_n 0, 1) := by decide +kernel
theorem d_Look_put_24 : decode prog_7_method_4_code 24 = .ok (.getfield 9, 3) := by decide +kernel
theorem d_Look_put_27 : decode prog_7_method_4_code 27 = .ok (.arraylength, 1) := by decide +kernel
theorem d_Look_put_28 : decode prog_7_method_4_code 28 = .ok (.iconst 2, 1) := by decide +kernel
theorem d_Look_put_29 : decode prog_7_method_4_code 29 = .ok (.imul, 1) := by decide +kernel
theorem d_Look_put_30 : decode prog_7_method_4_code 30 = .ok (.newarray .char, 2) := by decide +kernel
theorem d_Look_put_32 : decode prog_7_method_4_code 32 = .ok (.astore_n 2, 1) := by decide +kernel
theorem d_Look_put_33 : decode prog_7_method_4_code 33 = .ok (.aload_n 0, 1) := by decide +kernel
theorem d_Look_put_34 : decode prog_7_method_4_code 34 = .ok (.getfield 9, 3) := by decide +kernel
theorem d_Look_put_37 : decode prog_7_method_4_code 37 = .ok (.iconst 0, 1) := by decide +kernel
theorem d_Look_put_38 : decode prog_7_method_4_code 38 = .ok (.aload_n 2, 1) := by decide +kernel
theorem d_Look_put_39 : decode prog_7_method_4_code 39 = .ok (.iconst 0, 1) := by decide +kernel
theorem d_Look_put_40 : decode prog_7_method_4_code 40 = .ok (.aload_n 0, 1) := by decide +kernel
theorem d_Look_put_41 : decode prog_7_method_4_code 41 = .ok (.getfield 9, 3) := by decide +kernel
theorem d_Look_put_44 : decode prog_7_method_4_code 44 = .ok (.arraylength, 1) := by decide +kernel
theorem d_Look_put_45 : decode prog_7_method_4_code 45 = .ok (.invokestatic 19, 3) := by decide +kernel
theorem d_Look_put_48 : decode prog_7_method_4_code 48 = .ok (.aload_n 0, 1) := by decide +kernel
theorem d_Look_put_49 : decode prog_7_method_4_code 49 = .ok (.aload_n 2, 1) := by decide +kernel
theorem d_Look_put_50 : decode prog_7_method_4_code 50 = .ok (.putfield 9, 3) := by decide +kernel
theorem d_Look_put_53 : decode prog_7_method_4_code 53 = .ok (.aload_n 0, 1) := by decide +kernel
theorem d_Look_put_54 : decode prog_7_method_4_code 54 = .ok (.getfield 15, 3) := by decide +kernel
theorem d_Look_put_57 : decode prog_7_method_4_code 57 = .ok (.ifCond .lt 36, 3) := by decide +kernel
theorem d_Look_put_60 : decode prog_7_method_4_code 60 = .ok (.aload_n 0, 1) := by decide +kernel
theorem d_Look_put_61 : decode prog_7_method_4_code 61 = .ok (.getfield 15, 3) := by decide +kernel
theorem d_Look_put_64 : decode prog_7_method_4_code 64 = .ok (.aload_n 0, 1) := by decide +kernel
theorem d_Look_put_65 : decode prog_7_method_4_code 65 = .ok (.getfield 9, 3) := by decide +kernel
theorem d_Look_put_68 : decode prog_7_method_4_code 68 = .ok (.arraylength, 1) := by decide +kernel
theorem d_Look_put_69 : decode prog_7_method_4_code 69 = .ok (.if_icmp .ge 24, 3) := by decide +kernel
theorem d_Look_put_72 : decode prog_7_method_4_code 72 = .ok (.aload_n 0, 1) := by decide +kernel
theorem d_Look_put_73 : decode prog_7_method_4_code 73 = .ok (.getfield 9, 3) := by decide +kernel
theorem d_Look_put_76 : decode prog_7_method_4_code 76 = .ok (.aload_n 0, 1) := by decide +kernel
theorem d_Look_put_77 : decode prog_7_method_4_code 77 = .ok (.getfield 15, 3) := by decide +kernel
theorem d_Look_put_80 : decode prog_7_method_4_code 80 = .ok (.iload_n 1, 1) := by decide +kernel
theorem d_Look_put_81 : decode prog_7_method_4_code 81 = .ok (.i2c, 1) := by decide +kernel
theorem d_Look_put_82 : decode prog_7_method_4_code 82 = .ok (.castore, 1) := by decide +kernel
theorem d_Look_put_83 : decode prog_7_method_4_code 83 = .ok (.aload_n 0, 1) := by decide +kernel
theorem d_Look_put_84 : decode prog_7_method_4_code 84 = .ok (.dup, 1) := by decide +kernel
theorem d_Look_put_85 : decode prog_7_method_4_code 85 = .ok (.getfield 15, 3) := by decide +kernel
theorem d_Look_put_88 : decode prog_7_method_4_code 88 = .ok (.iconst 1, 1) := by decide +kernel
theorem d_Look_put_89 : decode prog_7_method_4_code 89 = .ok (.iadd, 1) := by decide +kernel
theorem d_Look_put_90 : decode prog_7_method_4_code 90 = .ok (.putfield 15, 3) := by decide +kernel
theorem d_Look_put_93 : decode prog_7_method_4_code 93 = .ok (.return_, 1) := by decide +kernel
set_option maxHeartbeats 4000000 in
set_option maxRecDepth 100000 in
theorem b_Look_put_53 {h0 : Nat} {h1 : Nat} {cA1 : ClassId} {I0 : Nat → Int32} {n1 : Nat} {f1 : Nat → Int32} {x1 : Int32}  {N0 NF : Nat} {Z : (Nat → Int32) × Nat × (Nat → Int32) → Prop} {H : Heap} {locs : List Loc} {ls : Array Slot} (hc : zC p s m args meth c prog_7_method_4_code none 3 "NumberDress$Look") (hA : ∀ q : Nat, s.heap.size ≤ q → A q) (hE : zE gE A s) (hl : lv_has ls 3 [(0, .ref h0), (1, .int x1)]) (hK : va_K (dC, dI) zCl [(cA1, .char)] s) (hP : va_P (dC, dI) zCl [(h0, .inr (6, o_Look I0 h1)), (h1, .inl (cA1, n1, .inl f1))] H) (hD : va_D A [(h0, .inr (6, o_Look I0 h1)), (h1, .inl (cA1, n1, .inl f1))]) (hS : va_S A s.heap H locs) (hN : N0 ≤ n1 ∧ n1 ≤ NF) (hv : v_Look_put_53 I0 n1 f1 x1  NF Z) : W p l e (headSpec (Cond.code (⟨"NumberDress$Look", "put", "(I)V"⟩ : MethodName) prog_7_method_4_code 3 none :: zT) { frames := 1, cells := 2 * NF - 2 * N0, slots := 2 * NF - 2 * N0, locals := 40 }).room s m args below meth c H locs (2 * n1 - 2 * N0) (2 * n1 - 2 * N0) (MQ below (va_Qv (fun u : (Nat → Int32) × Nat × (Nat → Int32) => u.2.1 = NF ∧ Z u) (fun (u : (Nat → Int32) × Nat × (Nat → Int32)) t => ∃ (b9 : Nat) (k9 : ClassId), va_P (dC, dI) zCl [(h0, .inr (6, o_Look u.1 b9)), (b9, .inl (k9, u.2.1, .inl u.2.2))] t.heap ∧ va_K (dC, dI) zCl [(k9, .char)] t ∧ va_D A [(h0, .inr (6, o_Look u.1 b9)), (b9, .inl (k9, u.2.1, .inl u.2.2))]) A) args s (2 * NF - 2 * N0) (2 * NF - 2 * N0) A) (F0 m 53 ls []) := by
  obtain ⟨hx, hb, hr, hml, hown, ht, hlocks⟩ := id hc
  unfold v_Look_put_53 at hv
  refine lv_aload_n hx hb d_Look_put_53 rfl (lv_at hl 0 rfl) ?_
  refine va_get (D := (dC, dI)) (ci := 6) (v := .int (I0 1)) (C := "NumberDress$Look") (T := T_Look) (N := 3) hx hb ht zin_Look hown hK hP 0 rfl rfl 1 (by decide) (ht _ zw_456) (fun _ h9 => h9) rfl d_Look_put_54 ?_
  refine lv_if_lt (tgt := 93) hx hb d_Look_put_57 (by decide) (fun c_1 => ?_) (fun c_1 => ?_)
  · have hv := hv.1 c_1
    obtain ⟨rfl, hz⟩ := hv
    exact W.vret hx hb hr (fun t ht hW => ⟨⟨(I0, n1, f1), rfl, ⟨rfl, hz⟩, ⟨h1, cA1, by rw [ht]; exact hP, va_K.moved hW.alike hK, hD⟩⟩, hS.F ht⟩) hS.2.2 d_Look_put_93
  · have hv := hv.2 c_1
    refine lv_aload_n hx hb d_Look_put_60 rfl (lv_at hl 0 rfl) ?_
    refine va_get (D := (dC, dI)) (ci := 6) (v := .int (I0 1)) (C := "NumberDress$Look") (T := T_Look) (N := 3) hx hb ht zin_Look hown hK hP 0 rfl rfl 1 (by decide) (ht _ zw_456) (fun _ h9 => h9) rfl d_Look_put_61 ?_
    refine lv_aload_n hx hb d_Look_put_64 rfl (lv_at hl 0 rfl) ?_
    refine va_get (D := (dC, dI)) (ci := 6) (v := .ref h1) (C := "NumberDress$Look") (T := T_Look) (N := 3) hx hb ht zin_Look hown hK hP 0 rfl rfl 0 (by decide) (ht _ zw_455) (fun _ h9 => h9) rfl d_Look_put_65 ?_
    refine va_alen (v := (nI n1)) hx hb hK hP 1 0 rfl rfl rfl d_Look_put_68 ?_
    refine lv_icmp_ge (tgt := 93) hx hb d_Look_put_69 (by decide) (fun c_2 => ?_) (fun c_2 => ?_)
    · have hv := hv.1 c_2
      obtain ⟨rfl, hz⟩ := hv
      exact W.vret hx hb hr (fun t ht hW => ⟨⟨(I0, n1, f1), rfl, ⟨rfl, hz⟩, ⟨h1, cA1, by rw [ht]; exact hP, va_K.moved hW.alike hK, hD⟩⟩, hS.F ht⟩) hS.2.2 d_Look_put_93
    · have hv := hv.2 c_2
      refine lv_aload_n hx hb d_Look_put_72 rfl (lv_at hl 0 rfl) ?_
      refine va_get (D := (dC, dI)) (ci := 6) (v := .ref h1) (C := "NumberDress$Look") (T := T_Look) (N := 3) hx hb ht zin_Look hown hK hP 0 rfl rfl 0 (by decide) (ht _ zw_455) (fun _ h9 => h9) rfl d_Look_put_73 ?_
      refine lv_aload_n hx hb d_Look_put_76 rfl (lv_at hl 0 rfl) ?_
      refine va_get (D := (dC, dI)) (ci := 6) (v := .int (I0 1)) (C := "NumberDress$Look") (T := T_Look) (N := 3) hx hb ht zin_Look hown hK hP 0 rfl rfl 1 (by decide) (ht _ zw_456) (fun _ h9 => h9) rfl d_Look_put_77 ?_
      refine lv_iload_n hx hb d_Look_put_80 rfl (lv_at hl 1 rfl) ?_
      refine lv_i2c (v := (x1.toUInt32 % 65536).toInt32) hx hb d_Look_put_81 rfl ?_
      obtain ⟨q_3, hv⟩ := hv
      refine va_cast hx hb hK hP hD hS 1 0 rfl rfl q_3 d_Look_put_82 (fun H locs hP hD hS => ?_)
      have hP : va_P (dC, dI) zCl [(h0, .inr (6, o_Look I0 h1)), (h1, .inl (cA1, n1, .inl (upd f1 (I0 1).toNatClampNeg (vp_nar .char (x1.toUInt32 % 65536).toInt32))))] H := hP
      have hD : va_D A [(h0, .inr (6, o_Look I0 h1)), (h1, .inl (cA1, n1, .inl (upd f1 (I0 1).toNatClampNeg (vp_nar .char (x1.toUInt32 % 65536).toInt32))))] := hD
      refine lv_aload_n hx hb d_Look_put_83 rfl (lv_at hl 0 rfl) ?_
      refine lv_dup hx hb d_Look_put_84 rfl ?_
      refine va_get (D := (dC, dI)) (ci := 6) (v := .int (I0 1)) (C := "NumberDress$Look") (T := T_Look) (N := 3) hx hb ht zin_Look hown hK hP 0 rfl rfl 1 (by decide) (ht _ zw_456) (fun _ h9 => h9) rfl d_Look_put_85 ?_
      refine lv_iconst (v := (1 : Int32)) hx hb d_Look_put_88 (by decide) ?_
      refine lv_iadd hx hb d_Look_put_89 ?_
      refine va_put (D := (dC, dI)) (ci := 6) (v := .int ((I0 1) + (1 : Int32))) (ty := .int) (C := "NumberDress$Look") (T := T_Look) (N := 3) hx hb ht zin_Look ty_Look tyok_Look nm_Look hown hK hP hD hS 0 rfl rfl 1 (by decide) (ht _ zw_456) (fun _ h9 => h9) rfl (by decide +kernel) rfl rfl (Nat.le_of_ble_eq_true rfl) d_Look_put_90 (fun H locs hP hD hS => ?_)
      have hP : va_P (dC, dI) zCl [(h0, .inr (6, o_Look (zu I0 1 ((I0 1) + (1 : Int32))) h1)), (h1, .inl (cA1, n1, .inl (upd f1 (I0 1).toNatClampNeg (vp_nar .char (x1.toUInt32 % 65536).toInt32))))] H := hP
      have hD : va_D A [(h0, .inr (6, o_Look (zu I0 1 ((I0 1) + (1 : Int32))) h1)), (h1, .inl (cA1, n1, .inl (upd f1 (I0 1).toNatClampNeg (vp_nar .char (x1.toUInt32 % 65536).toInt32))))] := hD
      obtain ⟨rfl, hz⟩ := hv
      exact W.vret hx hb hr (fun t ht hW => ⟨⟨((zu I0 1 ((I0 1) + (1 : Int32))), n1, (upd f1 (I0 1).toNatClampNeg (vp_nar .char (x1.toUInt32 % 65536).toInt32))), rfl, ⟨rfl, hz⟩, ⟨h1, cA1, by rw [ht]; exact hP, va_K.moved hW.alike hK, hD⟩⟩, hS.F ht⟩) hS.2.2 d_Look_put_93
set_option maxHeartbeats 4000000 in
set_option maxRecDepth 100000 in
theorem b_Look_put_0 {h0 : Nat} {h1 : Nat} {cA1 : ClassId} {I0 : Nat → Int32} {n1 : Nat} {f1 : Nat → Int32} {x1 : Int32}  {N0 NF : Nat} {Z : (Nat → Int32) × Nat × (Nat → Int32) → Prop} {H : Heap} {locs : List Loc} {ls : Array Slot} (hc : zC p s m args meth c prog_7_method_4_code none 3 "NumberDress$Look") (hA : ∀ q : Nat, s.heap.size ≤ q → A q) (hE : zE gE A s) (hl : lv_has ls 3 [(0, .ref h0), (1, .int x1)]) (hK : va_K (dC, dI) zCl [(cA1, .char)] s) (hP : va_P (dC, dI) zCl [(h0, .inr (6, o_Look I0 h1)), (h1, .inl (cA1, n1, .inl f1))] H) (hD : va_D A [(h0, .inr (6, o_Look I0 h1)), (h1, .inl (cA1, n1, .inl f1))]) (hS : va_S A s.heap H locs) (hN : N0 ≤ n1 ∧ n1 ≤ NF) (hv : v_Look_put_0 I0 n1 f1 x1  NF Z) : W p l e (headSpec (Cond.code (⟨"NumberDress$Look", "put", "(I)V"⟩ : MethodName) prog_7_method_4_code 3 none :: zT) { frames := 1, cells := 2 * NF - 2 * N0, slots := 2 * NF - 2 * N0, locals := 40 }).room s m args below meth c H locs (2 * n1 - 2 * N0) (2 * n1 - 2 * N0) (MQ below (va_Qv (fun u : (Nat → Int32) × Nat × (Nat → Int32) => u.2.1 = NF ∧ Z u) (fun (u : (Nat → Int32) × Nat × (Nat → Int32)) t => ∃ (b9 : Nat) (k9 : ClassId), va_P (dC, dI) zCl [(h0, .inr (6, o_Look u.1 b9)), (b9, .inl (k9, u.2.1, .inl u.2.2))] t.heap ∧ va_K (dC, dI) zCl [(k9, .char)] t ∧ va_D A [(h0, .inr (6, o_Look u.1 b9)), (b9, .inl (k9, u.2.1, .inl u.2.2))]) A) args s (2 * NF - 2 * N0) (2 * NF - 2 * N0) A) (F0 m 0 ls []) := by
  obtain ⟨hx, hb, hr, hml, hown, ht, hlocks⟩ := id hc
  unfold v_Look_put_0 at hv
  refine lv_aload_n hx hb d_Look_put_0 rfl (lv_at hl 0 rfl) ?_
  refine va_get (D := (dC, dI)) (ci := 6) (v := .int (I0 1)) (C := "NumberDress$Look") (T := T_Look) (N := 3) hx hb ht zin_Look hown hK hP 0 rfl rfl 1 (by decide) (ht _ zw_456) (fun _ h9 => h9) rfl d_Look_put_1 ?_
  refine lv_aload_n hx hb d_Look_put_4 rfl (lv_at hl 0 rfl) ?_
  refine va_get (D := (dC, dI)) (ci := 6) (v := .ref h1) (C := "NumberDress$Look") (T := T_Look) (N := 3) hx hb ht zin_Look hown hK hP 0 rfl rfl 0 (by decide) (ht _ zw_455) (fun _ h9 => h9) rfl d_Look_put_5 ?_
  refine va_alen (v := (nI n1)) hx hb hK hP 1 0 rfl rfl rfl d_Look_put_8 ?_
  refine lv_icmp_lt (tgt := 53) hx hb d_Look_put_9 (by decide) (fun c_1 => ?_) (fun c_1 => ?_)
  · have hv := hv.1 c_1
    exact b_Look_put_53 hc hA hE  (lv_sub hl [0, 1] rfl) hK hP hD hS hN hv
  · have hv := hv.2 c_1
    refine lv_aload_n hx hb d_Look_put_12 rfl (lv_at hl 0 rfl) ?_
    refine va_get (D := (dC, dI)) (ci := 6) (v := .ref h1) (C := "NumberDress$Look") (T := T_Look) (N := 3) hx hb ht zin_Look hown hK hP 0 rfl rfl 0 (by decide) (ht _ zw_455) (fun _ h9 => h9) rfl d_Look_put_13 ?_
    refine va_alen (v := (nI n1)) hx hb hK hP 1 0 rfl rfl rfl d_Look_put_16 ?_
    refine lv_sipush (v := (4096 : Int32)) hx hb d_Look_put_17 (by decide) ?_
    refine lv_icmp_ge (tgt := 53) hx hb d_Look_put_20 (by decide) (fun c_2 => ?_) (fun c_2 => ?_)
    · have hv := hv.1 c_2
      exact b_Look_put_53 hc hA hE  (lv_sub hl [0, 1] rfl) hK hP hD hS hN hv
    · have hv := hv.2 c_2
      obtain ⟨g1, g2, g3, hv⟩ := hv
      obtain ⟨z1, z2⟩ := z_dbl g1
      refine lv_aload_n hx hb d_Look_put_23 rfl (lv_at hl 0 rfl) ?_
      refine va_get (D := (dC, dI)) (ci := 6) (v := .ref h1) (C := "NumberDress$Look") (T := T_Look) (N := 3) hx hb ht zin_Look hown hK hP 0 rfl rfl 0 (by decide) (ht _ zw_455) (fun _ h9 => h9) rfl d_Look_put_24 ?_
      refine va_alen (v := (nI n1)) hx hb hK hP 1 0 rfl rfl rfl d_Look_put_27 ?_
      refine lv_iconst (v := (2 : Int32)) hx hb d_Look_put_28 (by decide) ?_
      refine lv_imul hx hb d_Look_put_29 ?_
      refine va_newa (atype := .char) (ty := .char) (N' := n1 * 2) (a0 := (n1 * 2, .inl (fun _ => 0))) hx hb (ht _ zw_241) rfl hK hP hD hS hA (fun _ => rfl) z1 z2 (by show n1 * 2 * 2 ≤ _; omega) (by show _ ≤ 2 * NF - 2 * N0; omega) (by show _ ≤ 2 * NF - 2 * N0; omega) d_Look_put_30 (fun q kq H hK hP hD hS => ?_)
      have hP : va_P (dC, dI) zCl [(h0, .inr (6, [.ref h1, .int (I0 1), .int (I0 2)])), (h1, .inl (cA1, n1, .inl f1)), (q, .inl (kq, n1 * 2, .inl (fun _ => 0)))] H := hP
      have hD : va_D A [(h0, .inr (6, [.ref h1, .int (I0 1), .int (I0 2)])), (h1, .inl (cA1, n1, .inl f1)), (q, .inl (kq, n1 * 2, .inl (fun _ => 0)))] := hD
      refine lv_astore_n (lv' := [(2, .ref q), (0, .ref h0), (1, .int x1)]) hx hb d_Look_put_32 rfl hl (by decide) rfl (fun ls hl => ?_)
      refine lv_aload_n hx hb d_Look_put_33 rfl (lv_at hl 1 rfl) ?_
      refine va_get (D := (dC, dI)) (ci := 6) (v := .ref h1) (C := "NumberDress$Look") (T := T_Look) (N := 3) hx hb ht zin_Look hown hK hP 0 rfl rfl 0 (by decide) (ht _ zw_455) (fun _ h9 => h9) rfl d_Look_put_34 ?_
      refine lv_iconst (v := (0 : Int32)) hx hb d_Look_put_37 (by decide) ?_
      refine lv_aload_n hx hb d_Look_put_38 rfl (lv_at hl 0 rfl) ?_
      refine lv_iconst (v := (0 : Int32)) hx hb d_Look_put_39 (by decide) ?_
      refine lv_aload_n hx hb d_Look_put_40 rfl (lv_at hl 1 rfl) ?_
      refine va_get (D := (dC, dI)) (ci := 6) (v := .ref h1) (C := "NumberDress$Look") (T := T_Look) (N := 3) hx hb ht zin_Look hown hK hP 0 rfl rfl 0 (by decide) (ht _ zw_455) (fun _ h9 => h9) rfl d_Look_put_41 ?_
      refine va_alen (v := (nI n1)) hx hb hK hP 1 0 rfl rfl rfl d_Look_put_44 ?_
      refine va_copyi (ty := .char) hx hb (hml.trans hl.1.symm) hown (ht _ zw_868) (ht _ zw_870) (ht _ zw_869) (ht _ zw_134) hK hP hD hS 1 2 0 1 rfl rfl rfl rfl rfl (by decide) (by decide) (nI_pos (by omega)) (by rw [nI_clamp (by omega)]; show 0 + n1 ≤ n1; omega) (by rw [nI_clamp (by omega)]; show 0 + n1 ≤ n1 * 2; omega) (fun i hi => by rw [nI_clamp (by omega)] at hi; exact zc_f (g3 _ (show 0 + i < n1 by omega))) (Nat.le_of_ble_eq_true rfl) (Nat.le_of_ble_eq_true rfl) d_Look_put_45 (fun H locs hP hD hS => ?_)
      have hP : va_P (dC, dI) zCl [(h0, .inr (6, [.ref h1, .int (I0 1), .int (I0 2)])), (h1, .inl (cA1, n1, .inl f1)), (q, .inl (kq, n1 * 2, .inl (va_cpy f1 (fun _ => 0) (0 : Int32).toNatClampNeg (0 : Int32).toNatClampNeg (nI n1).toNatClampNeg)))] H := hP
      have hD : va_D A [(h0, .inr (6, [.ref h1, .int (I0 1), .int (I0 2)])), (h1, .inl (cA1, n1, .inl f1)), (q, .inl (kq, n1 * 2, .inl (va_cpy f1 (fun _ => 0) (0 : Int32).toNatClampNeg (0 : Int32).toNatClampNeg (nI n1).toNatClampNeg)))] := hD
      refine lv_aload_n hx hb d_Look_put_48 rfl (lv_at hl 1 rfl) ?_
      refine lv_aload_n hx hb d_Look_put_49 rfl (lv_at hl 0 rfl) ?_
      refine va_put (D := (dC, dI)) (ci := 6) (v := .ref q) (ty := .array (.char)) (C := "NumberDress$Look") (T := T_Look) (N := 3) hx hb ht zin_Look ty_Look tyok_Look nm_Look hown hK hP hD hS 0 rfl rfl 0 (by decide) (ht _ zw_455) (fun _ h9 => h9) rfl (by decide +kernel) rfl rfl (Nat.le_of_ble_eq_true rfl) d_Look_put_50 (fun H locs hP hD hS => ?_)
      have hP : va_P (dC, dI) zCl [(h0, .inr (6, [.ref q, .int (I0 1), .int (I0 2)])), (h1, .inl (cA1, n1, .inl f1)), (q, .inl (kq, n1 * 2, .inl (va_cpy f1 (fun _ => 0) (0 : Int32).toNatClampNeg (0 : Int32).toNatClampNeg (nI n1).toNatClampNeg)))] H := hP
      have hD : va_D A [(h0, .inr (6, [.ref q, .int (I0 1), .int (I0 2)])), (h1, .inl (cA1, n1, .inl f1)), (q, .inl (kq, n1 * 2, .inl (va_cpy f1 (fun _ => 0) (0 : Int32).toNatClampNeg (0 : Int32).toNatClampNeg (nI n1).toNatClampNeg)))] := hD
      have hP : va_P (dC, dI) zCl [(h0, .inr (6, [.ref q, .int (I0 1), .int (I0 2)])), (q, .inl (kq, n1 * 2, .inl (va_cpy f1 (fun _ => 0) (0 : Int32).toNatClampNeg (0 : Int32).toNatClampNeg (nI n1).toNatClampNeg)))] H := hP.sub [0, 2] rfl
      have hD : va_D A [(h0, .inr (6, [.ref q, .int (I0 1), .int (I0 2)])), (q, .inl (kq, n1 * 2, .inl (va_cpy f1 (fun _ => 0) (0 : Int32).toNatClampNeg (0 : Int32).toNatClampNeg (nI n1).toNatClampNeg)))] := hD.sub [0, 2] (by decide) rfl
      have hK : va_K (dC, dI) zCl [(kq, .char)] s := hK.sub [1] rfl
      refine W.widen (k := 2 * (n1 * 2) - 2 * N0) (n := 2 * (n1 * 2) - 2 * N0) (by omega) (by omega) ?_
      have hN : N0 ≤ n1 * 2 ∧ n1 * 2 ≤ NF := by omega
      exact b_Look_put_53 hc hA hE  (lv_sub hl [1, 2] rfl) hK hP hD hS hN hv
theorem zi_Look_put : Cond.code (⟨"NumberDress$Look", "put", "(I)V"⟩ : MethodName) prog_7_method_4_code 3 none ∈ zT := zw_867
theorem zh_Look_put : (((⟨"NumberDress$Look", "put", "(I)V"⟩ : MethodName)).cls ≠ "java/lang/invoke/MethodHandle" ∧ ((⟨"NumberDress$Look", "put", "(I)V"⟩ : MethodName)).cls ≠ "java/lang/invoke/VarHandle" ∧ (parseMethodDescriptor ((⟨"NumberDress$Look", "put", "(I)V"⟩ : MethodName)).desc).map (fun d => d.parameters.length) = some 1) := by decide +kernel
set_option maxHeartbeats 4000000 in
set_option maxRecDepth 100000 in
theorem m_Look_put (l : Launch) (dC : Nat → ClassId) (dI : Nat → Nat → Nat) {gE : zG} {h0 : Nat} {h1 : Nat} {cA1 : ClassId} {I0 : Nat → Int32} {n1 : Nat} {f1 : Nat → Int32} {x1 : Int32} {sz : Nat} {Z : (Nat → Int32) × Nat × (Nat → Int32) → Prop} {NF : Nat} (hNF : n1 ≤ NF) (hv : v_Look_put_0 I0 n1 f1 x1 NF Z) : Met l (⟨"NumberDress$Look", "put", "(I)V"⟩ : MethodName) (Cond.code (⟨"NumberDress$Look", "put", "(I)V"⟩ : MethodName) prog_7_method_4_code 3 none :: zT) { frames := 1, cells := 2 * NF - 2 * n1, slots := 2 * NF - 2 * n1, locals := 40 } (zPc gE (dC, dI) zCl [(cA1, .char)] [.ref h0, .int x1] sz [(h0, .inr (6, o_Look I0 h1)), (h1, .inl (cA1, n1, .inl f1))]) (va_Qv (fun u : (Nat → Int32) × Nat × (Nat → Int32) => u.2.1 = NF ∧ Z u) (fun (u : (Nat → Int32) × Nat × (Nat → Int32)) t => ∃ (b9 : Nat) (k9 : ClassId), va_P (dC, dI) zCl [(h0, .inr (6, o_Look u.1 b9)), (b9, .inl (k9, u.2.1, .inl u.2.2))] t.heap ∧ va_K (dC, dI) zCl [(k9, .char)] t ∧ va_D (va_A [(h0, .inr (6, o_Look I0 h1)), (h1, .inl (cA1, n1, .inl f1))] sz) [(h0, .inr (6, o_Look u.1 b9)), (b9, .inl (k9, u.2.1, .inl u.2.2))]) (va_A [(h0, .inr (6, o_Look I0 h1)), (h1, .inl (cA1, n1, .inl f1))] sz)) (2 * NF - 2 * n1) (2 * NF - 2 * n1) (va_A [(h0, .inr (6, o_Look I0 h1)), (h1, .inl (cA1, n1, .inl f1))] sz) := by
  refine Met.ofW (cc := prog_7_method_4_code) (maxL := 3) (ret := none) (by decide +kernel) rfl ?_
  intro p e s m args below meth c s₁ B hml hp
  obtain ⟨rfl, hsz, hP, hK, hD0, hE⟩ := hp
  have hts := atoms_spec (ws := (Cond.code (⟨"NumberDress$Look", "put", "(I)V"⟩ : MethodName) prog_7_method_4_code 3 none :: zT)) B.pre
  have hown : s.vm.findClass "NumberDress$Look" = some m.cls := findClass_of_methodNamed B.named
  have hc : zC p s m _ meth c prog_7_method_4_code none 3 "NumberDress$Look" := ⟨B.exec, B.bytes, B.returns, hml, hown, fun w h => hts w (List.mem_cons_of_mem _ h), B.notSynchronized⟩
  subst hsz
  have hD := hD0.self (sz := s.heap.size)
  generalize hAe : va_A [(h0, .inr (6, o_Look I0 h1)), (h1, .inl (cA1, n1, .inl f1))] s.heap.size = A at hD hE ⊢
  have hA : ∀ q : Nat, s.heap.size ≤ q → A q := fun q h => by rw [← hAe]; exact Or.inr h
  have hl := lv_entry ([.ref h0, .int x1]) (n := 3) (Nat.le_of_ble_eq_true rfl)
  rw [lg_entry_eq]
  refine W.widen (k := 2 * n1 - 2 * n1) (n := 2 * n1 - 2 * n1) (Nat.zero_le _) (Nat.zero_le _) ?_
  exact b_Look_put_0 hc hA hE hl hK hP hD va_S.rf ⟨Nat.le_refl _, hNF⟩ hv
theorem d_S_isLatin1_0 : decode prog_21_method_154_code 0 = .ok (.getstatic 38, 3) := by decide +kernel
theorem d_S_isLatin1_3 : decode prog_21_method_154_code 3 = .ok (.ifCond .eq 14, 3) := by decide +kernel
theorem d_S_isLatin1_6 : decode prog_21_method_154_code 6 = .ok (.aload_n 0, 1) := by decide +kernel
theorem d_S_isLatin1_7 : decode prog_21_method_154_code 7 = .ok (.getfield 15, 3) := by decide +kernel
theorem d_S_isLatin1_10 : decode prog_21_method_154_code 10 = .ok (.ifCond .ne 7, 3) := by decide +kernel
theorem d_S_isLatin1_13 : decode prog_21_method_154_code 13 = .ok (.iconst 1, 1) := by decide +kernel
theorem d_S_isLatin1_14 : decode prog_21_method_154_code 14 = .ok (.goto 4, 3) := by decide +kernel
theorem d_S_isLatin1_18 : decode prog_21_method_154_code 18 = .ok (.ireturn, 1) := by decide +kernel
set_option maxHeartbeats 4000000 in
set_option maxRecDepth 100000 in
theorem b_S_isLatin1_0  {x0 : Nat}  {Z : Int32 → Unit → Prop} {H : Heap} {locs : List Loc} {ls : Array Slot} (hc : zC p s m args meth c prog_21_method_154_code (some .boolean) 1 "java/lang/String") (hA : ∀ q : Nat, s.heap.size ≤ q → A q) (hE : zE gE A s) (hl : lv_has ls 1 [(0, .ref (gE.2.1 x0))]) (hK : va_K (dC, dI) zCl [] s) (hP : va_P (dC, dI) zCl [] H) (hD : va_D A []) (hS : va_S A s.heap H locs) (hv : v_S_isLatin1_0 x0  Z) : W p l e (headSpec (Cond.code (⟨"java/lang/String", "isLatin1", "()Z"⟩ : MethodName) prog_21_method_154_code 1 (some .boolean) :: zT) { frames := 0, cells := 0, slots := 0, locals := 0 }).room s m args below meth c H locs 0 0 (MQ below (va_Qi Z (zB (dC, dI) zCl [] A (fun u : Unit => [])) A) args s 0 0 A) (F0 m 0 ls []) := by
  obtain ⟨hx, hb, hr, hml, hown, ht, hlocks⟩ := id hc
  unfold v_S_isLatin1_0 at hv
  refine va_gets hx hb hE.compact hS hown (ht _ zw_551) (fun _ h9 => h9) d_S_isLatin1_0 ?_
  refine lv_if_eq (tgt := 17) hx hb d_S_isLatin1_3 (by decide) (fun c_1 => absurd c_1 (by decide)) (fun c_1 => ?_)
  refine lv_aload_n hx hb d_S_isLatin1_6 rfl (lv_at hl 0 rfl) ?_
  obtain ⟨q_2, hv⟩ := hv
  refine vk_getf hx hb (hE.sfcoder q_2) hS hown (ht _ zw_1693) (fun _ h9 => h9) d_S_isLatin1_7 ?_
  refine lv_if_ne (tgt := 17) hx hb d_S_isLatin1_10 (by decide) (fun c_3 => absurd c_3 (by decide)) (fun c_3 => ?_)
  refine lv_iconst (v := (1 : Int32)) hx hb d_S_isLatin1_13 (by decide) ?_
  refine lv_goto (tgt := 18) hx hb d_S_isLatin1_14 (by decide) ?_
  exact W.zret (v := (1 : Int32)) hx hb hr (by decide) (fun t ht hW => ⟨⟨_, (), rfl, hv, ⟨by rw [ht]; exact hP, va_K.moved hW.alike hK, hD⟩⟩, hS.F ht⟩) hS.2.2 d_S_isLatin1_18
theorem zi_S_isLatin1 : Cond.code (⟨"java/lang/String", "isLatin1", "()Z"⟩ : MethodName) prog_21_method_154_code 1 (some .boolean) ∈ zT := zw_564
theorem zh_S_isLatin1 : (((⟨"java/lang/String", "isLatin1", "()Z"⟩ : MethodName)).cls ≠ "java/lang/invoke/MethodHandle" ∧ ((⟨"java/lang/String", "isLatin1", "()Z"⟩ : MethodName)).cls ≠ "java/lang/invoke/VarHandle" ∧ (parseMethodDescriptor ((⟨"java/lang/String", "isLatin1", "()Z"⟩ : MethodName)).desc).map (fun d => d.parameters.length) = some 0) := by decide +kernel
set_option maxHeartbeats 4000000 in
set_option maxRecDepth 100000 in
theorem m_S_isLatin1 (l : Launch) (dC : Nat → ClassId) (dI : Nat → Nat → Nat) {gE : zG}  {x0 : Nat} {sz : Nat} {Z : Int32 → Unit → Prop} (hv : v_S_isLatin1_0 x0 Z) : Met l (⟨"java/lang/String", "isLatin1", "()Z"⟩ : MethodName) (Cond.code (⟨"java/lang/String", "isLatin1", "()Z"⟩ : MethodName) prog_21_method_154_code 1 (some .boolean) :: zT) { frames := 0, cells := 0, slots := 0, locals := 0 } (zPc gE (dC, dI) zCl [] [.ref (gE.2.1 x0)] sz []) (va_Qi Z (zB (dC, dI) zCl [] (va_A [] sz) (fun u : Unit => [])) (va_A [] sz)) 0 0 (va_A [] sz) := by
  refine va_MetF (cc := prog_21_method_154_code) (maxL := 1) (ret := (some .boolean)) (by decide +kernel) rfl ?_
  intro p e s m args below meth c s₁ B hml hp
  obtain ⟨rfl, hsz, hP, hK, hD0, hE⟩ := hp
  have hts := atoms_spec (ws := (Cond.code (⟨"java/lang/String", "isLatin1", "()Z"⟩ : MethodName) prog_21_method_154_code 1 (some .boolean) :: zT)) B.pre
  have hown : s.vm.findClass "java/lang/String" = some m.cls := findClass_of_methodNamed B.named
  have hc : zC p s m _ meth c prog_21_method_154_code (some .boolean) 1 "java/lang/String" := ⟨B.exec, B.bytes, B.returns, hml, hown, fun w h => hts w (List.mem_cons_of_mem _ h), B.notSynchronized⟩
  subst hsz
  have hD := hD0.self (sz := s.heap.size)
  generalize hAe : va_A [] s.heap.size = A at hD hE ⊢
  have hA : ∀ q : Nat, s.heap.size ≤ q → A q := fun q h => by rw [← hAe]; exact Or.inr h
  have hl := lv_entry ([.ref (gE.2.1 x0)]) (n := 1) (Nat.le_of_ble_eq_true rfl)
  rw [lg_entry_eq]
  exact b_S_isLatin1_0 hc hA hE hl hK hP hD va_S.rf hv
theorem d_P_checkIndex_0 : decode prog_26_method_11_code 0 = .ok (.iload_n 0, 1) := by decide +kernel
theorem d_P_checkIndex_1 : decode prog_26_method_11_code 1 = .ok (.ifCond .lt 8, 3) := by decide +kernel
theorem d_P_checkIndex_4 : decode prog_26_method_11_code 4 = .ok (.iload_n 0, 1) := by decide +kernel
theorem d_P_checkIndex_5 : decode prog_26_method_11_code 5 = .ok (.iload_n 1, 1) := by decide +kernel
theorem d_P_checkIndex_6 : decode prog_26_method_11_code 6 = .ok (.if_icmp .lt 10, 3) := by decide +kernel
theorem d_P_checkIndex_9 : decode prog_26_method_11_code 9 = .ok (.aload_n 2, 1) := by decide +kernel
theorem d_P_checkIndex_16 : decode prog_26_method_11_code 16 = .ok (.iload_n 0, 1) := by decide +kernel
theorem d_P_checkIndex_17 : decode prog_26_method_11_code 17 = .ok (.ireturn, 1) := by decide +kernel
set_option maxHeartbeats 4000000 in
set_option maxRecDepth 100000 in
theorem b_P_checkIndex_9 {g2 : Option Nat} {x0 : Int32} {x1 : Int32}  {Z : Int32 → Unit → Prop} {H : Heap} {locs : List Loc} {ls : Array Slot} (hc : zC p s m args meth c prog_26_method_11_code (some .int) 3 "jdk/internal/util/Preconditions") (hA : ∀ q : Nat, s.heap.size ≤ q → A q) (hE : zE gE A s) (hl : lv_has ls 3 [(0, .int x0), (1, .int x1), (2, va_rf g2)]) (hK : va_K (dC, dI) zCl [] s) (hP : va_P (dC, dI) zCl [] H) (hD : va_D A []) (hS : va_S A s.heap H locs) (hv : v_P_checkIndex_9 x0 x1  Z) : W p l e (headSpec (Cond.code (⟨"jdk/internal/util/Preconditions", "checkIndex", "(IILjava/util/function/BiFunction;)I"⟩ : MethodName) prog_26_method_11_code 3 (some .int) :: zT) { frames := 0, cells := 0, slots := 0, locals := 0 }).room s m args below meth c H locs 0 0 (MQ below (va_Qi Z (zB (dC, dI) zCl [] A (fun u : Unit => [])) A) args s 0 0 A) (F0 m 9 ls []) := by
  obtain ⟨hx, hb, hr, hml, hown, ht, hlocks⟩ := id hc
  unfold v_P_checkIndex_9 at hv
  rcases g2 with _ | g2
  all_goals
    exact hv.elim
set_option maxHeartbeats 4000000 in
set_option maxRecDepth 100000 in
theorem b_P_checkIndex_0 {g2 : Option Nat} {x0 : Int32} {x1 : Int32}  {Z : Int32 → Unit → Prop} {H : Heap} {locs : List Loc} {ls : Array Slot} (hc : zC p s m args meth c prog_26_method_11_code (some .int) 3 "jdk/internal/util/Preconditions") (hA : ∀ q : Nat, s.heap.size ≤ q → A q) (hE : zE gE A s) (hl : lv_has ls 3 [(0, .int x0), (1, .int x1), (2, va_rf g2)]) (hK : va_K (dC, dI) zCl [] s) (hP : va_P (dC, dI) zCl [] H) (hD : va_D A []) (hS : va_S A s.heap H locs) (hv : v_P_checkIndex_0 x0 x1  Z) : W p l e (headSpec (Cond.code (⟨"jdk/internal/util/Preconditions", "checkIndex", "(IILjava/util/function/BiFunction;)I"⟩ : MethodName) prog_26_method_11_code 3 (some .int) :: zT) { frames := 0, cells := 0, slots := 0, locals := 0 }).room s m args below meth c H locs 0 0 (MQ below (va_Qi Z (zB (dC, dI) zCl [] A (fun u : Unit => [])) A) args s 0 0 A) (F0 m 0 ls []) := by
  obtain ⟨hx, hb, hr, hml, hown, ht, hlocks⟩ := id hc
  unfold v_P_checkIndex_0 at hv
  rcases g2 with _ | g2
  all_goals
    refine lv_iload_n hx hb d_P_checkIndex_0 rfl (lv_at hl 0 rfl) ?_
    refine lv_if_lt (tgt := 9) hx hb d_P_checkIndex_1 (by decide) (fun c_1 => ?_) (fun c_1 => ?_)
    · have hv := hv.1 c_1
      exact b_P_checkIndex_9 hc hA hE  (lv_sub hl [0, 1, 2] rfl) hK hP hD hS hv
    · have hv := hv.2 c_1
      refine lv_iload_n hx hb d_P_checkIndex_4 rfl (lv_at hl 0 rfl) ?_
      refine lv_iload_n hx hb d_P_checkIndex_5 rfl (lv_at hl 1 rfl) ?_
      refine lv_icmp_lt (tgt := 16) hx hb d_P_checkIndex_6 (by decide) (fun c_2 => ?_) (fun c_2 => ?_)
      · have hv := hv.1 c_2
        refine lv_iload_n hx hb d_P_checkIndex_16 rfl (lv_at hl 0 rfl) ?_
        exact W.iret (v := x0) hx hb hr (fun t ht hW => ⟨⟨_, (), rfl, hv, ⟨by rw [ht]; exact hP, va_K.moved hW.alike hK, hD⟩⟩, hS.F ht⟩) hS.2.2 d_P_checkIndex_17
      · have hv := hv.2 c_2
        exact b_P_checkIndex_9 hc hA hE  (lv_sub hl [0, 1, 2] rfl) hK hP hD hS hv
theorem zi_P_checkIndex : Cond.code (⟨"jdk/internal/util/Preconditions", "checkIndex", "(IILjava/util/function/BiFunction;)I"⟩ : MethodName) prog_26_method_11_code 3 (some .int) ∈ zT := zw_575
theorem zh_P_checkIndex : (((⟨"jdk/internal/util/Preconditions", "checkIndex", "(IILjava/util/function/BiFunction;)I"⟩ : MethodName)).cls ≠ "java/lang/invoke/MethodHandle" ∧ ((⟨"jdk/internal/util/Preconditions", "checkIndex", "(IILjava/util/function/BiFunction;)I"⟩ : MethodName)).cls ≠ "java/lang/invoke/VarHandle" ∧ (parseMethodDescriptor ((⟨"jdk/internal/util/Preconditions", "checkIndex", "(IILjava/util/function/BiFunction;)I"⟩ : MethodName)).desc).map (fun d => d.parameters.length) = some 3) := by decide +kernel
set_option maxHeartbeats 4000000 in
set_option maxRecDepth 100000 in
theorem m_P_checkIndex (l : Launch) (dC : Nat → ClassId) (dI : Nat → Nat → Nat) {gE : zG} {g2 : Option Nat} {x0 : Int32} {x1 : Int32} {sz : Nat} {Z : Int32 → Unit → Prop} (hv : v_P_checkIndex_0 x0 x1 Z) : Met l (⟨"jdk/internal/util/Preconditions", "checkIndex", "(IILjava/util/function/BiFunction;)I"⟩ : MethodName) (Cond.code (⟨"jdk/internal/util/Preconditions", "checkIndex", "(IILjava/util/function/BiFunction;)I"⟩ : MethodName) prog_26_method_11_code 3 (some .int) :: zT) { frames := 0, cells := 0, slots := 0, locals := 0 } (zPc gE (dC, dI) zCl [] [.int x0, .int x1, va_rf g2] sz []) (va_Qi Z (zB (dC, dI) zCl [] (va_A [] sz) (fun u : Unit => [])) (va_A [] sz)) 0 0 (va_A [] sz) := by
  refine va_MetF (cc := prog_26_method_11_code) (maxL := 3) (ret := (some .int)) (by decide +kernel) rfl ?_
  intro p e s m args below meth c s₁ B hml hp
  obtain ⟨rfl, hsz, hP, hK, hD0, hE⟩ := hp
  have hts := atoms_spec (ws := (Cond.code (⟨"jdk/internal/util/Preconditions", "checkIndex", "(IILjava/util/function/BiFunction;)I"⟩ : MethodName) prog_26_method_11_code 3 (some .int) :: zT)) B.pre
  have hown : s.vm.findClass "jdk/internal/util/Preconditions" = some m.cls := findClass_of_methodNamed B.named
  have hc : zC p s m _ meth c prog_26_method_11_code (some .int) 3 "jdk/internal/util/Preconditions" := ⟨B.exec, B.bytes, B.returns, hml, hown, fun w h => hts w (List.mem_cons_of_mem _ h), B.notSynchronized⟩
  subst hsz
  have hD := hD0.self (sz := s.heap.size)
  generalize hAe : va_A [] s.heap.size = A at hD hE ⊢
  have hA : ∀ q : Nat, s.heap.size ≤ q → A q := fun q h => by rw [← hAe]; exact Or.inr h
  rcases g2 with _ | g2
  · have hl := lv_entry ([.int x0, .int x1, va_rf none]) (n := 3) (Nat.le_of_ble_eq_true rfl)
    rw [lg_entry_eq]
    exact b_P_checkIndex_0 hc hA hE hl hK hP hD va_S.rf hv
  · have hl := lv_entry ([.int x0, .int x1, va_rf (some g2)]) (n := 3) (Nat.le_of_ble_eq_true rfl)
    rw [lg_entry_eq]
    exact b_P_checkIndex_0 hc hA hE hl hK hP hD va_S.rf hv

theorem d_S_checkIndex_0 : decode prog_21_method_155_code 0 = .ok (.iload_n 0, 1) := by decide +kernel
theorem d_S_checkIndex_1 : decode prog_21_method_155_code 1 = .ok (.iload_n 1, 1) := by decide +kernel
theorem d_S_checkIndex_2 : decode prog_21_method_155_code 2 = .ok (.getstatic 1053, 3) := by decide +kernel
theorem d_S_checkIndex_5 : decode prog_21_method_155_code 5 = .ok (.invokestatic 1059, 3) := by decide +kernel
theorem d_S_checkIndex_8 : decode prog_21_method_155_code 8 = .ok (.pop, 1) := by decide +kernel
theorem d_S_checkIndex_9 : decode prog_21_method_155_code 9 = .ok (.return_, 1) := by decide +kernel
set_option maxHeartbeats 4000000 in
set_option maxRecDepth 100000 in
theorem b_S_checkIndex_8  {s0 : Int32}  {Z : Unit → Prop} {H : Heap} {locs : List Loc} {ls : Array Slot} (hc : zC p s m args meth c prog_21_method_155_code none 2 "java/lang/String") (hA : ∀ q : Nat, s.heap.size ≤ q → A q) (hE : zE gE A s) (hl : lv_has ls 2 []) (hK : va_K (dC, dI) zCl [] s) (hP : va_P (dC, dI) zCl [] H) (hD : va_D A []) (hS : va_S A s.heap H locs) (hv : v_S_checkIndex_8 s0  Z) : W p l e (headSpec (Cond.code (⟨"java/lang/String", "checkIndex", "(II)V"⟩ : MethodName) prog_21_method_155_code 2 none :: zT) { frames := 1, cells := 0, slots := 0, locals := 22 }).room s m args below meth c H locs 0 0 (MQ below (va_Qv Z (zB (dC, dI) zCl [] A (fun u : Unit => [])) A) args s 0 0 A) (F0 m 8 ls [.int s0]) := by
  obtain ⟨hx, hb, hr, hml, hown, ht, hlocks⟩ := id hc
  unfold v_S_checkIndex_8 at hv
  refine lv_pop hx hb d_S_checkIndex_8 rfl ?_
  exact W.vret hx hb hr (fun t ht hW => ⟨⟨(), rfl, hv, ⟨by rw [ht]; exact hP, va_K.moved hW.alike hK, hD⟩⟩, hS.F ht⟩) hS.2.2 d_S_checkIndex_9
set_option maxHeartbeats 4000000 in
set_option maxRecDepth 100000 in
theorem b_S_checkIndex_0  {x0 : Int32} {x1 : Int32}  {Z : Unit → Prop} {H : Heap} {locs : List Loc} {ls : Array Slot} (hc : zC p s m args meth c prog_21_method_155_code none 2 "java/lang/String") (hA : ∀ q : Nat, s.heap.size ≤ q → A q) (hE : zE gE A s) (hl : lv_has ls 2 [(0, .int x0), (1, .int x1)]) (hK : va_K (dC, dI) zCl [] s) (hP : va_P (dC, dI) zCl [] H) (hD : va_D A []) (hS : va_S A s.heap H locs) (hv : v_S_checkIndex_0 x0 x1  Z) : W p l e (headSpec (Cond.code (⟨"java/lang/String", "checkIndex", "(II)V"⟩ : MethodName) prog_21_method_155_code 2 none :: zT) { frames := 1, cells := 0, slots := 0, locals := 22 }).room s m args below meth c H locs 0 0 (MQ below (va_Qv Z (zB (dC, dI) zCl [] A (fun u : Unit => [])) A) args s 0 0 A) (F0 m 0 ls []) := by
  obtain ⟨hx, hb, hr, hml, hown, ht, hlocks⟩ := id hc
  unfold v_S_checkIndex_0 at hv
  refine lv_iload_n hx hb d_S_checkIndex_0 rfl (lv_at hl 0 rfl) ?_
  refine lv_iload_n hx hb d_S_checkIndex_1 rfl (lv_at hl 1 rfl) ?_
  refine va_gets hx hb hE.form hS hown (ht _ zw_571) (fun _ h9 => h9) d_S_checkIndex_2 ?_
  refine z_calli (wc := []) (wr := []) [] [] (va_runS (As := [.int x0, .int x1, va_rf gE.2.2.2]) (rest := []) ⟨hx, hb, hml, hown, ht⟩ (m_P_checkIndex l dC dI hv) ⟨(callB_of 3 ht (zG_in zi_P_checkIndex) rfl rfl rfl (ht _ zw_131) (ht _ zw_573) zh_P_checkIndex ⟨Nat.le_of_ble_eq_true rfl, Nat.le_of_ble_eq_true rfl⟩), (ht _ zw_574)⟩ ⟨zPc_blind, zPc_pre hP hK hD hS hA hE [] [] rfl rfl (by decide) rfl⟩ rfl rfl hl.1 rfl (lv_room (Nat.le_of_ble_eq_true rfl)) d_S_checkIndex_5 ⟨Nat.le_of_ble_eq_true rfl, Nat.le_of_ble_eq_true rfl⟩) hP hD hS hA rfl rfl (by decide) (by decide) (fun r u H locs hv hP hD hS => ?_)
  have hP : va_P (dC, dI) zCl [] H := hP.sub [] rfl
  have hD : va_D A [] := hD.sub [] (by decide) rfl
  exact b_S_checkIndex_8 hc hA hE  (lv_sub hl [] rfl) hK hP hD hS hv
theorem zi_S_checkIndex : Cond.code (⟨"java/lang/String", "checkIndex", "(II)V"⟩ : MethodName) prog_21_method_155_code 2 none ∈ zT := zw_570
theorem zh_S_checkIndex : (((⟨"java/lang/String", "checkIndex", "(II)V"⟩ : MethodName)).cls ≠ "java/lang/invoke/MethodHandle" ∧ ((⟨"java/lang/String", "checkIndex", "(II)V"⟩ : MethodName)).cls ≠ "java/lang/invoke/VarHandle" ∧ (parseMethodDescriptor ((⟨"java/lang/String", "checkIndex", "(II)V"⟩ : MethodName)).desc).map (fun d => d.parameters.length) = some 2) := by decide +kernel
set_option maxHeartbeats 4000000 in
set_option maxRecDepth 100000 in
theorem m_S_checkIndex (l : Launch) (dC : Nat → ClassId) (dI : Nat → Nat → Nat) {gE : zG}  {x0 : Int32} {x1 : Int32} {sz : Nat} {Z : Unit → Prop} (hv : v_S_checkIndex_0 x0 x1 Z) : Met l (⟨"java/lang/String", "checkIndex", "(II)V"⟩ : MethodName) (Cond.code (⟨"java/lang/String", "checkIndex", "(II)V"⟩ : MethodName) prog_21_method_155_code 2 none :: zT) { frames := 1, cells := 0, slots := 0, locals := 22 } (zPc gE (dC, dI) zCl [] [.int x0, .int x1] sz []) (va_Qv Z (zB (dC, dI) zCl [] (va_A [] sz) (fun u : Unit => [])) (va_A [] sz)) 0 0 (va_A [] sz) := by
  refine va_MetF (cc := prog_21_method_155_code) (maxL := 2) (ret := none) (by decide +kernel) rfl ?_
  intro p e s m args below meth c s₁ B hml hp
  obtain ⟨rfl, hsz, hP, hK, hD0, hE⟩ := hp
  have hts := atoms_spec (ws := (Cond.code (⟨"java/lang/String", "checkIndex", "(II)V"⟩ : MethodName) prog_21_method_155_code 2 none :: zT)) B.pre
  have hown : s.vm.findClass "java/lang/String" = some m.cls := findClass_of_methodNamed B.named
  have hc : zC p s m _ meth c prog_21_method_155_code none 2 "java/lang/String" := ⟨B.exec, B.bytes, B.returns, hml, hown, fun w h => hts w (List.mem_cons_of_mem _ h), B.notSynchronized⟩
  subst hsz
  have hD := hD0.self (sz := s.heap.size)
  generalize hAe : va_A [] s.heap.size = A at hD hE ⊢
  have hA : ∀ q : Nat, s.heap.size ≤ q → A q := fun q h => by rw [← hAe]; exact Or.inr h
  have hl := lv_entry ([.int x0, .int x1]) (n := 2) (Nat.le_of_ble_eq_true rfl)
  rw [lg_entry_eq]
  exact b_S_checkIndex_0 hc hA hE hl hK hP hD va_S.rf hv
end
