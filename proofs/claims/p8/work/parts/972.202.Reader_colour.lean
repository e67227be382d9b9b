section
variable {p : Program} {l : Launch} {e : Env} {s : State} {m : MethodId} {args : Array Value} {below : List Frame} {meth : Method} {c : Code} {dC : Nat → ClassId} {dI : Nat → Nat → Nat} {A : Nat → Prop} {gE : zG}
theorem d_Reader_colour_0 : decode prog_9_method_44_code 0 = .ok (.iload_n 0, 1) := by decide +kernel
theorem d_Reader_colour_1 : decode prog_9_method_44_code 1 = .ok (.tableswitch 71 0 6 #[43, 47, 51, 55, 59, 63, 67], 43) := by decide +kernel
theorem d_Reader_colour_44 : decode prog_9_method_44_code 44 = .ok (.ldc_w 271, 3) := by decide +kernel
theorem d_Reader_colour_47 : decode prog_9_method_44_code 47 = .ok (.areturn, 1) := by decide +kernel
theorem d_Reader_colour_48 : decode prog_9_method_44_code 48 = .ok (.ldc_w 273, 3) := by decide +kernel
theorem d_Reader_colour_51 : decode prog_9_method_44_code 51 = .ok (.areturn, 1) := by decide +kernel
theorem d_Reader_colour_52 : decode prog_9_method_44_code 52 = .ok (.ldc_w 275, 3) := by decide +kernel
theorem d_Reader_colour_55 : decode prog_9_method_44_code 55 = .ok (.areturn, 1) := by decide +kernel
theorem d_Reader_colour_56 : decode prog_9_method_44_code 56 = .ok (.ldc_w 277, 3) := by decide +kernel
theorem d_Reader_colour_59 : decode prog_9_method_44_code 59 = .ok (.areturn, 1) := by decide +kernel
theorem d_Reader_colour_60 : decode prog_9_method_44_code 60 = .ok (.ldc_w 279, 3) := by decide +kernel
theorem d_Reader_colour_63 : decode prog_9_method_44_code 63 = .ok (.areturn, 1) := by decide +kernel
theorem d_Reader_colour_64 : decode prog_9_method_44_code 64 = .ok (.ldc_w 281, 3) := by decide +kernel
theorem d_Reader_colour_67 : decode prog_9_method_44_code 67 = .ok (.areturn, 1) := by decide +kernel
theorem d_Reader_colour_68 : decode prog_9_method_44_code 68 = .ok (.ldc_w 283, 3) := by decide +kernel
theorem d_Reader_colour_71 : decode prog_9_method_44_code 71 = .ok (.areturn, 1) := by decide +kernel
theorem d_Reader_colour_72 : decode prog_9_method_44_code 72 = .ok (.ldc_w 285, 3) := by decide +kernel
theorem d_Reader_colour_75 : decode prog_9_method_44_code 75 = .ok (.areturn, 1) := by decide +kernel
set_option maxHeartbeats 4000000 in
set_option maxRecDepth 100000 in
theorem b_Reader_colour_0  {x0 : Int32}  {Z : Nat → Unit → Prop} {H : Heap} {locs : List Loc} {ls : Array Slot} (hc : zC p s m args meth c prog_9_method_44_code (some (.object "java/lang/String")) 1 "NumberDress$Reader") (hA : ∀ q : Nat, s.heap.size ≤ q → A q) (hE : zE gE A s) (hl : lv_has ls 1 [(0, .int x0)]) (hK : va_K (dC, dI) zCl [] s) (hP : va_P (dC, dI) zCl [] H) (hD : va_D A []) (hS : va_S A s.heap H locs) (hv : v_Reader_colour_0 x0  Z) : W p l e (headSpec (Cond.code (⟨"NumberDress$Reader", "colour", "(I)Ljava/lang/String;"⟩ : MethodName) prog_9_method_44_code 1 (some (.object "java/lang/String")) :: zT) { frames := 0, cells := 0, slots := 0, locals := 0 }).room s m args below meth c H locs 0 0 (MQ below (va_Qr (fun u : (Unit) × Nat => Z u.2 u.1) (fun (u : (Unit) × Nat) a t => a = gE.2.1 u.2 ∧ zB (dC, dI) zCl [] A (fun u : (Unit) × Nat => []) u t) A) args s 0 0 A) (F0 m 0 ls []) := by
  obtain ⟨hx, hb, hr, hml, hown, ht, hlocks⟩ := id hc
  unfold v_Reader_colour_0 at hv
  refine lv_iload_n hx hb d_Reader_colour_0 rfl (lv_at hl 0 rfl) ?_
  by_cases c_1 : x0 = (0 : Int32)
  · have hv := hv.1 c_1
    refine lv_tableIn (off := 43) (tgt := 44) hx hb d_Reader_colour_1 (by rw [c_1] <;> decide) (by rw [c_1] <;> decide) (by rw [c_1] <;> rfl) (by decide) ?_
    refine z_ldcwS hx hb hown (hE.str (i := 0) (by decide)) d_Reader_colour_44 ?_
    exact W.aret (v := .ref (gE.2.1 0)) hx hb hr (Or.inl ⟨_, rfl⟩) (Or.inr ⟨_, rfl⟩) (fun t ht hW => ⟨⟨((), 0), _, rfl, hv, ⟨rfl, ⟨by rw [ht]; exact hP, va_K.moved hW.alike hK, hD⟩⟩⟩, hS.F ht⟩) hS.2.2 d_Reader_colour_47
  have hv := hv.2 c_1
  by_cases c_2 : x0 = (1 : Int32)
  · have hv := hv.1 c_2
    refine lv_tableIn (off := 47) (tgt := 48) hx hb d_Reader_colour_1 (by rw [c_2] <;> decide) (by rw [c_2] <;> decide) (by rw [c_2] <;> rfl) (by decide) ?_
    refine z_ldcwS hx hb hown (hE.str (i := 1) (by decide)) d_Reader_colour_48 ?_
    exact W.aret (v := .ref (gE.2.1 1)) hx hb hr (Or.inl ⟨_, rfl⟩) (Or.inr ⟨_, rfl⟩) (fun t ht hW => ⟨⟨((), 1), _, rfl, hv, ⟨rfl, ⟨by rw [ht]; exact hP, va_K.moved hW.alike hK, hD⟩⟩⟩, hS.F ht⟩) hS.2.2 d_Reader_colour_51
  have hv := hv.2 c_2
  by_cases c_3 : x0 = (2 : Int32)
  · have hv := hv.1 c_3
    refine lv_tableIn (off := 51) (tgt := 52) hx hb d_Reader_colour_1 (by rw [c_3] <;> decide) (by rw [c_3] <;> decide) (by rw [c_3] <;> rfl) (by decide) ?_
    refine z_ldcwS hx hb hown (hE.str (i := 2) (by decide)) d_Reader_colour_52 ?_
    exact W.aret (v := .ref (gE.2.1 2)) hx hb hr (Or.inl ⟨_, rfl⟩) (Or.inr ⟨_, rfl⟩) (fun t ht hW => ⟨⟨((), 2), _, rfl, hv, ⟨rfl, ⟨by rw [ht]; exact hP, va_K.moved hW.alike hK, hD⟩⟩⟩, hS.F ht⟩) hS.2.2 d_Reader_colour_55
  have hv := hv.2 c_3
  by_cases c_4 : x0 = (3 : Int32)
  · have hv := hv.1 c_4
    refine lv_tableIn (off := 55) (tgt := 56) hx hb d_Reader_colour_1 (by rw [c_4] <;> decide) (by rw [c_4] <;> decide) (by rw [c_4] <;> rfl) (by decide) ?_
    refine z_ldcwS hx hb hown (hE.str (i := 3) (by decide)) d_Reader_colour_56 ?_
    exact W.aret (v := .ref (gE.2.1 3)) hx hb hr (Or.inl ⟨_, rfl⟩) (Or.inr ⟨_, rfl⟩) (fun t ht hW => ⟨⟨((), 3), _, rfl, hv, ⟨rfl, ⟨by rw [ht]; exact hP, va_K.moved hW.alike hK, hD⟩⟩⟩, hS.F ht⟩) hS.2.2 d_Reader_colour_59
  have hv := hv.2 c_4
  by_cases c_5 : x0 = (4 : Int32)
  · have hv := hv.1 c_5
    refine lv_tableIn (off := 59) (tgt := 60) hx hb d_Reader_colour_1 (by rw [c_5] <;> decide) (by rw [c_5] <;> decide) (by rw [c_5] <;> rfl) (by decide) ?_
    refine z_ldcwS hx hb hown (hE.str (i := 4) (by decide)) d_Reader_colour_60 ?_
    exact W.aret (v := .ref (gE.2.1 4)) hx hb hr (Or.inl ⟨_, rfl⟩) (Or.inr ⟨_, rfl⟩) (fun t ht hW => ⟨⟨((), 4), _, rfl, hv, ⟨rfl, ⟨by rw [ht]; exact hP, va_K.moved hW.alike hK, hD⟩⟩⟩, hS.F ht⟩) hS.2.2 d_Reader_colour_63
  have hv := hv.2 c_5
  by_cases c_6 : x0 = (5 : Int32)
  · have hv := hv.1 c_6
    refine lv_tableIn (off := 63) (tgt := 64) hx hb d_Reader_colour_1 (by rw [c_6] <;> decide) (by rw [c_6] <;> decide) (by rw [c_6] <;> rfl) (by decide) ?_
    refine z_ldcwS hx hb hown (hE.str (i := 5) (by decide)) d_Reader_colour_64 ?_
    exact W.aret (v := .ref (gE.2.1 5)) hx hb hr (Or.inl ⟨_, rfl⟩) (Or.inr ⟨_, rfl⟩) (fun t ht hW => ⟨⟨((), 5), _, rfl, hv, ⟨rfl, ⟨by rw [ht]; exact hP, va_K.moved hW.alike hK, hD⟩⟩⟩, hS.F ht⟩) hS.2.2 d_Reader_colour_67
  have hv := hv.2 c_6
  by_cases c_7 : x0 = (6 : Int32)
  · have hv := hv.1 c_7
    refine lv_tableIn (off := 67) (tgt := 68) hx hb d_Reader_colour_1 (by rw [c_7] <;> decide) (by rw [c_7] <;> decide) (by rw [c_7] <;> rfl) (by decide) ?_
    refine z_ldcwS hx hb hown (hE.str (i := 6) (by decide)) d_Reader_colour_68 ?_
    exact W.aret (v := .ref (gE.2.1 6)) hx hb hr (Or.inl ⟨_, rfl⟩) (Or.inr ⟨_, rfl⟩) (fun t ht hW => ⟨⟨((), 6), _, rfl, hv, ⟨rfl, ⟨by rw [ht]; exact hP, va_K.moved hW.alike hK, hD⟩⟩⟩, hS.F ht⟩) hS.2.2 d_Reader_colour_71
  have hv := hv.2 c_7
  refine lv_tableOut (tgt := 72) hx hb d_Reader_colour_1 (by have ec_1 := lv_neT (a := 0) c_1 (by decide); have ec_2 := lv_neT (a := 1) c_2 (by decide); have ec_3 := lv_neT (a := 2) c_3 (by decide); have ec_4 := lv_neT (a := 3) c_4 (by decide); have ec_5 := lv_neT (a := 4) c_5 (by decide); have ec_6 := lv_neT (a := 5) c_6 (by decide); have ec_7 := lv_neT (a := 6) c_7 (by decide); omega) (by decide) ?_
  refine z_ldcwS hx hb hown (hE.str (i := 7) (by decide)) d_Reader_colour_72 ?_
  exact W.aret (v := .ref (gE.2.1 7)) hx hb hr (Or.inl ⟨_, rfl⟩) (Or.inr ⟨_, rfl⟩) (fun t ht hW => ⟨⟨((), 7), _, rfl, hv, ⟨rfl, ⟨by rw [ht]; exact hP, va_K.moved hW.alike hK, hD⟩⟩⟩, hS.F ht⟩) hS.2.2 d_Reader_colour_75
theorem zi_Reader_colour : Cond.code (⟨"NumberDress$Reader", "colour", "(I)Ljava/lang/String;"⟩ : MethodName) prog_9_method_44_code 1 (some (.object "java/lang/String")) ∈ zT := zw_530
theorem zh_Reader_colour : (((⟨"NumberDress$Reader", "colour", "(I)Ljava/lang/String;"⟩ : MethodName)).cls ≠ "java/lang/invoke/MethodHandle" ∧ ((⟨"NumberDress$Reader", "colour", "(I)Ljava/lang/String;"⟩ : MethodName)).cls ≠ "java/lang/invoke/VarHandle" ∧ (parseMethodDescriptor ((⟨"NumberDress$Reader", "colour", "(I)Ljava/lang/String;"⟩ : MethodName)).desc).map (fun d => d.parameters.length) = some 1) := by decide +kernel
set_option maxHeartbeats 4000000 in
set_option maxRecDepth 100000 in
theorem m_Reader_colour (l : Launch) (dC : Nat → ClassId) (dI : Nat → Nat → Nat) {gE : zG}  {x0 : Int32} {sz : Nat} {Z : Nat → Unit → Prop} (hv : v_Reader_colour_0 x0 Z) : Met l (⟨"NumberDress$Reader", "colour", "(I)Ljava/lang/String;"⟩ : MethodName) (Cond.code (⟨"NumberDress$Reader", "colour", "(I)Ljava/lang/String;"⟩ : MethodName) prog_9_method_44_code 1 (some (.object "java/lang/String")) :: zT) { frames := 0, cells := 0, slots := 0, locals := 0 } (zPc gE (dC, dI) zCl [] [.int x0] sz []) (va_Qr (fun u : (Unit) × Nat => Z u.2 u.1) (fun (u : (Unit) × Nat) a t => a = gE.2.1 u.2 ∧ zB (dC, dI) zCl [] (va_A [] sz) (fun u : (Unit) × Nat => []) u t) (va_A [] sz)) 0 0 (va_A [] sz) := by
  refine Met.ofW (cc := prog_9_method_44_code) (maxL := 1) (ret := (some (.object "java/lang/String"))) (by decide +kernel) rfl ?_
  intro p e s m args below meth c s₁ B hml hp
  obtain ⟨rfl, hsz, hP, hK, hD0, hE⟩ := hp
  have hts := atoms_spec (ws := (Cond.code (⟨"NumberDress$Reader", "colour", "(I)Ljava/lang/String;"⟩ : MethodName) prog_9_method_44_code 1 (some (.object "java/lang/String")) :: zT)) B.pre
  have hown : s.vm.findClass "NumberDress$Reader" = some m.cls := findClass_of_methodNamed B.named
  have hc : zC p s m _ meth c prog_9_method_44_code (some (.object "java/lang/String")) 1 "NumberDress$Reader" := ⟨B.exec, B.bytes, B.returns, hml, hown, fun w h => hts w (List.mem_cons_of_mem _ h), B.notSynchronized⟩
  subst hsz
  have hD := hD0.self (sz := s.heap.size)
  generalize hAe : va_A [] s.heap.size = A at hD hE ⊢
  have hA : ∀ q : Nat, s.heap.size ≤ q → A q := fun q h => by rw [← hAe]; exact Or.inr h
  have hl := lv_entry ([.int x0]) (n := 1) (Nat.le_of_ble_eq_true rfl)
  rw [lg_entry_eq]
  exact b_Reader_colour_0 hc hA hE hl hK hP hD va_S.rf hv
theorem d_Reader_small_0 : decode prog_9_method_35_code 0 = .ok (.iload_n 1, 1) := by decide +kernel
theorem d_Reader_small_1 : decode prog_9_method_35_code 1 = .ok (.ifCond .lt 29, 3) := by decide +kernel
theorem d_Reader_small_4 : decode prog_9_method_35_code 4 = .ok (.iload_n 1, 1) := by decide +kernel
theorem d_Reader_small_5 : decode prog_9_method_35_code 5 = .ok (.aload_n 0, 1) := by decide +kernel
theorem d_Reader_small_6 : decode prog_9_method_35_code 6 = .ok (.getfield 35, 3) := by decide +kernel
theorem d_Reader_small_9 : decode prog_9_method_35_code 9 = .ok (.if_icmp .ge 21, 3) := by decide +kernel
theorem d_Reader_small_12 : decode prog_9_method_35_code 12 = .ok (.iload_n 1, 1) := by decide +kernel
theorem d_Reader_small_13 : decode prog_9_method_35_code 13 = .ok (.aload_n 0, 1) := by decide +kernel
theorem d_Reader_small_14 : decode prog_9_method_35_code 14 = .ok (.getfield 9, 3) := by decide +kernel
theorem d_Reader_small_17 : decode prog_9_method_35_code 17 = .ok (.arraylength, 1) := by decide +kernel
theorem d_Reader_small_18 : decode prog_9_method_35_code 18 = .ok (.if_icmp .ge 12, 3) := by decide +kernel
theorem d_Reader_small_21 : decode prog_9_method_35_code 21 = .ok (.aload_n 0, 1) := by decide +kernel
theorem d_Reader_small_22 : decode prog_9_method_35_code 22 = .ok (.getfield 9, 3) := by decide +kernel
theorem d_Reader_small_25 : decode prog_9_method_35_code 25 = .ok (.iload_n 1, 1) := by decide +kernel
theorem d_Reader_small_26 : decode prog_9_method_35_code 26 = .ok (.caload, 1) := by decide +kernel
theorem d_Reader_small_27 : decode prog_9_method_35_code 27 = .ok (.goto 4, 3) := by decide +kernel
theorem d_Reader_small_30 : decode prog_9_method_35_code 30 = .ok (.iconst 0, 1) := by decide +kernel
theorem d_Reader_small_31 : decode prog_9_method_35_code 31 = .ok (.istore_n 2, 1) := by decide +kernel
theorem d_Reader_small_32 : decode prog_9_method_35_code 32 = .ok (.iload_n 2, 1) := by decide +kernel
theorem d_Reader_small_33 : decode prog_9_method_35_code 33 = .ok (.bipush 65, 2) := by decide +kernel
theorem d_Reader_small_35 : decode prog_9_method_35_code 35 = .ok (.if_icmp .lt 17, 3) := by decide +kernel
theorem d_Reader_small_38 : decode prog_9_method_35_code 38 = .ok (.iload_n 2, 1) := by decide +kernel
theorem d_Reader_small_39 : decode prog_9_method_35_code 39 = .ok (.bipush 90, 2) := by decide +kernel
theorem d_Reader_small_41 : decode prog_9_method_35_code 41 = .ok (.if_icmp .gt 11, 3) := by decide +kernel
theorem d_Reader_small_44 : decode prog_9_method_35_code 44 = .ok (.iload_n 2, 1) := by decide +kernel
theorem d_Reader_small_45 : decode prog_9_method_35_code 45 = .ok (.bipush 32, 2) := by decide +kernel
theorem d_Reader_small_47 : decode prog_9_method_35_code 47 = .ok (.iadd, 1) := by decide +kernel
theorem d_Reader_small_48 : decode prog_9_method_35_code 48 = .ok (.i2c, 1) := by decide +kernel
theorem d_Reader_small_49 : decode prog_9_method_35_code 49 = .ok (.goto 4, 3) := by decide +kernel
theorem d_Reader_small_52 : decode prog_9_method_35_code 52 = .ok (.iload_n 2, 1) := by decide +kernel
theorem d_Reader_small_53 : decode prog_9_method_35_code 53 = .ok (.ireturn, 1) := by decide +kernel
set_option maxHeartbeats 4000000 in
set_option maxRecDepth 100000 in
theorem b_Reader_small_31 {h0 : Nat} {a0_2 : Nat} {a0_3 : Nat} {h1 : Nat} {cA1 : ClassId} {I0 : Nat → Int32} {n1 : Nat} {f1 : Nat → Int32} {s0 : Int32}  {Z : Int32 → Unit → Prop} {H : Heap} {locs : List Loc} {ls : Array Slot} (hc : zC p s m args meth c prog_9_method_35_code (some .char) 3 "NumberDress$Reader") (hA : ∀ q : Nat, s.heap.size ≤ q → A q) (hE : zE gE A s) (hl : lv_has ls 3 []) (hK : va_K (dC, dI) zCl [(cA1, .char)] s) (hP : va_P (dC, dI) zCl [(h0, .inr (8, o_Reader I0 h1 a0_2 a0_3)), (h1, .inl (cA1, n1, .inl f1))] H) (hD : va_D A [(h0, .inr (8, o_Reader I0 h1 a0_2 a0_3)), (h1, .inl (cA1, n1, .inl f1))]) (hS : va_S A s.heap H locs) (hv : v_Reader_small_31 I0 n1 f1 s0  Z) : W p l e (headSpec (Cond.code (⟨"NumberDress$Reader", "small", "(I)C"⟩ : MethodName) prog_9_method_35_code 3 (some .char) :: zT) { frames := 0, cells := 0, slots := 0, locals := 0 }).room s m args below meth c H locs 0 0 (MQ below (va_Qi Z (zB (dC, dI) zCl [(cA1, .char)] A (fun u : Unit => [(h0, .inr (8, o_Reader I0 h1 a0_2 a0_3)), (h1, .inl (cA1, n1, .inl f1))])) A) args s 0 0 A) (F0 m 31 ls [.int s0]) := by
  obtain ⟨hx, hb, hr, hml, hown, ht, hlocks⟩ := id hc
  unfold v_Reader_small_31 at hv
  refine lv_istore_n (lv' := [(2, .int s0)]) hx hb d_Reader_small_31 rfl hl (by decide) rfl (fun ls hl => ?_)
  refine lv_iload_n hx hb d_Reader_small_32 rfl (lv_at hl 0 rfl) ?_
  refine lv_bipush (v := (65 : Int32)) hx hb d_Reader_small_33 (by decide) ?_
  refine lv_icmp_lt (tgt := 52) hx hb d_Reader_small_35 (by decide) (fun c_1 => ?_) (fun c_1 => ?_)
  · have hv := hv.1 c_1
    refine lv_iload_n hx hb d_Reader_small_52 rfl (lv_at hl 0 rfl) ?_
    exact W.zret (v := s0) hx hb hr (zc_n hv.1) (fun t ht hW => ⟨⟨_, (), rfl, hv.2, ⟨by rw [ht]; exact hP, va_K.moved hW.alike hK, hD⟩⟩, hS.F ht⟩) hS.2.2 d_Reader_small_53
  · have hv := hv.2 c_1
    refine lv_iload_n hx hb d_Reader_small_38 rfl (lv_at hl 0 rfl) ?_
    refine lv_bipush (v := (90 : Int32)) hx hb d_Reader_small_39 (by decide) ?_
    refine lv_icmp_gt (tgt := 52) hx hb d_Reader_small_41 (by decide) (fun c_2 => ?_) (fun c_2 => ?_)
    · have hv := hv.1 c_2
      refine lv_iload_n hx hb d_Reader_small_52 rfl (lv_at hl 0 rfl) ?_
      exact W.zret (v := s0) hx hb hr (zc_n hv.1) (fun t ht hW => ⟨⟨_, (), rfl, hv.2, ⟨by rw [ht]; exact hP, va_K.moved hW.alike hK, hD⟩⟩, hS.F ht⟩) hS.2.2 d_Reader_small_53
    · have hv := hv.2 c_2
      refine lv_iload_n hx hb d_Reader_small_44 rfl (lv_at hl 0 rfl) ?_
      refine lv_bipush (v := (32 : Int32)) hx hb d_Reader_small_45 (by decide) ?_
      refine lv_iadd hx hb d_Reader_small_47 ?_
      refine lv_i2c (v := ((s0 + (32 : Int32)).toUInt32 % 65536).toInt32) hx hb d_Reader_small_48 rfl ?_
      refine lv_goto (tgt := 53) hx hb d_Reader_small_49 (by decide) ?_
      exact W.zret (v := ((s0 + (32 : Int32)).toUInt32 % 65536).toInt32) hx hb hr (zc_n hv.1) (fun t ht hW => ⟨⟨_, (), rfl, hv.2, ⟨by rw [ht]; exact hP, va_K.moved hW.alike hK, hD⟩⟩, hS.F ht⟩) hS.2.2 d_Reader_small_53
set_option maxHeartbeats 4000000 in
set_option maxRecDepth 100000 in
theorem b_Reader_small_30 {h0 : Nat} {a0_2 : Nat} {a0_3 : Nat} {h1 : Nat} {cA1 : ClassId} {I0 : Nat → Int32} {n1 : Nat} {f1 : Nat → Int32}  {Z : Int32 → Unit → Prop} {H : Heap} {locs : List Loc} {ls : Array Slot} (hc : zC p s m args meth c prog_9_method_35_code (some .char) 3 "NumberDress$Reader") (hA : ∀ q : Nat, s.heap.size ≤ q → A q) (hE : zE gE A s) (hl : lv_has ls 3 []) (hK : va_K (dC, dI) zCl [(cA1, .char)] s) (hP : va_P (dC, dI) zCl [(h0, .inr (8, o_Reader I0 h1 a0_2 a0_3)), (h1, .inl (cA1, n1, .inl f1))] H) (hD : va_D A [(h0, .inr (8, o_Reader I0 h1 a0_2 a0_3)), (h1, .inl (cA1, n1, .inl f1))]) (hS : va_S A s.heap H locs) (hv : v_Reader_small_30 I0 n1 f1  Z) : W p l e (headSpec (Cond.code (⟨"NumberDress$Reader", "small", "(I)C"⟩ : MethodName) prog_9_method_35_code 3 (some .char) :: zT) { frames := 0, cells := 0, slots := 0, locals := 0 }).room s m args below meth c H locs 0 0 (MQ below (va_Qi Z (zB (dC, dI) zCl [(cA1, .char)] A (fun u : Unit => [(h0, .inr (8, o_Reader I0 h1 a0_2 a0_3)), (h1, .inl (cA1, n1, .inl f1))])) A) args s 0 0 A) (F0 m 30 ls []) := by
  obtain ⟨hx, hb, hr, hml, hown, ht, hlocks⟩ := id hc
  unfold v_Reader_small_30 at hv
  refine lv_iconst (v := (0 : Int32)) hx hb d_Reader_small_30 (by decide) ?_
  exact b_Reader_small_31 hc hA hE  (lv_sub hl [] rfl) hK hP hD hS hv
set_option maxHeartbeats 4000000 in
set_option maxRecDepth 100000 in
theorem b_Reader_small_0 {h0 : Nat} {a0_2 : Nat} {a0_3 : Nat} {h1 : Nat} {cA1 : ClassId} {I0 : Nat → Int32} {n1 : Nat} {f1 : Nat → Int32} {x1 : Int32}  {Z : Int32 → Unit → Prop} {H : Heap} {locs : List Loc} {ls : Array Slot} (hc : zC p s m args meth c prog_9_method_35_code (some .char) 3 "NumberDress$Reader") (hA : ∀ q : Nat, s.heap.size ≤ q → A q) (hE : zE gE A s) (hl : lv_has ls 3 [(0, .ref h0), (1, .int x1)]) (hK : va_K (dC, dI) zCl [(cA1, .char)] s) (hP : va_P (dC, dI) zCl [(h0, .inr (8, o_Reader I0 h1 a0_2 a0_3)), (h1, .inl (cA1, n1, .inl f1))] H) (hD : va_D A [(h0, .inr (8, o_Reader I0 h1 a0_2 a0_3)), (h1, .inl (cA1, n1, .inl f1))]) (hS : va_S A s.heap H locs) (hv : v_Reader_small_0 I0 n1 f1 x1  Z) : W p l e (headSpec (Cond.code (⟨"NumberDress$Reader", "small", "(I)C"⟩ : MethodName) prog_9_method_35_code 3 (some .char) :: zT) { frames := 0, cells := 0, slots := 0, locals := 0 }).room s m args below meth c H locs 0 0 (MQ below (va_Qi Z (zB (dC, dI) zCl [(cA1, .char)] A (fun u : Unit => [(h0, .inr (8, o_Reader I0 h1 a0_2 a0_3)), (h1, .inl (cA1, n1, .inl f1))])) A) args s 0 0 A) (F0 m 0 ls []) := by
  obtain ⟨hx, hb, hr, hml, hown, ht, hlocks⟩ := id hc
  unfold v_Reader_small_0 at hv
  refine lv_iload_n hx hb d_Reader_small_0 rfl (lv_at hl 1 rfl) ?_
  refine lv_if_lt (tgt := 30) hx hb d_Reader_small_1 (by decide) (fun c_1 => ?_) (fun c_1 => ?_)
  · have hv := hv.1 c_1
    exact b_Reader_small_30 hc hA hE  (lv_sub hl [] rfl) hK hP hD hS hv
  · have hv := hv.2 c_1
    refine lv_iload_n hx hb d_Reader_small_4 rfl (lv_at hl 1 rfl) ?_
    refine lv_aload_n hx hb d_Reader_small_5 rfl (lv_at hl 0 rfl) ?_
    refine va_get (D := (dC, dI)) (ci := 8) (v := .int (I0 1)) (C := "NumberDress$Reader") (T := T_Reader) (N := 5) hx hb ht zin_Reader hown hK hP 0 rfl rfl 1 (by decide) (ht _ zw_272) (fun _ h9 => h9) rfl d_Reader_small_6 ?_
    refine lv_icmp_ge (tgt := 30) hx hb d_Reader_small_9 (by decide) (fun c_2 => ?_) (fun c_2 => ?_)
    · have hv := hv.1 c_2
      exact b_Reader_small_30 hc hA hE  (lv_sub hl [] rfl) hK hP hD hS hv
    · have hv := hv.2 c_2
      refine lv_iload_n hx hb d_Reader_small_12 rfl (lv_at hl 1 rfl) ?_
      refine lv_aload_n hx hb d_Reader_small_13 rfl (lv_at hl 0 rfl) ?_
      refine va_get (D := (dC, dI)) (ci := 8) (v := .ref h1) (C := "NumberDress$Reader") (T := T_Reader) (N := 5) hx hb ht zin_Reader hown hK hP 0 rfl rfl 0 (by decide) (ht _ zw_271) (fun _ h9 => h9) rfl d_Reader_small_14 ?_
      refine va_alen (v := (nI n1)) hx hb hK hP 1 0 rfl rfl rfl d_Reader_small_17 ?_
      refine lv_icmp_ge (tgt := 30) hx hb d_Reader_small_18 (by decide) (fun c_3 => ?_) (fun c_3 => ?_)
      · have hv := hv.1 c_3
        exact b_Reader_small_30 hc hA hE  (lv_sub hl [] rfl) hK hP hD hS hv
      · have hv := hv.2 c_3
        refine lv_aload_n hx hb d_Reader_small_21 rfl (lv_at hl 0 rfl) ?_
        refine va_get (D := (dC, dI)) (ci := 8) (v := .ref h1) (C := "NumberDress$Reader") (T := T_Reader) (N := 5) hx hb ht zin_Reader hown hK hP 0 rfl rfl 0 (by decide) (ht _ zw_271) (fun _ h9 => h9) rfl d_Reader_small_22 ?_
        refine lv_iload_n hx hb d_Reader_small_25 rfl (lv_at hl 1 rfl) ?_
        obtain ⟨q_4, hv⟩ := hv
        refine va_cald hx hb hK hP 1 0 rfl rfl q_4 d_Reader_small_26 ?_
        refine lv_goto (tgt := 31) hx hb d_Reader_small_27 (by decide) ?_
        exact b_Reader_small_31 hc hA hE  (lv_sub hl [] rfl) hK hP hD hS hv
theorem zi_Reader_small : Cond.code (⟨"NumberDress$Reader", "small", "(I)C"⟩ : MethodName) prog_9_method_35_code 3 (some .char) ∈ zT := zw_556
theorem zh_Reader_small : (((⟨"NumberDress$Reader", "small", "(I)C"⟩ : MethodName)).cls ≠ "java/lang/invoke/MethodHandle" ∧ ((⟨"NumberDress$Reader", "small", "(I)C"⟩ : MethodName)).cls ≠ "java/lang/invoke/VarHandle" ∧ (parseMethodDescriptor ((⟨"NumberDress$Reader", "small", "(I)C"⟩ : MethodName)).desc).map (fun d => d.parameters.length) = some 1) := by decide +kernel
set_option maxHeartbeats 4000000 in
set_option maxRecDepth 100000 in
theorem m_Reader_small (l : Launch) (dC : Nat → ClassId) (dI : Nat → Nat → Nat) {gE : zG} {h0 : Nat} {a0_2 : Nat} {a0_3 : Nat} {h1 : Nat} {cA1 : ClassId} {I0 : Nat → Int32} {n1 : Nat} {f1 : Nat → Int32} {x1 : Int32} {sz : Nat} {Z : Int32 → Unit → Prop} (hv : v_Reader_small_0 I0 n1 f1 x1 Z) : Met l (⟨"NumberDress$Reader", "small", "(I)C"⟩ : MethodName) (Cond.code (⟨"NumberDress$Reader", "small", "(I)C"⟩ : MethodName) prog_9_method_35_code 3 (some .char) :: zT) { frames := 0, cells := 0, slots := 0, locals := 0 } (zPc gE (dC, dI) zCl [(cA1, .char)] [.ref h0, .int x1] sz [(h0, .inr (8, o_Reader I0 h1 a0_2 a0_3)), (h1, .inl (cA1, n1, .inl f1))]) (va_Qi Z (zB (dC, dI) zCl [(cA1, .char)] (va_A [(h0, .inr (8, o_Reader I0 h1 a0_2 a0_3)), (h1, .inl (cA1, n1, .inl f1))] sz) (fun u : Unit => [(h0, .inr (8, o_Reader I0 h1 a0_2 a0_3)), (h1, .inl (cA1, n1, .inl f1))])) (va_A [(h0, .inr (8, o_Reader I0 h1 a0_2 a0_3)), (h1, .inl (cA1, n1, .inl f1))] sz)) 0 0 (va_A [(h0, .inr (8, o_Reader I0 h1 a0_2 a0_3)), (h1, .inl (cA1, n1, .inl f1))] sz) := by
  refine Met.ofW (cc := prog_9_method_35_code) (maxL := 3) (ret := (some .char)) (by decide +kernel) rfl ?_
  intro p e s m args below meth c s₁ B hml hp
  obtain ⟨rfl, hsz, hP, hK, hD0, hE⟩ := hp
  have hts := atoms_spec (ws := (Cond.code (⟨"NumberDress$Reader", "small", "(I)C"⟩ : MethodName) prog_9_method_35_code 3 (some .char) :: zT)) B.pre
  have hown : s.vm.findClass "NumberDress$Reader" = some m.cls := findClass_of_methodNamed B.named
  have hc : zC p s m _ meth c prog_9_method_35_code (some .char) 3 "NumberDress$Reader" := ⟨B.exec, B.bytes, B.returns, hml, hown, fun w h => hts w (List.mem_cons_of_mem _ h), B.notSynchronized⟩
  subst hsz
  have hD := hD0.self (sz := s.heap.size)
  generalize hAe : va_A [(h0, .inr (8, o_Reader I0 h1 a0_2 a0_3)), (h1, .inl (cA1, n1, .inl f1))] s.heap.size = A at hD hE ⊢
  have hA : ∀ q : Nat, s.heap.size ≤ q → A q := fun q h => by rw [← hAe]; exact Or.inr h
  have hl := lv_entry ([.ref h0, .int x1]) (n := 3) (Nat.le_of_ble_eq_true rfl)
  rw [lg_entry_eq]
  exact b_Reader_small_0 hc hA hE hl hK hP hD va_S.rf hv
theorem d_S_isLatin1_0 : decode prog_21_method_154_code 0 = .ok (.getstatic 38, 3) := by decide +kernel
theorem d_S_isLatin1_3 : decode prog_21_method_154_code 3 = .ok (.ifCond .eq 14, 3) := by decide +kernel
theorem d_S_isLatin1_6 : decode prog_21_method_154_code 6 = .ok (.aload_n 0, 1) := by decide +kernel
theorem d_S_isLatin1_7 : decode prog_21_method_154_code 7 = .ok (.getfield 15, 3) := by decide +kernel
theorem d_S_isLatin1_10 : decode prog_21_method_154_code 10 = .ok (.ifCond .ne 7, 3) := by decide +kernel
theorem d_S_isLatin1_13 : decode prog_21_method_154_code 13 = .ok (.iconst 1, 1) := by decide +kernel
theorem d_S_isLatin1_14 : decode prog_21_method_154_code 14 = .ok (.goto 4, 3) := by decide +kernel
theorem d_S_isLatin1_18 : decode prog_21_method_154_code 18 = .ok (.ireturn, 1) := by decide +kernel
set_option maxHeartbeats 4000000 in
set_option maxRecDepth 100000 in
theorem b_S_isLatin1_0  {x0 : Nat}  {Z : Int32 → Unit → Prop} {H : Heap} {locs : List Loc} {ls : Array Slot} (hc : zC p s m args meth c prog_21_method_154_code (some .boolean) 1 "java/lang/String") (hA : ∀ q : Nat, s.heap.size ≤ q → A q) (hE : zE gE A s) (hl : lv_has ls 1 [(0, .ref (gE.2.1 x0))]) (hK : va_K (dC, dI) zCl [] s) (hP : va_P (dC, dI) zCl [] H) (hD : va_D A []) (hS : va_S A s.heap H locs) (hv : v_S_isLatin1_0 x0  Z) : W p l e (headSpec (Cond.code (⟨"java/lang/String", "isLatin1", "()Z"⟩ : MethodName) prog_21_method_154_code 1 (some .boolean) :: zT) { frames := 0, cells := 0, slots := 0, locals := 0 }).room s m args below meth c H locs 0 0 (MQ below (va_Qi Z (zB (dC, dI) zCl [] A (fun u : Unit => [])) A) args s 0 0 A) (F0 m 0 ls []) := by
  obtain ⟨hx, hb, hr, hml, hown, ht, hlocks⟩ := id hc
  unfold v_S_isLatin1_0 at hv
  refine va_gets hx hb hE.compact hS hown (ht _ zw_551) (fun _ h9 => h9) d_S_isLatin1_0 ?_
  refine lv_if_eq (tgt := 17) hx hb d_S_isLatin1_3 (by decide) (fun c_1 => absurd c_1 (by decide)) (fun c_1 => ?_)
  refine lv_aload_n hx hb d_S_isLatin1_6 rfl (lv_at hl 0 rfl) ?_
  obtain ⟨q_2, hv⟩ := hv
  refine vk_getf hx hb (hE.sfcoder q_2) hS hown (ht _ zw_1689) (fun _ h9 => h9) d_S_isLatin1_7 ?_
  refine lv_if_ne (tgt := 17) hx hb d_S_isLatin1_10 (by decide) (fun c_3 => absurd c_3 (by decide)) (fun c_3 => ?_)
  refine lv_iconst (v := (1 : Int32)) hx hb d_S_isLatin1_13 (by decide) ?_
  refine lv_goto (tgt := 18) hx hb d_S_isLatin1_14 (by decide) ?_
  exact W.zret (v := (1 : Int32)) hx hb hr (by decide) (fun t ht hW => ⟨⟨_, (), rfl, hv, ⟨by rw [ht]; exact hP, va_K.moved hW.alike hK, hD⟩⟩, hS.F ht⟩) hS.2.2 d_S_isLatin1_18
theorem zi_S_isLatin1 : Cond.code (⟨"java/lang/String", "isLatin1", "()Z"⟩ : MethodName) prog_21_method_154_code 1 (some .boolean) ∈ zT := zw_564
theorem zh_S_isLatin1 : (((⟨"java/lang/String", "isLatin1", "()Z"⟩ : MethodName)).cls ≠ "java/lang/invoke/MethodHandle" ∧ ((⟨"java/lang/String", "isLatin1", "()Z"⟩ : MethodName)).cls ≠ "java/lang/invoke/VarHandle" ∧ (parseMethodDescriptor ((⟨"java/lang/String", "isLatin1", "()Z"⟩ : MethodName)).desc).map (fun d => d.parameters.length) = some 0) := by decide +kernel
set_option maxHeartbeats 4000000 in
set_option maxRecDepth 100000 in
theorem m_S_isLatin1 (l : Launch) (dC : Nat → ClassId) (dI : Nat → Nat → Nat) {gE : zG}  {x0 : Nat} {sz : Nat} {Z : Int32 → Unit → Prop} (hv : v_S_isLatin1_0 x0 Z) : Met l (⟨"java/lang/String", "isLatin1", "()Z"⟩ : MethodName) (Cond.code (⟨"java/lang/String", "isLatin1", "()Z"⟩ : MethodName) prog_21_method_154_code 1 (some .boolean) :: zT) { frames := 0, cells := 0, slots := 0, locals := 0 } (zPc gE (dC, dI) zCl [] [.ref (gE.2.1 x0)] sz []) (va_Qi Z (zB (dC, dI) zCl [] (va_A [] sz) (fun u : Unit => [])) (va_A [] sz)) 0 0 (va_A [] sz) := by
  refine va_MetF (cc := prog_21_method_154_code) (maxL := 1) (ret := (some .boolean)) (by decide +kernel) rfl ?_
  intro p e s m args below meth c s₁ B hml hp
  obtain ⟨rfl, hsz, hP, hK, hD0, hE⟩ := hp
  have hts := atoms_spec (ws := (Cond.code (⟨"java/lang/String", "isLatin1", "()Z"⟩ : MethodName) prog_21_method_154_code 1 (some .boolean) :: zT)) B.pre
  have hown : s.vm.findClass "java/lang/String" = some m.cls := findClass_of_methodNamed B.named
  have hc : zC p s m _ meth c prog_21_method_154_code (some .boolean) 1 "java/lang/String" := ⟨B.exec, B.bytes, B.returns, hml, hown, fun w h => hts w (List.mem_cons_of_mem _ h), B.notSynchronized⟩
  subst hsz
  have hD := hD0.self (sz := s.heap.size)
  generalize hAe : va_A [] s.heap.size = A at hD hE ⊢
  have hA : ∀ q : Nat, s.heap.size ≤ q → A q := fun q h => by rw [← hAe]; exact Or.inr h
  have hl := lv_entry ([.ref (gE.2.1 x0)]) (n := 1) (Nat.le_of_ble_eq_true rfl)
  rw [lg_entry_eq]
  exact b_S_isLatin1_0 hc hA hE hl hK hP hD va_S.rf hv
theorem d_P_checkIndex_0 : decode prog_26_method_11_code 0 = .ok (.iload_n 0, 1) := by decide +kernel
theorem d_P_checkIndex_1 : decode prog_26_method_11_code 1 = .ok (.ifCond .lt 8, 3) := by decide +kernel
theorem d_P_checkIndex_4 : decode prog_26_method_11_code 4 = .ok (.iload_n 0, 1) := by decide +kernel
theorem d_P_checkIndex_5 : decode prog_26_method_11_code 5 = .ok (.iload_n 1, 1) := by decide +kernel
theorem d_P_checkIndex_6 : decode prog_26_method_11_code 6 = .ok (.if_icmp .lt 10, 3) := by decide +kernel
theorem d_P_checkIndex_9 : decode prog_26_method_11_code 9 = .ok (.aload_n 2, 1) := by decide +kernel
theorem d_P_checkIndex_16 : decode prog_26_method_11_code 16 = .ok (.iload_n 0, 1) := by decide +kernel
theorem d_P_checkIndex_17 : decode prog_26_method_11_code 17 = .ok (.ireturn, 1) := by decide +kernel
set_option maxHeartbeats 4000000 in
set_option maxRecDepth 100000 in
theorem b_P_checkIndex_9 {g2 : Option Nat} {x0 : Int32} {x1 : Int32}  {Z : Int32 → Unit → Prop} {H : Heap} {locs : List Loc} {ls : Array Slot} (hc : zC p s m args meth c prog_26_method_11_code (some .int) 3 "jdk/internal/util/Preconditions") (hA : ∀ q : Nat, s.heap.size ≤ q → A q) (hE : zE gE A s) (hl : lv_has ls 3 [(0, .int x0), (1, .int x1), (2, va_rf g2)]) (hK : va_K (dC, dI) zCl [] s) (hP : va_P (dC, dI) zCl [] H) (hD : va_D A []) (hS : va_S A s.heap H locs) (hv : v_P_checkIndex_9 x0 x1  Z) : W p l e (headSpec (Cond.code (⟨"jdk/internal/util/Preconditions", "checkIndex", "(IILjava/util/function/BiFunction;)I"⟩ : MethodName) prog_26_method_11_code 3 (some .int) :: zT) { frames := 0, cells := 0, slots := 0, locals := 0 }).room s m args below meth c H locs 0 0 (MQ below (va_Qi Z (zB (dC, dI) zCl [] A (fun u : Unit => [])) A) args s 0 0 A) (F0 m 9 ls []) := by
  obtain ⟨hx, hb, hr, hml, hown, ht, hlocks⟩ := id hc
  unfold v_P_checkIndex_9 at hv
  rcases g2 with _ | g2
  all_goals
    exact hv.elim
set_option maxHeartbeats 4000000 in
set_option maxRecDepth 100000 in
theorem b_P_checkIndex_0 {g2 : Option Nat} {x0 : Int32} {x1 : Int32}  {Z : Int32 → Unit → Prop} {H : Heap} {locs : List Loc} {ls : Array Slot} (hc : zC p s m args meth c prog_26_method_11_code (some .int) 3 "jdk/internal/util/Preconditions") (hA : ∀ q : Nat, s.heap.size ≤ q → A q) (hE : zE gE A s) (hl : lv_has ls 3 [(0, .int x0), (1, .int x1), (2, va_rf g2)]) (hK : va_K (dC, dI) zCl [] s) (hP : va_P (dC, dI) zCl [] H) (hD : va_D A []) (hS : va_S A s.heap H locs) (hv : v_P_checkIndex_0 x0 x1  Z) : W p l e (headSpec (Cond.code (⟨"jdk/internal/util/Preconditions", "checkIndex", "(IILjava/util/function/BiFunction;)I"⟩ : MethodName) prog_26_method_11_code 3 (some .int) :: zT) { frames := 0, cells := 0, slots := 0, locals := 0 }).room s m args below meth c H locs 0 0 (MQ below (va_Qi Z (zB (dC, dI) zCl [] A (fun u : Unit => [])) A) args s 0 0 A) (F0 m 0 ls []) := by
  obtain ⟨hx, hb, hr, hml, hown, ht, hlocks⟩ := id hc
  unfold v_P_checkIndex_0 at hv
  rcases g2 with _ | g2
  all_goals
    refine lv_iload_n hx hb d_P_checkIndex_0 rfl (lv_at hl 0 rfl) ?_
    refine lv_if_lt (tgt := 9) hx hb d_P_checkIndex_1 (by decide) (fun c_1 => ?_) (fun c_1 => ?_)
    · have hv := hv.1 c_1
      exact b_P_checkIndex_9 hc hA hE  (lv_sub hl [0, 1, 2] rfl) hK hP hD hS hv
    · have hv := hv.2 c_1
      refine lv_iload_n hx hb d_P_checkIndex_4 rfl (lv_at hl 0 rfl) ?_
      refine lv_iload_n hx hb d_P_checkIndex_5 rfl (lv_at hl 1 rfl) ?_
      refine lv_icmp_lt (tgt := 16) hx hb d_P_checkIndex_6 (by decide) (fun c_2 => ?_) (fun c_2 => ?_)
      · have hv := hv.1 c_2
        refine lv_iload_n hx hb d_P_checkIndex_16 rfl (lv_at hl 0 rfl) ?_
        exact W.iret (v := x0) hx hb hr (fun t ht hW => ⟨⟨_, (), rfl, hv, ⟨by rw [ht]; exact hP, va_K.moved hW.alike hK, hD⟩⟩, hS.F ht⟩) hS.2.2 d_P_checkIndex_17
      · have hv := hv.2 c_2
        exact b_P_checkIndex_9 hc hA hE  (lv_sub hl [0, 1, 2] rfl) hK hP hD hS hv
theorem zi_P_checkIndex : Cond.code (⟨"jdk/internal/util/Preconditions", "checkIndex", "(IILjava/util/function/BiFunction;)I"⟩ : MethodName) prog_26_method_11_code 3 (some .int) ∈ zT := zw_575
theorem zh_P_checkIndex : (((⟨"jdk/internal/util/Preconditions", "checkIndex", "(IILjava/util/function/BiFunction;)I"⟩ : MethodName)).cls ≠ "java/lang/invoke/MethodHandle" ∧ ((⟨"jdk/internal/util/Preconditions", "checkIndex", "(IILjava/util/function/BiFunction;)I"⟩ : MethodName)).cls ≠ "java/lang/invoke/VarHandle" ∧ (parseMethodDescriptor ((⟨"jdk/internal/util/Preconditions", "checkIndex", "(IILjava/util/function/BiFunction;)I"⟩ : MethodName)).desc).map (fun d => d.parameters.length) = some 3) := by decide +kernel
set_option maxHeartbeats 4000000 in
set_option maxRecDepth 100000 in
theorem m_P_checkIndex (l : Launch) (dC : Nat → ClassId) (dI : Nat → Nat → Nat) {gE : zG} {g2 : Option Nat} {x0 : Int32} {x1 : Int32} {sz : Nat} {Z : Int32 → Unit → Prop} (hv : v_P_checkIndex_0 x0 x1 Z) : Met l (⟨"jdk/internal/util/Preconditions", "checkIndex", "(IILjava/util/function/BiFunction;)I"⟩ : MethodName) (Cond.code (⟨"jdk/internal/util/Preconditions", "checkIndex", "(IILjava/util/function/BiFunction;)I"⟩ : MethodName) prog_26_method_11_code 3 (some .int) :: zT) { frames := 0, cells := 0, slots := 0, locals := 0 } (zPc gE (dC, dI) zCl [] [.int x0, .int x1, va_rf g2] sz []) (va_Qi Z (zB (dC, dI) zCl [] (va_A [] sz) (fun u : Unit => [])) (va_A [] sz)) 0 0 (va_A [] sz) := by
  refine va_MetF (cc := prog_26_method_11_code) (maxL := 3) (ret := (some .int)) (by decide +kernel) rfl ?_
  intro p e s m args below meth c s₁ B hml hp
  obtain ⟨rfl, hsz, hP, hK, hD0, hE⟩ := hp
  have hts := atoms_spec (ws := (Cond.code (⟨"jdk/internal/util/Preconditions", "checkIndex", "(IILjava/util/function/BiFunction;)I"⟩ : MethodName) prog_26_method_11_code 3 (some .int) :: zT)) B.pre
  have hown : s.vm.findClass "jdk/internal/util/Preconditions" = some m.cls := findClass_of_methodNamed B.named
  have hc : zC p s m _ meth c prog_26_method_11_code (some .int) 3 "jdk/internal/util/Preconditions" := ⟨B.exec, B.bytes, B.returns, hml, hown, fun w h => hts w (List.mem_cons_of_mem _ h), B.notSynchronized⟩
  subst hsz
  have hD := hD0.self (sz := s.heap.size)
  generalize hAe : va_A [] s.heap.size = A at hD hE ⊢
  have hA : ∀ q : Nat, s.heap.size ≤ q → A q := fun q h => by rw [← hAe]; exact Or.inr h
  rcases g2 with _ | g2
  · have hl := lv_entry ([.int x0, .int x1, va_rf none]) (n := 3) (Nat.le_of_ble_eq_true rfl)
    rw [lg_entry_eq]
    exact b_P_checkIndex_0 hc hA hE hl hK hP hD va_S.rf hv
  · have hl := lv_entry ([.int x0, .int x1, va_rf (some g2)]) (n := 3) (Nat.le_of_ble_eq_true rfl)
    rw [lg_entry_eq]
    exact b_P_checkIndex_0 hc hA hE hl hK hP hD va_S.rf hv

theorem d_S_checkIndex_0 : decode prog_21_method_155_code 0 = .ok (.iload_n 0, 1) := by decide +kernel
theorem d_S_checkIndex_1 : decode prog_21_method_155_code 1 = .ok (.iload_n 1, 1) := by decide +kernel
theorem d_S_checkIndex_2 : decode prog_21_method_155_code 2 = .ok (.getstatic 1053, 3) := by decide +kernel
theorem d_S_checkIndex_5 : decode prog_21_method_155_code 5 = .ok (.invokestatic 1059, 3) := by decide +kernel
theorem d_S_checkIndex_8 : decode prog_21_method_155_code 8 = .ok (.pop, 1) := by decide +kernel
theorem d_S_checkIndex_9 : decode prog_21_method_155_code 9 = .ok (.return_, 1) := by decide +kernel
set_option maxHeartbeats 4000000 in
set_option maxRecDepth 100000 in
theorem b_S_checkIndex_8  {s0 : Int32}  {Z : Unit → Prop} {H : Heap} {locs : List Loc} {ls : Array Slot} (hc : zC p s m args meth c prog_21_method_155_code none 2 "java/lang/String") (hA : ∀ q : Nat, s.heap.size ≤ q → A q) (hE : zE gE A s) (hl : lv_has ls 2 []) (hK : va_K (dC, dI) zCl [] s) (hP : va_P (dC, dI) zCl [] H) (hD : va_D A []) (hS : va_S A s.heap H locs) (hv : v_S_checkIndex_8 s0  Z) : W p l e (headSpec (Cond.code (⟨"java/lang/String", "checkIndex", "(II)V"⟩ : MethodName) prog_21_method_155_code 2 none :: zT) { frames := 1, cells := 0, slots := 0, locals := 22 }).room s m args below meth c H locs 0 0 (MQ below (va_Qv Z (zB (dC, dI) zCl [] A (fun u : Unit => [])) A) args s 0 0 A) (F0 m 8 ls [.int s0]) := by
  obtain ⟨hx, hb, hr, hml, hown, ht, hlocks⟩ := id hc
  unfold v_S_checkIndex_8 at hv
  refine lv_pop hx hb d_S_checkIndex_8 rfl ?_
  exact W.vret hx hb hr (fun t ht hW => ⟨⟨(), rfl, hv, ⟨by rw [ht]; exact hP, va_K.moved hW.alike hK, hD⟩⟩, hS.F ht⟩) hS.2.2 d_S_checkIndex_9
set_option maxHeartbeats 4000000 in
set_option maxRecDepth 100000 in
theorem b_S_checkIndex_0  {x0 : Int32} {x1 : Int32}  {Z : Unit → Prop} {H : Heap} {locs : List Loc} {ls : Array Slot} (hc : zC p s m args meth c prog_21_method_155_code none 2 "java/lang/String") (hA : ∀ q : Nat, s.heap.size ≤ q → A q) (hE : zE gE A s) (hl : lv_has ls 2 [(0, .int x0), (1, .int x1)]) (hK : va_K (dC, dI) zCl [] s) (hP : va_P (dC, dI) zCl [] H) (hD : va_D A []) (hS : va_S A s.heap H locs) (hv : v_S_checkIndex_0 x0 x1  Z) : W p l e (headSpec (Cond.code (⟨"java/lang/String", "checkIndex", "(II)V"⟩ : MethodName) prog_21_method_155_code 2 none :: zT) { frames := 1, cells := 0, slots := 0, locals := 22 }).room s m args below meth c H locs 0 0 (MQ below (va_Qv Z (zB (dC, dI) zCl [] A (fun u : Unit => [])) A) args s 0 0 A) (F0 m 0 ls []) := by
  obtain ⟨hx, hb, hr, hml, hown, ht, hlocks⟩ := id hc
  unfold v_S_checkIndex_0 at hv
  refine lv_iload_n hx hb d_S_checkIndex_0 rfl (lv_at hl 0 rfl) ?_
  refine lv_iload_n hx hb d_S_checkIndex_1 rfl (lv_at hl 1 rfl) ?_
  refine va_gets hx hb hE.form hS hown (ht _ zw_571) (fun _ h9 => h9) d_S_checkIndex_2 ?_
  refine z_calli (wc := []) (wr := []) [] [] (va_runS (As := [.int x0, .int x1, va_rf gE.2.2.2]) (rest := []) ⟨hx, hb, hml, hown, ht⟩ (m_P_checkIndex l dC dI hv) ⟨(callB_of 3 ht (zG_in zi_P_checkIndex) rfl rfl rfl (ht _ zw_131) (ht _ zw_573) zh_P_checkIndex ⟨Nat.le_of_ble_eq_true rfl, Nat.le_of_ble_eq_true rfl⟩), (ht _ zw_574)⟩ ⟨zPc_blind, zPc_pre hP hK hD hS hA hE [] [] rfl rfl (by decide) rfl⟩ rfl rfl hl.1 rfl (lv_room (Nat.le_of_ble_eq_true rfl)) d_S_checkIndex_5 ⟨Nat.le_of_ble_eq_true rfl, Nat.le_of_ble_eq_true rfl⟩) hP hD hS hA rfl rfl (by decide) (by decide) (fun r u H locs hv hP hD hS => ?_)
  have hP : va_P (dC, dI) zCl [] H := hP.sub [] rfl
  have hD : va_D A [] := hD.sub [] (by decide) rfl
  exact b_S_checkIndex_8 hc hA hE  (lv_sub hl [] rfl) hK hP hD hS hv
theorem zi_S_checkIndex : Cond.code (⟨"java/lang/String", "checkIndex", "(II)V"⟩ : MethodName) prog_21_method_155_code 2 none ∈ zT := zw_570
theorem zh_S_checkIndex : (((⟨"java/lang/String", "checkIndex", "(II)V"⟩ : MethodName)).cls ≠ "java/lang/invoke/MethodHandle" ∧ ((⟨"java/lang/String", "checkIndex", "(II)V"⟩ : MethodName)).cls ≠ "java/lang/invoke/VarHandle" ∧ (parseMethodDescriptor ((⟨"java/lang/String", "checkIndex", "(II)V"⟩ : MethodName)).desc).map (fun d => d.parameters.length) = some 2) := by decide +kernel
set_option maxHeartbeats 4000000 in
set_option maxRecDepth 100000 in
theorem m_S_checkIndex (l : Launch) (dC : Nat → ClassId) (dI : Nat → Nat → Nat) {gE : zG}  {x0 : Int32} {x1 : Int32} {sz : Nat} {Z : Unit → Prop} (hv : v_S_checkIndex_0 x0 x1 Z) : Met l (⟨"java/lang/String", "checkIndex", "(II)V"⟩ : MethodName) (Cond.code (⟨"java/lang/String", "checkIndex", "(II)V"⟩ : MethodName) prog_21_method_155_code 2 none :: zT) { frames := 1, cells := 0, slots := 0, locals := 22 } (zPc gE (dC, dI) zCl [] [.int x0, .int x1] sz []) (va_Qv Z (zB (dC, dI) zCl [] (va_A [] sz) (fun u : Unit => [])) (va_A [] sz)) 0 0 (va_A [] sz) := by
  refine va_MetF (cc := prog_21_method_155_code) (maxL := 2) (ret := none) (by decide +kernel) rfl ?_
  intro p e s m args below meth c s₁ B hml hp
  obtain ⟨rfl, hsz, hP, hK, hD0, hE⟩ := hp
  have hts := atoms_spec (ws := (Cond.code (⟨"java/lang/String", "checkIndex", "(II)V"⟩ : MethodName) prog_21_method_155_code 2 none :: zT)) B.pre
  have hown : s.vm.findClass "java/lang/String" = some m.cls := findClass_of_methodNamed B.named
  have hc : zC p s m _ meth c prog_21_method_155_code none 2 "java/lang/String" := ⟨B.exec, B.bytes, B.returns, hml, hown, fun w h => hts w (List.mem_cons_of_mem _ h), B.notSynchronized⟩
  subst hsz
  have hD := hD0.self (sz := s.heap.size)
  generalize hAe : va_A [] s.heap.size = A at hD hE ⊢
  have hA : ∀ q : Nat, s.heap.size ≤ q → A q := fun q h => by rw [← hAe]; exact Or.inr h
  have hl := lv_entry ([.int x0, .int x1]) (n := 2) (Nat.le_of_ble_eq_true rfl)
  rw [lg_entry_eq]
  exact b_S_checkIndex_0 hc hA hE hl hK hP hD va_S.rf hv
theorem d_SL_charAt_0 : decode prog_22_method_2_code 0 = .ok (.iload_n 1, 1) := by decide +kernel
theorem d_SL_charAt_1 : decode prog_22_method_2_code 1 = .ok (.aload_n 0, 1) := by decide +kernel
theorem d_SL_charAt_2 : decode prog_22_method_2_code 2 = .ok (.arraylength, 1) := by decide +kernel
theorem d_SL_charAt_3 : decode prog_22_method_2_code 3 = .ok (.invokestatic 9, 3) := by decide +kernel
theorem d_SL_charAt_6 : decode prog_22_method_2_code 6 = .ok (.aload_n 0, 1) := by decide +kernel
theorem d_SL_charAt_7 : decode prog_22_method_2_code 7 = .ok (.iload_n 1, 1) := by decide +kernel
theorem d_SL_charAt_8 : decode prog_22_method_2_code 8 = .ok (.baload, 1) := by decide +kernel
theorem d_SL_charAt_9 : decode prog_22_method_2_code 9 = .ok (.sipush 255, 3) := by decide +kernel
theorem d_SL_charAt_12 : decode prog_22_method_2_code 12 = .ok (.iand, 1) := by decide +kernel
theorem d_SL_charAt_13 : decode prog_22_method_2_code 13 = .ok (.i2c, 1) := by decide +kernel
theorem d_SL_charAt_14 : decode prog_22_method_2_code 14 = .ok (.ireturn, 1) := by decide +kernel
set_option maxHeartbeats 4000000 in
set_option maxRecDepth 100000 in
theorem b_SL_charAt_6  {x0 : Nat} {x1 : Int32}  {Z : Int32 → Unit → Prop} {H : Heap} {locs : List Loc} {ls : Array Slot} (hc : zC p s m args meth c prog_22_method_2_code (some .char) 2 "java/lang/StringLatin1") (hA : ∀ q : Nat, s.heap.size ≤ q → A q) (hE : zE gE A s) (hl : lv_has ls 2 [(0, .ref (gE.2.2.1 x0)), (1, .int x1)]) (hK : va_K (dC, dI) zCl [] s) (hP : va_P (dC, dI) zCl [] H) (hD : va_D A []) (hS : va_S A s.heap H locs) (hv : v_SL_charAt_6 x0 x1  Z) : W p l e (headSpec (Cond.code (⟨"java/lang/StringLatin1", "charAt", "([BI)C"⟩ : MethodName) prog_22_method_2_code 2 (some .char) :: zT) { frames := 2, cells := 0, slots := 0, locals := 43 }).room s m args below meth c H locs 0 0 (MQ below (va_Qi Z (zB (dC, dI) zCl [] A (fun u : Unit => [])) A) args s 0 0 A) (F0 m 6 ls []) := by
  obtain ⟨hx, hb, hr, hml, hown, ht, hlocks⟩ := id hc
  unfold v_SL_charAt_6 at hv
  refine lv_aload_n hx hb d_SL_charAt_6 rfl (lv_at hl 0 rfl) ?_
  refine lv_iload_n hx hb d_SL_charAt_7 rfl (lv_at hl 1 rfl) ?_
  obtain ⟨q_1, hv⟩ := hv
  obtain ⟨q_2, hv⟩ := hv
  refine va_tb hx hb (hE.sbytes q_1) hS q_2 rfl d_SL_charAt_8 ?_
  refine lv_sipush (v := (255 : Int32)) hx hb d_SL_charAt_9 (by decide) ?_
  refine lv_iand hx hb d_SL_charAt_12 ?_
  refine lv_i2c (v := (((zsb x0 x1.toNatClampNeg) &&& (255 : Int32)).toUInt32 % 65536).toInt32) hx hb d_SL_charAt_13 rfl ?_
  exact W.zret (v := (((zsb x0 x1.toNatClampNeg) &&& (255 : Int32)).toUInt32 % 65536).toInt32) hx hb hr (zc_n hv.1) (fun t ht hW => ⟨⟨_, (), rfl, hv.2, ⟨by rw [ht]; exact hP, va_K.moved hW.alike hK, hD⟩⟩, hS.F ht⟩) hS.2.2 d_SL_charAt_14
set_option maxHeartbeats 4000000 in
set_option maxRecDepth 100000 in
theorem b_SL_charAt_0  {x0 : Nat} {x1 : Int32}  {Z : Int32 → Unit → Prop} {H : Heap} {locs : List Loc} {ls : Array Slot} (hc : zC p s m args meth c prog_22_method_2_code (some .char) 2 "java/lang/StringLatin1") (hA : ∀ q : Nat, s.heap.size ≤ q → A q) (hE : zE gE A s) (hl : lv_has ls 2 [(0, .ref (gE.2.2.1 x0)), (1, .int x1)]) (hK : va_K (dC, dI) zCl [] s) (hP : va_P (dC, dI) zCl [] H) (hD : va_D A []) (hS : va_S A s.heap H locs) (hv : v_SL_charAt_0 x0 x1  Z) : W p l e (headSpec (Cond.code (⟨"java/lang/StringLatin1", "charAt", "([BI)C"⟩ : MethodName) prog_22_method_2_code 2 (some .char) :: zT) { frames := 2, cells := 0, slots := 0, locals := 43 }).room s m args below meth c H locs 0 0 (MQ below (va_Qi Z (zB (dC, dI) zCl [] A (fun u : Unit => [])) A) args s 0 0 A) (F0 m 0 ls []) := by
  obtain ⟨hx, hb, hr, hml, hown, ht, hlocks⟩ := id hc
  unfold v_SL_charAt_0 at hv
  refine lv_iload_n hx hb d_SL_charAt_0 rfl (lv_at hl 1 rfl) ?_
  refine lv_aload_n hx hb d_SL_charAt_1 rfl (lv_at hl 0 rfl) ?_
  obtain ⟨q_1, hv⟩ := hv
  refine va_tlen (v := (nI (zsn x0))) hx hb (hE.sbytes q_1) hS rfl d_SL_charAt_2 ?_
  refine z_callv (wc := []) (wr := []) [] [] (va_runS (As := [.int x1, .int (nI (zsn x0))]) (rest := []) ⟨hx, hb, hml, hown, ht⟩ (m_S_checkIndex l dC dI hv) ⟨(callB_of 2 ht (zG_in zi_S_checkIndex) rfl rfl rfl (ht _ zw_129) (ht _ zw_568) zh_S_checkIndex ⟨Nat.le_of_ble_eq_true rfl, Nat.le_of_ble_eq_true rfl⟩), (ht _ zw_569)⟩ ⟨zPc_blind, zPc_pre hP hK hD hS hA hE [] [] rfl rfl (by decide) rfl⟩ rfl rfl hl.1 rfl (lv_room (Nat.le_of_ble_eq_true rfl)) d_SL_charAt_3 ⟨Nat.le_of_ble_eq_true rfl, Nat.le_of_ble_eq_true rfl⟩) hP hD hS hA rfl rfl (by decide) (by decide) (fun u H locs hv hP hD hS => ?_)
  have hP : va_P (dC, dI) zCl [] H := hP.sub [] rfl
  have hD : va_D A [] := hD.sub [] (by decide) rfl
  exact b_SL_charAt_6 hc hA hE  (lv_sub hl [0, 1] rfl) hK hP hD hS hv
theorem zi_SL_charAt : Cond.code (⟨"java/lang/StringLatin1", "charAt", "([BI)C"⟩ : MethodName) prog_22_method_2_code 2 (some .char) ∈ zT := zw_567
theorem zh_SL_charAt : (((⟨"java/lang/StringLatin1", "charAt", "([BI)C"⟩ : MethodName)).cls ≠ "java/lang/invoke/MethodHandle" ∧ ((⟨"java/lang/StringLatin1", "charAt", "([BI)C"⟩ : MethodName)).cls ≠ "java/lang/invoke/VarHandle" ∧ (parseMethodDescriptor ((⟨"java/lang/StringLatin1", "charAt", "([BI)C"⟩ : MethodName)).desc).map (fun d => d.parameters.length) = some 2) := by decide +kernel
set_option maxHeartbeats 4000000 in
set_option maxRecDepth 100000 in
theorem m_SL_charAt (l : Launch) (dC : Nat → ClassId) (dI : Nat → Nat → Nat) {gE : zG}  {x0 : Nat} {x1 : Int32} {sz : Nat} {Z : Int32 → Unit → Prop} (hv : v_SL_charAt_0 x0 x1 Z) : Met l (⟨"java/lang/StringLatin1", "charAt", "([BI)C"⟩ : MethodName) (Cond.code (⟨"java/lang/StringLatin1", "charAt", "([BI)C"⟩ : MethodName) prog_22_method_2_code 2 (some .char) :: zT) { frames := 2, cells := 0, slots := 0, locals := 43 } (zPc gE (dC, dI) zCl [] [.ref (gE.2.2.1 x0), .int x1] sz []) (va_Qi Z (zB (dC, dI) zCl [] (va_A [] sz) (fun u : Unit => [])) (va_A [] sz)) 0 0 (va_A [] sz) := by
  refine va_MetF (cc := prog_22_method_2_code) (maxL := 2) (ret := (some .char)) (by decide +kernel) rfl ?_
  intro p e s m args below meth c s₁ B hml hp
  obtain ⟨rfl, hsz, hP, hK, hD0, hE⟩ := hp
  have hts := atoms_spec (ws := (Cond.code (⟨"java/lang/StringLatin1", "charAt", "([BI)C"⟩ : MethodName) prog_22_method_2_code 2 (some .char) :: zT)) B.pre
  have hown : s.vm.findClass "java/lang/StringLatin1" = some m.cls := findClass_of_methodNamed B.named
  have hc : zC p s m _ meth c prog_22_method_2_code (some .char) 2 "java/lang/StringLatin1" := ⟨B.exec, B.bytes, B.returns, hml, hown, fun w h => hts w (List.mem_cons_of_mem _ h), B.notSynchronized⟩
  subst hsz
  have hD := hD0.self (sz := s.heap.size)
  generalize hAe : va_A [] s.heap.size = A at hD hE ⊢
  have hA : ∀ q : Nat, s.heap.size ≤ q → A q := fun q h => by rw [← hAe]; exact Or.inr h
  have hl := lv_entry ([.ref (gE.2.2.1 x0), .int x1]) (n := 2) (Nat.le_of_ble_eq_true rfl)
  rw [lg_entry_eq]
  exact b_SL_charAt_0 hc hA hE hl hK hP hD va_S.rf hv
theorem d_S_charAt_0 : decode prog_21_method_56_code 0 = .ok (.aload_n 0, 1) := by decide +kernel
theorem d_S_charAt_1 : decode prog_21_method_56_code 1 = .ok (.invokevirtual 492, 3) := by decide +kernel
theorem d_S_charAt_4 : decode prog_21_method_56_code 4 = .ok (.ifCond .eq 12, 3) := by decide +kernel
theorem d_S_charAt_7 : decode prog_21_method_56_code 7 = .ok (.aload_n 0, 1) := by decide +kernel
theorem d_S_charAt_8 : decode prog_21_method_56_code 8 = .ok (.getfield 9, 3) := by decide +kernel
theorem d_S_charAt_11 : decode prog_21_method_56_code 11 = .ok (.iload_n 1, 1) := by decide +kernel
theorem d_S_charAt_12 : decode prog_21_method_56_code 12 = .ok (.invokestatic 495, 3) := by decide +kernel
theorem d_S_charAt_15 : decode prog_21_method_56_code 15 = .ok (.ireturn, 1) := by decide +kernel
theorem d_S_charAt_16 : decode prog_21_method_56_code 16 = .ok (.aload_n 0, 1) := by decide +kernel
theorem d_S_charAt_17 : decode prog_21_method_56_code 17 = .ok (.getfield 9, 3) := by decide +kernel
theorem d_S_charAt_20 : decode prog_21_method_56_code 20 = .ok (.iload_n 1, 1) := by decide +kernel
theorem d_S_charAt_21 : decode prog_21_method_56_code 21 = .ok (.invokestatic 498, 3) := by decide +kernel
set_option maxHeartbeats 4000000 in
set_option maxRecDepth 100000 in
theorem b_S_charAt_15  {s0 : Int32}  {Z : Int32 → Unit → Prop} {H : Heap} {locs : List Loc} {ls : Array Slot} (hc : zC p s m args meth c prog_21_method_56_code (some .char) 2 "java/lang/String") (hA : ∀ q : Nat, s.heap.size ≤ q → A q) (hE : zE gE A s) (hl : lv_has ls 2 []) (hK : va_K (dC, dI) zCl [] s) (hP : va_P (dC, dI) zCl [] H) (hD : va_D A []) (hS : va_S A s.heap H locs) (hv : v_S_charAt_15 s0  Z) : W p l e (headSpec (Cond.code (⟨"java/lang/String", "charAt", "(I)C"⟩ : MethodName) prog_21_method_56_code 2 (some .char) :: zT) { frames := 3, cells := 0, slots := 0, locals := 64 }).room s m args below meth c H locs 0 0 (MQ below (va_Qi Z (zB (dC, dI) zCl [] A (fun u : Unit => [])) A) args s 0 0 A) (F0 m 15 ls [.int s0]) := by
  obtain ⟨hx, hb, hr, hml, hown, ht, hlocks⟩ := id hc
  unfold v_S_charAt_15 at hv
  exact W.zret (v := s0) hx hb hr (zc_n hv.1) (fun t ht hW => ⟨⟨_, (), rfl, hv.2, ⟨by rw [ht]; exact hP, va_K.moved hW.alike hK, hD⟩⟩, hS.F ht⟩) hS.2.2 d_S_charAt_15
set_option maxHeartbeats 4000000 in
set_option maxRecDepth 100000 in
theorem b_S_charAt_4  {x0 : Nat} {x1 : Int32} {s0 : Int32}  {Z : Int32 → Unit → Prop} {H : Heap} {locs : List Loc} {ls : Array Slot} (hc : zC p s m args meth c prog_21_method_56_code (some .char) 2 "java/lang/String") (hA : ∀ q : Nat, s.heap.size ≤ q → A q) (hE : zE gE A s) (hl : lv_has ls 2 [(0, .ref (gE.2.1 x0)), (1, .int x1)]) (hK : va_K (dC, dI) zCl [] s) (hP : va_P (dC, dI) zCl [] H) (hD : va_D A []) (hS : va_S A s.heap H locs) (hv : v_S_charAt_4 x0 x1 s0  Z) : W p l e (headSpec (Cond.code (⟨"java/lang/String", "charAt", "(I)C"⟩ : MethodName) prog_21_method_56_code 2 (some .char) :: zT) { frames := 3, cells := 0, slots := 0, locals := 64 }).room s m args below meth c H locs 0 0 (MQ below (va_Qi Z (zB (dC, dI) zCl [] A (fun u : Unit => [])) A) args s 0 0 A) (F0 m 4 ls [.int s0]) := by
  obtain ⟨hx, hb, hr, hml, hown, ht, hlocks⟩ := id hc
  unfold v_S_charAt_4 at hv
  refine lv_if_eq (tgt := 16) hx hb d_S_charAt_4 (by decide) (fun c_1 => ?_) (fun c_1 => ?_)
  · have hv := hv.1 c_1
    refine lv_aload_n hx hb d_S_charAt_16 rfl (lv_at hl 0 rfl) ?_
    obtain ⟨q_2, hv⟩ := hv
    refine vk_getf hx hb (hE.sfvalue q_2) hS hown (ht _ zw_1688) (fun _ h9 => h9) d_S_charAt_17 ?_
    refine lv_iload_n hx hb d_S_charAt_20 rfl (lv_at hl 1 rfl) ?_
    exact hv.elim
  · have hv := hv.2 c_1
    refine lv_aload_n hx hb d_S_charAt_7 rfl (lv_at hl 0 rfl) ?_
    obtain ⟨q_3, hv⟩ := hv
    refine vk_getf hx hb (hE.sfvalue q_3) hS hown (ht _ zw_1688) (fun _ h9 => h9) d_S_charAt_8 ?_
    refine lv_iload_n hx hb d_S_charAt_11 rfl (lv_at hl 1 rfl) ?_
    refine z_calli (wc := []) (wr := []) [] [] (va_runS (As := [.ref (gE.2.2.1 x0), .int x1]) (rest := []) ⟨hx, hb, hml, hown, ht⟩ (m_SL_charAt l dC dI hv) ⟨(callB_of 2 ht (zG_in zi_SL_charAt) rfl rfl rfl (ht _ zw_130) (ht _ zw_565) zh_SL_charAt ⟨Nat.le_of_ble_eq_true rfl, Nat.le_of_ble_eq_true rfl⟩), (ht _ zw_566)⟩ ⟨zPc_blind, zPc_pre hP hK hD hS hA hE [] [] rfl rfl (by decide) rfl⟩ rfl rfl hl.1 rfl (lv_room (Nat.le_of_ble_eq_true rfl)) d_S_charAt_12 ⟨Nat.le_of_ble_eq_true rfl, Nat.le_of_ble_eq_true rfl⟩) hP hD hS hA rfl rfl (by decide) (by decide) (fun r u H locs hv hP hD hS => ?_)
    have hP : va_P (dC, dI) zCl [] H := hP.sub [] rfl
    have hD : va_D A [] := hD.sub [] (by decide) rfl
    exact b_S_charAt_15 hc hA hE  (lv_sub hl [] rfl) hK hP hD hS hv
set_option maxHeartbeats 4000000 in
set_option maxRecDepth 100000 in
theorem b_S_charAt_0  {x0 : Nat} {x1 : Int32}  {Z : Int32 → Unit → Prop} {H : Heap} {locs : List Loc} {ls : Array Slot} (hc : zC p s m args meth c prog_21_method_56_code (some .char) 2 "java/lang/String") (hA : ∀ q : Nat, s.heap.size ≤ q → A q) (hE : zE gE A s) (hl : lv_has ls 2 [(0, .ref (gE.2.1 x0)), (1, .int x1)]) (hK : va_K (dC, dI) zCl [] s) (hP : va_P (dC, dI) zCl [] H) (hD : va_D A []) (hS : va_S A s.heap H locs) (hv : v_S_charAt_0 x0 x1  Z) : W p l e (headSpec (Cond.code (⟨"java/lang/String", "charAt", "(I)C"⟩ : MethodName) prog_21_method_56_code 2 (some .char) :: zT) { frames := 3, cells := 0, slots := 0, locals := 64 }).room s m args below meth c H locs 0 0 (MQ below (va_Qi Z (zB (dC, dI) zCl [] A (fun u : Unit => [])) A) args s 0 0 A) (F0 m 0 ls []) := by
  obtain ⟨hx, hb, hr, hml, hown, ht, hlocks⟩ := id hc
  unfold v_S_charAt_0 at hv
  refine lv_aload_n hx hb d_S_charAt_0 rfl (lv_at hl 0 rfl) ?_
  obtain ⟨qs, hv⟩ := hv
  refine z_calli (wc := []) (wr := []) [] [] (va_runV (As := []) (rest := []) ⟨hx, hb, hml, hown, ht⟩ (m_S_isLatin1 l dC dI hv) ⟨(callB_of 0 ht (zG_in zi_S_isLatin1) rfl rfl rfl (ht _ zw_129) (ht _ zw_561) zh_S_isLatin1 ⟨Nat.le_of_ble_eq_true rfl, Nat.le_of_ble_eq_true rfl⟩), (ht _ zw_562), (ht _ zw_563)⟩ ⟨zPc_blind, hE.srecv qs hS, zPc_pre hP hK hD hS hA hE [] [] rfl rfl (by decide) rfl⟩ rfl rfl hl.1 rfl (lv_room (Nat.le_of_ble_eq_true rfl)) d_S_charAt_1 ⟨Nat.le_of_ble_eq_true rfl, Nat.le_of_ble_eq_true rfl⟩) hP hD hS hA rfl rfl (by decide) (by decide) (fun r u H locs hv hP hD hS => ?_)
  have hP : va_P (dC, dI) zCl [] H := hP.sub [] rfl
  have hD : va_D A [] := hD.sub [] (by decide) rfl
  exact b_S_charAt_4 hc hA hE  (lv_sub hl [0, 1] rfl) hK hP hD hS hv
theorem zi_S_charAt : Cond.code (⟨"java/lang/String", "charAt", "(I)C"⟩ : MethodName) prog_21_method_56_code 2 (some .char) ∈ zT := zw_560
theorem zh_S_charAt : (((⟨"java/lang/String", "charAt", "(I)C"⟩ : MethodName)).cls ≠ "java/lang/invoke/MethodHandle" ∧ ((⟨"java/lang/String", "charAt", "(I)C"⟩ : MethodName)).cls ≠ "java/lang/invoke/VarHandle" ∧ (parseMethodDescriptor ((⟨"java/lang/String", "charAt", "(I)C"⟩ : MethodName)).desc).map (fun d => d.parameters.length) = some 1) := by decide +kernel
set_option maxHeartbeats 4000000 in
set_option maxRecDepth 100000 in
theorem m_S_charAt (l : Launch) (dC : Nat → ClassId) (dI : Nat → Nat → Nat) {gE : zG}  {x0 : Nat} {x1 : Int32} {sz : Nat} {Z : Int32 → Unit → Prop} (hv : v_S_charAt_0 x0 x1 Z) : Met l (⟨"java/lang/String", "charAt", "(I)C"⟩ : MethodName) (Cond.code (⟨"java/lang/String", "charAt", "(I)C"⟩ : MethodName) prog_21_method_56_code 2 (some .char) :: zT) { frames := 3, cells := 0, slots := 0, locals := 64 } (zPc gE (dC, dI) zCl [] [.ref (gE.2.1 x0), .int x1] sz []) (va_Qi Z (zB (dC, dI) zCl [] (va_A [] sz) (fun u : Unit => [])) (va_A [] sz)) 0 0 (va_A [] sz) := by
  refine va_MetF (cc := prog_21_method_56_code) (maxL := 2) (ret := (some .char)) (by decide +kernel) rfl ?_
  intro p e s m args below meth c s₁ B hml hp
  obtain ⟨rfl, hsz, hP, hK, hD0, hE⟩ := hp
  have hts := atoms_spec (ws := (Cond.code (⟨"java/lang/String", "charAt", "(I)C"⟩ : MethodName) prog_21_method_56_code 2 (some .char) :: zT)) B.pre
  have hown : s.vm.findClass "java/lang/String" = some m.cls := findClass_of_methodNamed B.named
  have hc : zC p s m _ meth c prog_21_method_56_code (some .char) 2 "java/lang/String" := ⟨B.exec, B.bytes, B.returns, hml, hown, fun w h => hts w (List.mem_cons_of_mem _ h), B.notSynchronized⟩
  subst hsz
  have hD := hD0.self (sz := s.heap.size)
  generalize hAe : va_A [] s.heap.size = A at hD hE ⊢
  have hA : ∀ q : Nat, s.heap.size ≤ q → A q := fun q h => by rw [← hAe]; exact Or.inr h
  have hl := lv_entry ([.ref (gE.2.1 x0), .int x1]) (n := 2) (Nat.le_of_ble_eq_true rfl)
  rw [lg_entry_eq]
  exact b_S_charAt_0 hc hA hE hl hK hP hD va_S.rf hv
theorem d_S_coder_0 : decode prog_21_method_152_code 0 = .ok (.getstatic 38, 3) := by decide +kernel
theorem d_S_coder_3 : decode prog_21_method_152_code 3 = .ok (.ifCond .eq 10, 3) := by decide +kernel
theorem d_S_coder_6 : decode prog_21_method_152_code 6 = .ok (.aload_n 0, 1) := by decide +kernel
theorem d_S_coder_7 : decode prog_21_method_152_code 7 = .ok (.getfield 15, 3) := by decide +kernel
theorem d_S_coder_10 : decode prog_21_method_152_code 10 = .ok (.goto 4, 3) := by decide +kernel
theorem d_S_coder_14 : decode prog_21_method_152_code 14 = .ok (.ireturn, 1) := by decide +kernel
set_option maxHeartbeats 4000000 in
set_option maxRecDepth 100000 in
theorem b_S_coder_0  {x0 : Nat}  {Z : Int32 → Unit → Prop} {H : Heap} {locs : List Loc} {ls : Array Slot} (hc : zC p s m args meth c prog_21_method_152_code (some .byte) 1 "java/lang/String") (hA : ∀ q : Nat, s.heap.size ≤ q → A q) (hE : zE gE A s) (hl : lv_has ls 1 [(0, .ref (gE.2.1 x0))]) (hK : va_K (dC, dI) zCl [] s) (hP : va_P (dC, dI) zCl [] H) (hD : va_D A []) (hS : va_S A s.heap H locs) (hv : v_S_coder_0 x0  Z) : W p l e (headSpec (Cond.code (⟨"java/lang/String", "coder", "()B"⟩ : MethodName) prog_21_method_152_code 1 (some .byte) :: zT) { frames := 0, cells := 0, slots := 0, locals := 0 }).room s m args below meth c H locs 0 0 (MQ below (va_Qi Z (zB (dC, dI) zCl [] A (fun u : Unit => [])) A) args s 0 0 A) (F0 m 0 ls []) := by
  obtain ⟨hx, hb, hr, hml, hown, ht, hlocks⟩ := id hc
  unfold v_S_coder_0 at hv
  refine va_gets hx hb hE.compact hS hown (ht _ zw_551) (fun _ h9 => h9) d_S_coder_0 ?_
  refine lv_if_eq (tgt := 13) hx hb d_S_coder_3 (by decide) (fun c_1 => absurd c_1 (by decide)) (fun c_1 => ?_)
  refine lv_aload_n hx hb d_S_coder_6 rfl (lv_at hl 0 rfl) ?_
  obtain ⟨q_2, hv⟩ := hv
  refine vk_getf hx hb (hE.sfcoder q_2) hS hown (ht _ zw_1689) (fun _ h9 => h9) d_S_coder_7 ?_
  refine lv_goto (tgt := 14) hx hb d_S_coder_10 (by decide) ?_
  exact W.zret (v := (0 : Int32)) hx hb hr (by decide) (fun t ht hW => ⟨⟨_, (), rfl, hv, ⟨by rw [ht]; exact hP, va_K.moved hW.alike hK, hD⟩⟩, hS.F ht⟩) hS.2.2 d_S_coder_14
theorem zi_S_coder : Cond.code (⟨"java/lang/String", "coder", "()B"⟩ : MethodName) prog_21_method_152_code 1 (some .byte) ∈ zT := zw_550
theorem zh_S_coder : (((⟨"java/lang/String", "coder", "()B"⟩ : MethodName)).cls ≠ "java/lang/invoke/MethodHandle" ∧ ((⟨"java/lang/String", "coder", "()B"⟩ : MethodName)).cls ≠ "java/lang/invoke/VarHandle" ∧ (parseMethodDescriptor ((⟨"java/lang/String", "coder", "()B"⟩ : MethodName)).desc).map (fun d => d.parameters.length) = some 0) := by decide +kernel
set_option maxHeartbeats 4000000 in
set_option maxRecDepth 100000 in
theorem m_S_coder (l : Launch) (dC : Nat → ClassId) (dI : Nat → Nat → Nat) {gE : zG}  {x0 : Nat} {sz : Nat} {Z : Int32 → Unit → Prop} (hv : v_S_coder_0 x0 Z) : Met l (⟨"java/lang/String", "coder", "()B"⟩ : MethodName) (Cond.code (⟨"java/lang/String", "coder", "()B"⟩ : MethodName) prog_21_method_152_code 1 (some .byte) :: zT) { frames := 0, cells := 0, slots := 0, locals := 0 } (zPc gE (dC, dI) zCl [] [.ref (gE.2.1 x0)] sz []) (va_Qi Z (zB (dC, dI) zCl [] (va_A [] sz) (fun u : Unit => [])) (va_A [] sz)) 0 0 (va_A [] sz) := by
  refine va_MetF (cc := prog_21_method_152_code) (maxL := 1) (ret := (some .byte)) (by decide +kernel) rfl ?_
  intro p e s m args below meth c s₁ B hml hp
  obtain ⟨rfl, hsz, hP, hK, hD0, hE⟩ := hp
  have hts := atoms_spec (ws := (Cond.code (⟨"java/lang/String", "coder", "()B"⟩ : MethodName) prog_21_method_152_code 1 (some .byte) :: zT)) B.pre
  have hown : s.vm.findClass "java/lang/String" = some m.cls := findClass_of_methodNamed B.named
  have hc : zC p s m _ meth c prog_21_method_152_code (some .byte) 1 "java/lang/String" := ⟨B.exec, B.bytes, B.returns, hml, hown, fun w h => hts w (List.mem_cons_of_mem _ h), B.notSynchronized⟩
  subst hsz
  have hD := hD0.self (sz := s.heap.size)
  generalize hAe : va_A [] s.heap.size = A at hD hE ⊢
  have hA : ∀ q : Nat, s.heap.size ≤ q → A q := fun q h => by rw [← hAe]; exact Or.inr h
  have hl := lv_entry ([.ref (gE.2.1 x0)]) (n := 1) (Nat.le_of_ble_eq_true rfl)
  rw [lg_entry_eq]
  exact b_S_coder_0 hc hA hE hl hK hP hD va_S.rf hv
theorem d_S_length_0 : decode prog_21_method_54_code 0 = .ok (.aload_n 0, 1) := by decide +kernel
theorem d_S_length_1 : decode prog_21_method_54_code 1 = .ok (.getfield 9, 3) := by decide +kernel
theorem d_S_length_4 : decode prog_21_method_54_code 4 = .ok (.arraylength, 1) := by decide +kernel
theorem d_S_length_5 : decode prog_21_method_54_code 5 = .ok (.aload_n 0, 1) := by decide +kernel
theorem d_S_length_6 : decode prog_21_method_54_code 6 = .ok (.invokevirtual 335, 3) := by decide +kernel
theorem d_S_length_9 : decode prog_21_method_54_code 9 = .ok (.ishr, 1) := by decide +kernel
theorem d_S_length_10 : decode prog_21_method_54_code 10 = .ok (.ireturn, 1) := by decide +kernel
set_option maxHeartbeats 4000000 in
set_option maxRecDepth 100000 in
theorem b_S_length_9  {s0 : Int32} {s1 : Int32}  {Z : Int32 → Unit → Prop} {H : Heap} {locs : List Loc} {ls : Array Slot} (hc : zC p s m args meth c prog_21_method_54_code (some .int) 1 "java/lang/String") (hA : ∀ q : Nat, s.heap.size ≤ q → A q) (hE : zE gE A s) (hl : lv_has ls 1 []) (hK : va_K (dC, dI) zCl [] s) (hP : va_P (dC, dI) zCl [] H) (hD : va_D A []) (hS : va_S A s.heap H locs) (hv : v_S_length_9 s0 s1  Z) : W p l e (headSpec (Cond.code (⟨"java/lang/String", "length", "()I"⟩ : MethodName) prog_21_method_54_code 1 (some .int) :: zT) { frames := 1, cells := 0, slots := 0, locals := 20 }).room s m args below meth c H locs 0 0 (MQ below (va_Qi Z (zB (dC, dI) zCl [] A (fun u : Unit => [])) A) args s 0 0 A) (F0 m 9 ls [.int s1, .int s0]) := by
  obtain ⟨hx, hb, hr, hml, hown, ht, hlocks⟩ := id hc
  unfold v_S_length_9 at hv
  refine lv_ishr hx hb d_S_length_9 ?_
  exact W.iret (v := (s0 >>> (s1 &&& 31))) hx hb hr (fun t ht hW => ⟨⟨_, (), rfl, hv, ⟨by rw [ht]; exact hP, va_K.moved hW.alike hK, hD⟩⟩, hS.F ht⟩) hS.2.2 d_S_length_10
set_option maxHeartbeats 4000000 in
set_option maxRecDepth 100000 in
theorem b_S_length_0  {x0 : Nat}  {Z : Int32 → Unit → Prop} {H : Heap} {locs : List Loc} {ls : Array Slot} (hc : zC p s m args meth c prog_21_method_54_code (some .int) 1 "java/lang/String") (hA : ∀ q : Nat, s.heap.size ≤ q → A q) (hE : zE gE A s) (hl : lv_has ls 1 [(0, .ref (gE.2.1 x0))]) (hK : va_K (dC, dI) zCl [] s) (hP : va_P (dC, dI) zCl [] H) (hD : va_D A []) (hS : va_S A s.heap H locs) (hv : v_S_length_0 x0  Z) : W p l e (headSpec (Cond.code (⟨"java/lang/String", "length", "()I"⟩ : MethodName) prog_21_method_54_code 1 (some .int) :: zT) { frames := 1, cells := 0, slots := 0, locals := 20 }).room s m args below meth c H locs 0 0 (MQ below (va_Qi Z (zB (dC, dI) zCl [] A (fun u : Unit => [])) A) args s 0 0 A) (F0 m 0 ls []) := by
  obtain ⟨hx, hb, hr, hml, hown, ht, hlocks⟩ := id hc
  unfold v_S_length_0 at hv
  refine lv_aload_n hx hb d_S_length_0 rfl (lv_at hl 0 rfl) ?_
  obtain ⟨q_1, hv⟩ := hv
  refine vk_getf hx hb (hE.sfvalue q_1) hS hown (ht _ zw_1688) (fun _ h9 => h9) d_S_length_1 ?_
  obtain ⟨q_2, hv⟩ := hv
  refine va_tlen (v := (nI (zsn x0))) hx hb (hE.sbytes q_2) hS rfl d_S_length_4 ?_
  refine lv_aload_n hx hb d_S_length_5 rfl (lv_at hl 0 rfl) ?_
  obtain ⟨qs, hv⟩ := hv
  refine z_calli (wc := []) (wr := []) [] [] (va_runV (As := []) (rest := [.int (nI (zsn x0))]) ⟨hx, hb, hml, hown, ht⟩ (m_S_coder l dC dI hv) ⟨(callB_of 0 ht (zG_in zi_S_coder) rfl rfl rfl (ht _ zw_129) (ht _ zw_547) zh_S_coder ⟨Nat.le_of_ble_eq_true rfl, Nat.le_of_ble_eq_true rfl⟩), (ht _ zw_548), (ht _ zw_549)⟩ ⟨zPc_blind, hE.srecv qs hS, zPc_pre hP hK hD hS hA hE [] [] rfl rfl (by decide) rfl⟩ rfl rfl hl.1 rfl (lv_room (Nat.le_of_ble_eq_true rfl)) d_S_length_6 ⟨Nat.le_of_ble_eq_true rfl, Nat.le_of_ble_eq_true rfl⟩) hP hD hS hA rfl rfl (by decide) (by decide) (fun r u H locs hv hP hD hS => ?_)
  have hP : va_P (dC, dI) zCl [] H := hP.sub [] rfl
  have hD : va_D A [] := hD.sub [] (by decide) rfl
  exact b_S_length_9 hc hA hE  (lv_sub hl [] rfl) hK hP hD hS hv
theorem zi_S_length : Cond.code (⟨"java/lang/String", "length", "()I"⟩ : MethodName) prog_21_method_54_code 1 (some .int) ∈ zT := zw_546
theorem zh_S_length : (((⟨"java/lang/String", "length", "()I"⟩ : MethodName)).cls ≠ "java/lang/invoke/MethodHandle" ∧ ((⟨"java/lang/String", "length", "()I"⟩ : MethodName)).cls ≠ "java/lang/invoke/VarHandle" ∧ (parseMethodDescriptor ((⟨"java/lang/String", "length", "()I"⟩ : MethodName)).desc).map (fun d => d.parameters.length) = some 0) := by decide +kernel
set_option maxHeartbeats 4000000 in
set_option maxRecDepth 100000 in
theorem m_S_length (l : Launch) (dC : Nat → ClassId) (dI : Nat → Nat → Nat) {gE : zG}  {x0 : Nat} {sz : Nat} {Z : Int32 → Unit → Prop} (hv : v_S_length_0 x0 Z) : Met l (⟨"java/lang/String", "length", "()I"⟩ : MethodName) (Cond.code (⟨"java/lang/String", "length", "()I"⟩ : MethodName) prog_21_method_54_code 1 (some .int) :: zT) { frames := 1, cells := 0, slots := 0, locals := 20 } (zPc gE (dC, dI) zCl [] [.ref (gE.2.1 x0)] sz []) (va_Qi Z (zB (dC, dI) zCl [] (va_A [] sz) (fun u : Unit => [])) (va_A [] sz)) 0 0 (va_A [] sz) := by
  refine va_MetF (cc := prog_21_method_54_code) (maxL := 1) (ret := (some .int)) (by decide +kernel) rfl ?_
  intro p e s m args below meth c s₁ B hml hp
  obtain ⟨rfl, hsz, hP, hK, hD0, hE⟩ := hp
  have hts := atoms_spec (ws := (Cond.code (⟨"java/lang/String", "length", "()I"⟩ : MethodName) prog_21_method_54_code 1 (some .int) :: zT)) B.pre
  have hown : s.vm.findClass "java/lang/String" = some m.cls := findClass_of_methodNamed B.named
  have hc : zC p s m _ meth c prog_21_method_54_code (some .int) 1 "java/lang/String" := ⟨B.exec, B.bytes, B.returns, hml, hown, fun w h => hts w (List.mem_cons_of_mem _ h), B.notSynchronized⟩
  subst hsz
  have hD := hD0.self (sz := s.heap.size)
  generalize hAe : va_A [] s.heap.size = A at hD hE ⊢
  have hA : ∀ q : Nat, s.heap.size ≤ q → A q := fun q h => by rw [← hAe]; exact Or.inr h
  have hl := lv_entry ([.ref (gE.2.1 x0)]) (n := 1) (Nat.le_of_ble_eq_true rfl)
  rw [lg_entry_eq]
  exact b_S_length_0 hc hA hE hl hK hP hD va_S.rf hv
theorem d_Reader_goesOn_0 : decode prog_9_method_36_code 0 = .ok (.iconst 0, 1) := by decide +kernel
theorem d_Reader_goesOn_1 : decode prog_9_method_36_code 1 = .ok (.istore_n 3, 1) := by decide +kernel
theorem d_Reader_goesOn_2 : decode prog_9_method_36_code 2 = .ok (.iload_n 3, 1) := by decide +kernel
theorem d_Reader_goesOn_3 : decode prog_9_method_36_code 3 = .ok (.aload_n 2, 1) := by decide +kernel
theorem d_Reader_goesOn_4 : decode prog_9_method_36_code 4 = .ok (.invokevirtual 146, 3) := by decide +kernel
theorem d_Reader_goesOn_7 : decode prog_9_method_36_code 7 = .ok (.if_icmp .ge 26, 3) := by decide +kernel
theorem d_Reader_goesOn_10 : decode prog_9_method_36_code 10 = .ok (.aload_n 0, 1) := by decide +kernel
theorem d_Reader_goesOn_11 : decode prog_9_method_36_code 11 = .ok (.iload_n 1, 1) := by decide +kernel
theorem d_Reader_goesOn_12 : decode prog_9_method_36_code 12 = .ok (.iload_n 3, 1) := by decide +kernel
theorem d_Reader_goesOn_13 : decode prog_9_method_36_code 13 = .ok (.iadd, 1) := by decide +kernel
theorem d_Reader_goesOn_14 : decode prog_9_method_36_code 14 = .ok (.invokevirtual 99, 3) := by decide +kernel
theorem d_Reader_goesOn_17 : decode prog_9_method_36_code 17 = .ok (.aload_n 2, 1) := by decide +kernel
theorem d_Reader_goesOn_18 : decode prog_9_method_36_code 18 = .ok (.iload_n 3, 1) := by decide +kernel
theorem d_Reader_goesOn_19 : decode prog_9_method_36_code 19 = .ok (.invokevirtual 259, 3) := by decide +kernel
theorem d_Reader_goesOn_22 : decode prog_9_method_36_code 22 = .ok (.if_icmp .eq 5, 3) := by decide +kernel
theorem d_Reader_goesOn_25 : decode prog_9_method_36_code 25 = .ok (.iconst 0, 1) := by decide +kernel
theorem d_Reader_goesOn_26 : decode prog_9_method_36_code 26 = .ok (.ireturn, 1) := by decide +kernel
theorem d_Reader_goesOn_27 : decode prog_9_method_36_code 27 = .ok (.iinc 3 1, 3) := by decide +kernel
theorem d_Reader_goesOn_30 : decode prog_9_method_36_code 30 = .ok (.goto (-28), 3) := by decide +kernel
theorem d_Reader_goesOn_33 : decode prog_9_method_36_code 33 = .ok (.iconst 1, 1) := by decide +kernel
theorem d_Reader_goesOn_34 : decode prog_9_method_36_code 34 = .ok (.ireturn, 1) := by decide +kernel
set_option maxHeartbeats 4000000 in
set_option maxRecDepth 100000 in
theorem b_Reader_goesOn_22 {h0 : Nat} {a0_2 : Nat} {a0_3 : Nat} {h1 : Nat} {cA1 : ClassId} {I0 : Nat → Int32} {n1 : Nat} {f1 : Nat → Int32} {x1 : Int32} {x2 : Nat} {x3 : Int32} {s0 : Int32} {s1 : Int32} {k2 : Int32 → Prop} {Z : Int32 → Unit → Prop} {H : Heap} {locs : List Loc} {ls : Array Slot} (hc : zC p s m args meth c prog_9_method_36_code (some .boolean) 4 "NumberDress$Reader") (hA : ∀ q : Nat, s.heap.size ≤ q → A q) (hE : zE gE A s) (hk2 : ∀ (x3 : Int32) (H : Heap) (locs : List Loc) (ls : Array Slot), lv_has ls 4 [(0, .ref h0), (1, .int x1), (2, .ref (gE.2.1 x2)), (3, .int x3)] → va_K (dC, dI) zCl [(cA1, .char)] s → va_P (dC, dI) zCl [(h0, .inr (8, o_Reader I0 h1 a0_2 a0_3)), (h1, .inl (cA1, n1, .inl f1))] H → va_D A [(h0, .inr (8, o_Reader I0 h1 a0_2 a0_3)), (h1, .inl (cA1, n1, .inl f1))] → va_S A s.heap H locs → k2 x3 → W p l e (headSpec (Cond.code (⟨"NumberDress$Reader", "goesOn", "(ILjava/lang/String;)Z"⟩ : MethodName) prog_9_method_36_code 4 (some .boolean) :: zT) { frames := 4, cells := 0, slots := 0, locals := 85 }).room s m args below meth c H locs 0 0 (MQ below (va_Qi Z (zB (dC, dI) zCl [(cA1, .char)] A (fun u : Unit => [(h0, .inr (8, o_Reader I0 h1 a0_2 a0_3)), (h1, .inl (cA1, n1, .inl f1))])) A) args s 0 0 A) (F0 m 2 ls [])) (hl : lv_has ls 4 [(0, .ref h0), (1, .int x1), (2, .ref (gE.2.1 x2)), (3, .int x3)]) (hK : va_K (dC, dI) zCl [(cA1, .char)] s) (hP : va_P (dC, dI) zCl [(h0, .inr (8, o_Reader I0 h1 a0_2 a0_3)), (h1, .inl (cA1, n1, .inl f1))] H) (hD : va_D A [(h0, .inr (8, o_Reader I0 h1 a0_2 a0_3)), (h1, .inl (cA1, n1, .inl f1))]) (hS : va_S A s.heap H locs) (hv : v_Reader_goesOn_22 I0 n1 f1 x1 x2 x3 s0 s1 k2 Z) : W p l e (headSpec (Cond.code (⟨"NumberDress$Reader", "goesOn", "(ILjava/lang/String;)Z"⟩ : MethodName) prog_9_method_36_code 4 (some .boolean) :: zT) { frames := 4, cells := 0, slots := 0, locals := 85 }).room s m args below meth c H locs 0 0 (MQ below (va_Qi Z (zB (dC, dI) zCl [(cA1, .char)] A (fun u : Unit => [(h0, .inr (8, o_Reader I0 h1 a0_2 a0_3)), (h1, .inl (cA1, n1, .inl f1))])) A) args s 0 0 A) (F0 m 22 ls [.int s1, .int s0]) := by
  obtain ⟨hx, hb, hr, hml, hown, ht, hlocks⟩ := id hc
  unfold v_Reader_goesOn_22 at hv
  refine lv_icmp_eq (tgt := 27) hx hb d_Reader_goesOn_22 (by decide) (fun c_1 => ?_) (fun c_1 => ?_)
  · have hv := hv.1 c_1
    refine lv_iinc (v := (x3 + (1 : Int32))) (lv' := [(3, .int (x3 + (1 : Int32))), (0, .ref h0), (1, .int x1), (2, .ref (gE.2.1 x2))]) hx hb d_Reader_goesOn_27 hl (k := 3) rfl rfl (by decide) rfl (fun ls hl => ?_)
    refine lv_goto (tgt := 2) hx hb d_Reader_goesOn_30 (by decide) ?_
    exact hk2 (x3 + (1 : Int32)) _ _ _ (lv_sub hl [1, 2, 3, 0] rfl) hK hP hD hS hv
  · have hv := hv.2 c_1
    refine lv_iconst (v := (0 : Int32)) hx hb d_Reader_goesOn_25 (by decide) ?_
    exact W.zret (v := (0 : Int32)) hx hb hr (by decide) (fun t ht hW => ⟨⟨_, (), rfl, hv, ⟨by rw [ht]; exact hP, va_K.moved hW.alike hK, hD⟩⟩, hS.F ht⟩) hS.2.2 d_Reader_goesOn_26
set_option maxHeartbeats 4000000 in
set_option maxRecDepth 100000 in
theorem b_Reader_goesOn_17 {h0 : Nat} {a0_2 : Nat} {a0_3 : Nat} {h1 : Nat} {cA1 : ClassId} {I0 : Nat → Int32} {n1 : Nat} {f1 : Nat → Int32} {x1 : Int32} {x2 : Nat} {x3 : Int32} {s0 : Int32} {k2 : Int32 → Prop} {Z : Int32 → Unit → Prop} {H : Heap} {locs : List Loc} {ls : Array Slot} (hc : zC p s m args meth c prog_9_method_36_code (some .boolean) 4 "NumberDress$Reader") (hA : ∀ q : Nat, s.heap.size ≤ q → A q) (hE : zE gE A s) (hk2 : ∀ (x3 : Int32) (H : Heap) (locs : List Loc) (ls : Array Slot), lv_has ls 4 [(0, .ref h0), (1, .int x1), (2, .ref (gE.2.1 x2)), (3, .int x3)] → va_K (dC, dI) zCl [(cA1, .char)] s → va_P (dC, dI) zCl [(h0, .inr (8, o_Reader I0 h1 a0_2 a0_3)), (h1, .inl (cA1, n1, .inl f1))] H → va_D A [(h0, .inr (8, o_Reader I0 h1 a0_2 a0_3)), (h1, .inl (cA1, n1, .inl f1))] → va_S A s.heap H locs → k2 x3 → W p l e (headSpec (Cond.code (⟨"NumberDress$Reader", "goesOn", "(ILjava/lang/String;)Z"⟩ : MethodName) prog_9_method_36_code 4 (some .boolean) :: zT) { frames := 4, cells := 0, slots := 0, locals := 85 }).room s m args below meth c H locs 0 0 (MQ below (va_Qi Z (zB (dC, dI) zCl [(cA1, .char)] A (fun u : Unit => [(h0, .inr (8, o_Reader I0 h1 a0_2 a0_3)), (h1, .inl (cA1, n1, .inl f1))])) A) args s 0 0 A) (F0 m 2 ls [])) (hl : lv_has ls 4 [(0, .ref h0), (1, .int x1), (2, .ref (gE.2.1 x2)), (3, .int x3)]) (hK : va_K (dC, dI) zCl [(cA1, .char)] s) (hP : va_P (dC, dI) zCl [(h0, .inr (8, o_Reader I0 h1 a0_2 a0_3)), (h1, .inl (cA1, n1, .inl f1))] H) (hD : va_D A [(h0, .inr (8, o_Reader I0 h1 a0_2 a0_3)), (h1, .inl (cA1, n1, .inl f1))]) (hS : va_S A s.heap H locs) (hv : v_Reader_goesOn_17 I0 n1 f1 x1 x2 x3 s0 k2 Z) : W p l e (headSpec (Cond.code (⟨"NumberDress$Reader", "goesOn", "(ILjava/lang/String;)Z"⟩ : MethodName) prog_9_method_36_code 4 (some .boolean) :: zT) { frames := 4, cells := 0, slots := 0, locals := 85 }).room s m args below meth c H locs 0 0 (MQ below (va_Qi Z (zB (dC, dI) zCl [(cA1, .char)] A (fun u : Unit => [(h0, .inr (8, o_Reader I0 h1 a0_2 a0_3)), (h1, .inl (cA1, n1, .inl f1))])) A) args s 0 0 A) (F0 m 17 ls [.int s0]) := by
  obtain ⟨hx, hb, hr, hml, hown, ht, hlocks⟩ := id hc
  unfold v_Reader_goesOn_17 at hv
  refine lv_aload_n hx hb d_Reader_goesOn_17 rfl (lv_at hl 2 rfl) ?_
  refine lv_iload_n hx hb d_Reader_goesOn_18 rfl (lv_at hl 3 rfl) ?_
  obtain ⟨qs, hv⟩ := hv
  refine z_calli (wc := []) (wr := [(h0, .inr (8, o_Reader I0 h1 a0_2 a0_3)), (h1, .inl (cA1, n1, .inl f1))]) [] [0, 1] (va_runV (As := [.int x3]) (rest := [.int s0]) ⟨hx, hb, hml, hown, ht⟩ (m_S_charAt l dC dI hv) ⟨(callB_of 1 ht (zG_in zi_S_charAt) rfl rfl rfl (ht _ zw_129) (ht _ zw_557) zh_S_charAt ⟨Nat.le_of_ble_eq_true rfl, Nat.le_of_ble_eq_true rfl⟩), (ht _ zw_558), (ht _ zw_559)⟩ ⟨zPc_blind, hE.srecv qs hS, zPc_pre hP hK hD hS hA hE [] [] rfl rfl (by decide) rfl⟩ rfl rfl hl.1 rfl (lv_room (Nat.le_of_ble_eq_true rfl)) d_Reader_goesOn_19 ⟨Nat.le_of_ble_eq_true rfl, Nat.le_of_ble_eq_true rfl⟩) hP hD hS hA rfl rfl (by decide) (by decide) (fun r u H locs hv hP hD hS => ?_)
  have hP : va_P (dC, dI) zCl [(h0, .inr (8, o_Reader I0 h1 a0_2 a0_3)), (h1, .inl (cA1, n1, .inl f1))] H := hP.sub [0, 1] rfl
  have hD : va_D A [(h0, .inr (8, o_Reader I0 h1 a0_2 a0_3)), (h1, .inl (cA1, n1, .inl f1))] := hD.sub [0, 1] (by decide) rfl
  exact b_Reader_goesOn_22 hc hA hE hk2 (lv_sub hl [0, 1, 2, 3] rfl) hK hP hD hS hv
set_option maxHeartbeats 4000000 in
set_option maxRecDepth 100000 in
theorem b_Reader_goesOn_7 {h0 : Nat} {a0_2 : Nat} {a0_3 : Nat} {h1 : Nat} {cA1 : ClassId} {I0 : Nat → Int32} {n1 : Nat} {f1 : Nat → Int32} {x1 : Int32} {x2 : Nat} {x3 : Int32} {s0 : Int32} {s1 : Int32} {k2 : Int32 → Prop} {Z : Int32 → Unit → Prop} {H : Heap} {locs : List Loc} {ls : Array Slot} (hc : zC p s m args meth c prog_9_method_36_code (some .boolean) 4 "NumberDress$Reader") (hA : ∀ q : Nat, s.heap.size ≤ q → A q) (hE : zE gE A s) (hk2 : ∀ (x3 : Int32) (H : Heap) (locs : List Loc) (ls : Array Slot), lv_has ls 4 [(0, .ref h0), (1, .int x1), (2, .ref (gE.2.1 x2)), (3, .int x3)] → va_K (dC, dI) zCl [(cA1, .char)] s → va_P (dC, dI) zCl [(h0, .inr (8, o_Reader I0 h1 a0_2 a0_3)), (h1, .inl (cA1, n1, .inl f1))] H → va_D A [(h0, .inr (8, o_Reader I0 h1 a0_2 a0_3)), (h1, .inl (cA1, n1, .inl f1))] → va_S A s.heap H locs → k2 x3 → W p l e (headSpec (Cond.code (⟨"NumberDress$Reader", "goesOn", "(ILjava/lang/String;)Z"⟩ : MethodName) prog_9_method_36_code 4 (some .boolean) :: zT) { frames := 4, cells := 0, slots := 0, locals := 85 }).room s m args below meth c H locs 0 0 (MQ below (va_Qi Z (zB (dC, dI) zCl [(cA1, .char)] A (fun u : Unit => [(h0, .inr (8, o_Reader I0 h1 a0_2 a0_3)), (h1, .inl (cA1, n1, .inl f1))])) A) args s 0 0 A) (F0 m 2 ls [])) (hl : lv_has ls 4 [(0, .ref h0), (1, .int x1), (2, .ref (gE.2.1 x2)), (3, .int x3)]) (hK : va_K (dC, dI) zCl [(cA1, .char)] s) (hP : va_P (dC, dI) zCl [(h0, .inr (8, o_Reader I0 h1 a0_2 a0_3)), (h1, .inl (cA1, n1, .inl f1))] H) (hD : va_D A [(h0, .inr (8, o_Reader I0 h1 a0_2 a0_3)), (h1, .inl (cA1, n1, .inl f1))]) (hS : va_S A s.heap H locs) (hv : v_Reader_goesOn_7 I0 n1 f1 x1 x2 x3 s0 s1 k2 Z) : W p l e (headSpec (Cond.code (⟨"NumberDress$Reader", "goesOn", "(ILjava/lang/String;)Z"⟩ : MethodName) prog_9_method_36_code 4 (some .boolean) :: zT) { frames := 4, cells := 0, slots := 0, locals := 85 }).room s m args below meth c H locs 0 0 (MQ below (va_Qi Z (zB (dC, dI) zCl [(cA1, .char)] A (fun u : Unit => [(h0, .inr (8, o_Reader I0 h1 a0_2 a0_3)), (h1, .inl (cA1, n1, .inl f1))])) A) args s 0 0 A) (F0 m 7 ls [.int s1, .int s0]) := by
  obtain ⟨hx, hb, hr, hml, hown, ht, hlocks⟩ := id hc
  unfold v_Reader_goesOn_7 at hv
  refine lv_icmp_ge (tgt := 33) hx hb d_Reader_goesOn_7 (by decide) (fun c_1 => ?_) (fun c_1 => ?_)
  · have hv := hv.1 c_1
    refine lv_iconst (v := (1 : Int32)) hx hb d_Reader_goesOn_33 (by decide) ?_
    exact W.zret (v := (1 : Int32)) hx hb hr (by decide) (fun t ht hW => ⟨⟨_, (), rfl, hv, ⟨by rw [ht]; exact hP, va_K.moved hW.alike hK, hD⟩⟩, hS.F ht⟩) hS.2.2 d_Reader_goesOn_34
  · have hv := hv.2 c_1
    refine lv_aload_n hx hb d_Reader_goesOn_10 rfl (lv_at hl 0 rfl) ?_
    refine lv_iload_n hx hb d_Reader_goesOn_11 rfl (lv_at hl 1 rfl) ?_
    refine lv_iload_n hx hb d_Reader_goesOn_12 rfl (lv_at hl 3 rfl) ?_
    refine lv_iadd hx hb d_Reader_goesOn_13 ?_
    refine z_calli (wc := [(h0, .inr (8, o_Reader I0 h1 a0_2 a0_3)), (h1, .inl (cA1, n1, .inl f1))]) (wr := []) [0, 1] [] (va_runV (As := [.int (x1 + x3)]) (rest := []) ⟨hx, hb, hml, hown, ht⟩ (m_Reader_small l dC dI hv) ⟨(callB_of 1 ht (zG_in zi_Reader_small) rfl rfl rfl (ht _ zw_113) (ht _ zw_553) zh_Reader_small ⟨Nat.le_of_ble_eq_true rfl, Nat.le_of_ble_eq_true rfl⟩), (ht _ zw_555), (ht _ zw_6)⟩ ⟨zPc_blind, va_recv hK hP (ci := 8) (q0 := 0) rfl rfl, zPc_pre hP hK hD hS hA hE [0, 1] [0] rfl rfl (by decide) rfl⟩ rfl rfl hl.1 rfl (lv_room (Nat.le_of_ble_eq_true rfl)) d_Reader_goesOn_14 ⟨Nat.le_of_ble_eq_true rfl, Nat.le_of_ble_eq_true rfl⟩) hP hD hS hA rfl rfl (by decide) (by decide) (fun r u H locs hv hP hD hS => ?_)
    have hP : va_P (dC, dI) zCl [(h0, .inr (8, o_Reader I0 h1 a0_2 a0_3)), (h1, .inl (cA1, n1, .inl f1))] H := hP.sub [0, 1] rfl
    have hD : va_D A [(h0, .inr (8, o_Reader I0 h1 a0_2 a0_3)), (h1, .inl (cA1, n1, .inl f1))] := hD.sub [0, 1] (by decide) rfl
    exact b_Reader_goesOn_17 hc hA hE hk2 (lv_sub hl [0, 1, 2, 3] rfl) hK hP hD hS hv
set_option maxHeartbeats 4000000 in
set_option maxRecDepth 100000 in
theorem b_Reader_goesOn_2 {h0 : Nat} {a0_2 : Nat} {a0_3 : Nat} {h1 : Nat} {cA1 : ClassId} {I0 : Nat → Int32} {n1 : Nat} {f1 : Nat → Int32} {x1 : Int32} {x2 : Nat}  {Z : Int32 → Unit → Prop} (hc : zC p s m args meth c prog_9_method_36_code (some .boolean) 4 "NumberDress$Reader") (hA : ∀ q : Nat, s.heap.size ≤ q → A q) (hE : zE gE A s) : ∀ (N : Nat) (x3 : Int32) (H : Heap) (locs : List Loc) (ls : Array Slot), lv_has ls 4 [(0, .ref h0), (1, .int x1), (2, .ref (gE.2.1 x2)), (3, .int x3)] → va_K (dC, dI) zCl [(cA1, .char)] s → va_P (dC, dI) zCl [(h0, .inr (8, o_Reader I0 h1 a0_2 a0_3)), (h1, .inl (cA1, n1, .inl f1))] H → va_D A [(h0, .inr (8, o_Reader I0 h1 a0_2 a0_3)), (h1, .inl (cA1, n1, .inl f1))] → va_S A s.heap H locs → v_Reader_goesOn_2 I0 n1 f1 x1 x2  Z N x3 → W p l e (headSpec (Cond.code (⟨"NumberDress$Reader", "goesOn", "(ILjava/lang/String;)Z"⟩ : MethodName) prog_9_method_36_code 4 (some .boolean) :: zT) { frames := 4, cells := 0, slots := 0, locals := 85 }).room s m args below meth c H locs 0 0 (MQ below (va_Qi Z (zB (dC, dI) zCl [(cA1, .char)] A (fun u : Unit => [(h0, .inr (8, o_Reader I0 h1 a0_2 a0_3)), (h1, .inl (cA1, n1, .inl f1))])) A) args s 0 0 A) (F0 m 2 ls []) := by
  obtain ⟨hx, hb, hr, hml, hown, ht, hlocks⟩ := id hc
  intro N
  induction N with
  | zero => intro x3 H locs ls hl hK hP hD hS hv; exact hv.elim
  | succ N hk2 =>
    intro x3 H locs ls hl hK hP hD hS hv
    unfold v_Reader_goesOn_2 at hv
    refine lv_iload_n hx hb d_Reader_goesOn_2 rfl (lv_at hl 3 rfl) ?_
    refine lv_aload_n hx hb d_Reader_goesOn_3 rfl (lv_at hl 2 rfl) ?_
    obtain ⟨qs, hv⟩ := hv
    refine z_calli (wc := []) (wr := [(h0, .inr (8, o_Reader I0 h1 a0_2 a0_3)), (h1, .inl (cA1, n1, .inl f1))]) [] [0, 1] (va_runV (As := []) (rest := [.int x3]) ⟨hx, hb, hml, hown, ht⟩ (m_S_length l dC dI hv) ⟨(callB_of 0 ht (zG_in zi_S_length) rfl rfl rfl (ht _ zw_129) (ht _ zw_543) zh_S_length ⟨Nat.le_of_ble_eq_true rfl, Nat.le_of_ble_eq_true rfl⟩), (ht _ zw_544), (ht _ zw_545)⟩ ⟨zPc_blind, hE.srecv qs hS, zPc_pre hP hK hD hS hA hE [] [] rfl rfl (by decide) rfl⟩ rfl rfl hl.1 rfl (lv_room (Nat.le_of_ble_eq_true rfl)) d_Reader_goesOn_4 ⟨Nat.le_of_ble_eq_true rfl, Nat.le_of_ble_eq_true rfl⟩) hP hD hS hA rfl rfl (by decide) (by decide) (fun r u H locs hv hP hD hS => ?_)
    have hP : va_P (dC, dI) zCl [(h0, .inr (8, o_Reader I0 h1 a0_2 a0_3)), (h1, .inl (cA1, n1, .inl f1))] H := hP.sub [0, 1] rfl
    have hD : va_D A [(h0, .inr (8, o_Reader I0 h1 a0_2 a0_3)), (h1, .inl (cA1, n1, .inl f1))] := hD.sub [0, 1] (by decide) rfl
    exact b_Reader_goesOn_7 hc hA hE hk2 (lv_sub hl [0, 1, 2, 3] rfl) hK hP hD hS hv
set_option maxHeartbeats 4000000 in
set_option maxRecDepth 100000 in
theorem b_Reader_goesOn_0 {h0 : Nat} {a0_2 : Nat} {a0_3 : Nat} {h1 : Nat} {cA1 : ClassId} {I0 : Nat → Int32} {n1 : Nat} {f1 : Nat → Int32} {x1 : Int32} {x2 : Nat}  {Z : Int32 → Unit → Prop} {H : Heap} {locs : List Loc} {ls : Array Slot} (hc : zC p s m args meth c prog_9_method_36_code (some .boolean) 4 "NumberDress$Reader") (hA : ∀ q : Nat, s.heap.size ≤ q → A q) (hE : zE gE A s) (hl : lv_has ls 4 [(0, .ref h0), (1, .int x1), (2, .ref (gE.2.1 x2))]) (hK : va_K (dC, dI) zCl [(cA1, .char)] s) (hP : va_P (dC, dI) zCl [(h0, .inr (8, o_Reader I0 h1 a0_2 a0_3)), (h1, .inl (cA1, n1, .inl f1))] H) (hD : va_D A [(h0, .inr (8, o_Reader I0 h1 a0_2 a0_3)), (h1, .inl (cA1, n1, .inl f1))]) (hS : va_S A s.heap H locs) (hv : v_Reader_goesOn_0 I0 n1 f1 x1 x2  Z) : W p l e (headSpec (Cond.code (⟨"NumberDress$Reader", "goesOn", "(ILjava/lang/String;)Z"⟩ : MethodName) prog_9_method_36_code 4 (some .boolean) :: zT) { frames := 4, cells := 0, slots := 0, locals := 85 }).room s m args below meth c H locs 0 0 (MQ below (va_Qi Z (zB (dC, dI) zCl [(cA1, .char)] A (fun u : Unit => [(h0, .inr (8, o_Reader I0 h1 a0_2 a0_3)), (h1, .inl (cA1, n1, .inl f1))])) A) args s 0 0 A) (F0 m 0 ls []) := by
  obtain ⟨hx, hb, hr, hml, hown, ht, hlocks⟩ := id hc
  unfold v_Reader_goesOn_0 at hv
  refine lv_iconst (v := (0 : Int32)) hx hb d_Reader_goesOn_0 (by decide) ?_
  refine lv_istore_n (lv' := [(3, .int (0 : Int32)), (0, .ref h0), (1, .int x1), (2, .ref (gE.2.1 x2))]) hx hb d_Reader_goesOn_1 rfl hl (by decide) rfl (fun ls hl => ?_)
  obtain ⟨Nx, hv⟩ := hv
  exact b_Reader_goesOn_2 hc hA hE  Nx (0 : Int32) _ _ _ (lv_sub hl [1, 2, 3, 0] rfl) hK hP hD hS hv
theorem zi_Reader_goesOn : Cond.code (⟨"NumberDress$Reader", "goesOn", "(ILjava/lang/String;)Z"⟩ : MethodName) prog_9_method_36_code 4 (some .boolean) ∈ zT := zw_542
theorem zh_Reader_goesOn : (((⟨"NumberDress$Reader", "goesOn", "(ILjava/lang/String;)Z"⟩ : MethodName)).cls ≠ "java/lang/invoke/MethodHandle" ∧ ((⟨"NumberDress$Reader", "goesOn", "(ILjava/lang/String;)Z"⟩ : MethodName)).cls ≠ "java/lang/invoke/VarHandle" ∧ (parseMethodDescriptor ((⟨"NumberDress$Reader", "goesOn", "(ILjava/lang/String;)Z"⟩ : MethodName)).desc).map (fun d => d.parameters.length) = some 2) := by decide +kernel
set_option maxHeartbeats 4000000 in
set_option maxRecDepth 100000 in
theorem m_Reader_goesOn (l : Launch) (dC : Nat → ClassId) (dI : Nat → Nat → Nat) {gE : zG} {h0 : Nat} {a0_2 : Nat} {a0_3 : Nat} {h1 : Nat} {cA1 : ClassId} {I0 : Nat → Int32} {n1 : Nat} {f1 : Nat → Int32} {x1 : Int32} {x2 : Nat} {sz : Nat} {Z : Int32 → Unit → Prop} (hv : v_Reader_goesOn_0 I0 n1 f1 x1 x2 Z) : Met l (⟨"NumberDress$Reader", "goesOn", "(ILjava/lang/String;)Z"⟩ : MethodName) (Cond.code (⟨"NumberDress$Reader", "goesOn", "(ILjava/lang/String;)Z"⟩ : MethodName) prog_9_method_36_code 4 (some .boolean) :: zT) { frames := 4, cells := 0, slots := 0, locals := 85 } (zPc gE (dC, dI) zCl [(cA1, .char)] [.ref h0, .int x1, .ref (gE.2.1 x2)] sz [(h0, .inr (8, o_Reader I0 h1 a0_2 a0_3)), (h1, .inl (cA1, n1, .inl f1))]) (va_Qi Z (zB (dC, dI) zCl [(cA1, .char)] (va_A [(h0, .inr (8, o_Reader I0 h1 a0_2 a0_3)), (h1, .inl (cA1, n1, .inl f1))] sz) (fun u : Unit => [(h0, .inr (8, o_Reader I0 h1 a0_2 a0_3)), (h1, .inl (cA1, n1, .inl f1))])) (va_A [(h0, .inr (8, o_Reader I0 h1 a0_2 a0_3)), (h1, .inl (cA1, n1, .inl f1))] sz)) 0 0 (va_A [(h0, .inr (8, o_Reader I0 h1 a0_2 a0_3)), (h1, .inl (cA1, n1, .inl f1))] sz) := by
  refine Met.ofW (cc := prog_9_method_36_code) (maxL := 4) (ret := (some .boolean)) (by decide +kernel) rfl ?_
  intro p e s m args below meth c s₁ B hml hp
  obtain ⟨rfl, hsz, hP, hK, hD0, hE⟩ := hp
  have hts := atoms_spec (ws := (Cond.code (⟨"NumberDress$Reader", "goesOn", "(ILjava/lang/String;)Z"⟩ : MethodName) prog_9_method_36_code 4 (some .boolean) :: zT)) B.pre
  have hown : s.vm.findClass "NumberDress$Reader" = some m.cls := findClass_of_methodNamed B.named
  have hc : zC p s m _ meth c prog_9_method_36_code (some .boolean) 4 "NumberDress$Reader" := ⟨B.exec, B.bytes, B.returns, hml, hown, fun w h => hts w (List.mem_cons_of_mem _ h), B.notSynchronized⟩
  subst hsz
  have hD := hD0.self (sz := s.heap.size)
  generalize hAe : va_A [(h0, .inr (8, o_Reader I0 h1 a0_2 a0_3)), (h1, .inl (cA1, n1, .inl f1))] s.heap.size = A at hD hE ⊢
  have hA : ∀ q : Nat, s.heap.size ≤ q → A q := fun q h => by rw [← hAe]; exact Or.inr h
  have hl := lv_entry ([.ref h0, .int x1, .ref (gE.2.1 x2)]) (n := 4) (Nat.le_of_ble_eq_true rfl)
  rw [lg_entry_eq]
  exact b_Reader_goesOn_0 hc hA hE hl hK hP hD va_S.rf hv
theorem d_Reader_colourLength_0 : decode prog_9_method_12_code 0 = .ok (.iconst 0, 1) := by decide +kernel
theorem d_Reader_colourLength_1 : decode prog_9_method_12_code 1 = .ok (.istore_n 2, 1) := by decide +kernel
theorem d_Reader_colourLength_2 : decode prog_9_method_12_code 2 = .ok (.iload_n 2, 1) := by decide +kernel
theorem d_Reader_colourLength_3 : decode prog_9_method_12_code 3 = .ok (.bipush 8, 2) := by decide +kernel
theorem d_Reader_colourLength_5 : decode prog_9_method_12_code 5 = .ok (.if_icmp .ge 28, 3) := by decide +kernel
theorem d_Reader_colourLength_8 : decode prog_9_method_12_code 8 = .ok (.iload_n 2, 1) := by decide +kernel
theorem d_Reader_colourLength_9 : decode prog_9_method_12_code 9 = .ok (.invokestatic 142, 3) := by decide +kernel
theorem d_Reader_colourLength_12 : decode prog_9_method_12_code 12 = .ok (.astore_n 3, 1) := by decide +kernel
theorem d_Reader_colourLength_13 : decode prog_9_method_12_code 13 = .ok (.aload_n 0, 1) := by decide +kernel
theorem d_Reader_colourLength_14 : decode prog_9_method_12_code 14 = .ok (.iload_n 1, 1) := by decide +kernel
theorem d_Reader_colourLength_15 : decode prog_9_method_12_code 15 = .ok (.aload_n 3, 1) := by decide +kernel
theorem d_Reader_colourLength_16 : decode prog_9_method_12_code 16 = .ok (.invokevirtual 59, 3) := by decide +kernel
theorem d_Reader_colourLength_19 : decode prog_9_method_12_code 19 = .ok (.ifCond .eq 8, 3) := by decide +kernel
theorem d_Reader_colourLength_22 : decode prog_9_method_12_code 22 = .ok (.aload_n 3, 1) := by decide +kernel
theorem d_Reader_colourLength_23 : decode prog_9_method_12_code 23 = .ok (.invokevirtual 146, 3) := by decide +kernel
theorem d_Reader_colourLength_26 : decode prog_9_method_12_code 26 = .ok (.ireturn, 1) := by decide +kernel
theorem d_Reader_colourLength_27 : decode prog_9_method_12_code 27 = .ok (.iinc 2 1, 3) := by decide +kernel
theorem d_Reader_colourLength_30 : decode prog_9_method_12_code 30 = .ok (.goto (-28), 3) := by decide +kernel
theorem d_Reader_colourLength_33 : decode prog_9_method_12_code 33 = .ok (.iconst 0, 1) := by decide +kernel
theorem d_Reader_colourLength_34 : decode prog_9_method_12_code 34 = .ok (.ireturn, 1) := by decide +kernel
set_option maxHeartbeats 4000000 in
set_option maxRecDepth 100000 in
theorem b_Reader_colourLength_26 {h0 : Nat} {a0_2 : Nat} {a0_3 : Nat} {h1 : Nat} {cA1 : ClassId} {I0 : Nat → Int32} {n1 : Nat} {f1 : Nat → Int32} {s0 : Int32}  {Z : Int32 → Unit → Prop} {H : Heap} {locs : List Loc} {ls : Array Slot} (hc : zC p s m args meth c prog_9_method_12_code (some .int) 4 "NumberDress$Reader") (hA : ∀ q : Nat, s.heap.size ≤ q → A q) (hE : zE gE A s) (hl : lv_has ls 4 []) (hK : va_K (dC, dI) zCl [(cA1, .char)] s) (hP : va_P (dC, dI) zCl [(h0, .inr (8, o_Reader I0 h1 a0_2 a0_3)), (h1, .inl (cA1, n1, .inl f1))] H) (hD : va_D A [(h0, .inr (8, o_Reader I0 h1 a0_2 a0_3)), (h1, .inl (cA1, n1, .inl f1))]) (hS : va_S A s.heap H locs) (hv : v_Reader_colourLength_26 I0 n1 f1 s0  Z) : W p l e (headSpec (Cond.code (⟨"NumberDress$Reader", "colourLength", "(I)I"⟩ : MethodName) prog_9_method_12_code 4 (some .int) :: zT) { frames := 5, cells := 0, slots := 0, locals := 108 }).room s m args below meth c H locs 0 0 (MQ below (va_Qi Z (zB (dC, dI) zCl [(cA1, .char)] A (fun u : Unit => [(h0, .inr (8, o_Reader I0 h1 a0_2 a0_3)), (h1, .inl (cA1, n1, .inl f1))])) A) args s 0 0 A) (F0 m 26 ls [.int s0]) := by
  obtain ⟨hx, hb, hr, hml, hown, ht, hlocks⟩ := id hc
  unfold v_Reader_colourLength_26 at hv
  exact W.iret (v := s0) hx hb hr (fun t ht hW => ⟨⟨_, (), rfl, hv, ⟨by rw [ht]; exact hP, va_K.moved hW.alike hK, hD⟩⟩, hS.F ht⟩) hS.2.2 d_Reader_colourLength_26
set_option maxHeartbeats 4000000 in
set_option maxRecDepth 100000 in
theorem b_Reader_colourLength_19 {h0 : Nat} {a0_2 : Nat} {a0_3 : Nat} {h1 : Nat} {cA1 : ClassId} {I0 : Nat → Int32} {n1 : Nat} {f1 : Nat → Int32} {x1 : Int32} {x2 : Int32} {x3 : Nat} {s0 : Int32} {k2 : Int32 → Prop} {Z : Int32 → Unit → Prop} {H : Heap} {locs : List Loc} {ls : Array Slot} (hc : zC p s m args meth c prog_9_method_12_code (some .int) 4 "NumberDress$Reader") (hA : ∀ q : Nat, s.heap.size ≤ q → A q) (hE : zE gE A s) (hk2 : ∀ (x2 : Int32) (H : Heap) (locs : List Loc) (ls : Array Slot), lv_has ls 4 [(0, .ref h0), (1, .int x1), (2, .int x2)] → va_K (dC, dI) zCl [(cA1, .char)] s → va_P (dC, dI) zCl [(h0, .inr (8, o_Reader I0 h1 a0_2 a0_3)), (h1, .inl (cA1, n1, .inl f1))] H → va_D A [(h0, .inr (8, o_Reader I0 h1 a0_2 a0_3)), (h1, .inl (cA1, n1, .inl f1))] → va_S A s.heap H locs → k2 x2 → W p l e (headSpec (Cond.code (⟨"NumberDress$Reader", "colourLength", "(I)I"⟩ : MethodName) prog_9_method_12_code 4 (some .int) :: zT) { frames := 5, cells := 0, slots := 0, locals := 108 }).room s m args below meth c H locs 0 0 (MQ below (va_Qi Z (zB (dC, dI) zCl [(cA1, .char)] A (fun u : Unit => [(h0, .inr (8, o_Reader I0 h1 a0_2 a0_3)), (h1, .inl (cA1, n1, .inl f1))])) A) args s 0 0 A) (F0 m 2 ls [])) (hl : lv_has ls 4 [(0, .ref h0), (1, .int x1), (2, .int x2), (3, .ref (gE.2.1 x3))]) (hK : va_K (dC, dI) zCl [(cA1, .char)] s) (hP : va_P (dC, dI) zCl [(h0, .inr (8, o_Reader I0 h1 a0_2 a0_3)), (h1, .inl (cA1, n1, .inl f1))] H) (hD : va_D A [(h0, .inr (8, o_Reader I0 h1 a0_2 a0_3)), (h1, .inl (cA1, n1, .inl f1))]) (hS : va_S A s.heap H locs) (hv : v_Reader_colourLength_19 I0 n1 f1 x1 x2 x3 s0 k2 Z) : W p l e (headSpec (Cond.code (⟨"NumberDress$Reader", "colourLength", "(I)I"⟩ : MethodName) prog_9_method_12_code 4 (some .int) :: zT) { frames := 5, cells := 0, slots := 0, locals := 108 }).room s m args below meth c H locs 0 0 (MQ below (va_Qi Z (zB (dC, dI) zCl [(cA1, .char)] A (fun u : Unit => [(h0, .inr (8, o_Reader I0 h1 a0_2 a0_3)), (h1, .inl (cA1, n1, .inl f1))])) A) args s 0 0 A) (F0 m 19 ls [.int s0]) := by
  obtain ⟨hx, hb, hr, hml, hown, ht, hlocks⟩ := id hc
  unfold v_Reader_colourLength_19 at hv
  refine lv_if_eq (tgt := 27) hx hb d_Reader_colourLength_19 (by decide) (fun c_1 => ?_) (fun c_1 => ?_)
  · have hv := hv.1 c_1
    refine lv_iinc (v := (x2 + (1 : Int32))) (lv' := [(2, .int (x2 + (1 : Int32))), (0, .ref h0), (1, .int x1), (3, .ref (gE.2.1 x3))]) hx hb d_Reader_colourLength_27 hl (k := 2) rfl rfl (by decide) rfl (fun ls hl => ?_)
    refine lv_goto (tgt := 2) hx hb d_Reader_colourLength_30 (by decide) ?_
    exact hk2 (x2 + (1 : Int32)) _ _ _ (lv_sub hl [1, 2, 0] rfl) hK hP hD hS hv
  · have hv := hv.2 c_1
    refine lv_aload_n hx hb d_Reader_colourLength_22 rfl (lv_at hl 3 rfl) ?_
    obtain ⟨qs, hv⟩ := hv
    refine z_calli (wc := []) (wr := [(h0, .inr (8, o_Reader I0 h1 a0_2 a0_3)), (h1, .inl (cA1, n1, .inl f1))]) [] [0, 1] (va_runV (As := []) (rest := []) ⟨hx, hb, hml, hown, ht⟩ (m_S_length l dC dI hv) ⟨(callB_of 0 ht (zG_in zi_S_length) rfl rfl rfl (ht _ zw_129) (ht _ zw_543) zh_S_length ⟨Nat.le_of_ble_eq_true rfl, Nat.le_of_ble_eq_true rfl⟩), (ht _ zw_544), (ht _ zw_545)⟩ ⟨zPc_blind, hE.srecv qs hS, zPc_pre hP hK hD hS hA hE [] [] rfl rfl (by decide) rfl⟩ rfl rfl hl.1 rfl (lv_room (Nat.le_of_ble_eq_true rfl)) d_Reader_colourLength_23 ⟨Nat.le_of_ble_eq_true rfl, Nat.le_of_ble_eq_true rfl⟩) hP hD hS hA rfl rfl (by decide) (by decide) (fun r u H locs hv hP hD hS => ?_)
    have hP : va_P (dC, dI) zCl [(h0, .inr (8, o_Reader I0 h1 a0_2 a0_3)), (h1, .inl (cA1, n1, .inl f1))] H := hP.sub [0, 1] rfl
    have hD : va_D A [(h0, .inr (8, o_Reader I0 h1 a0_2 a0_3)), (h1, .inl (cA1, n1, .inl f1))] := hD.sub [0, 1] (by decide) rfl
    exact b_Reader_colourLength_26 hc hA hE  (lv_sub hl [] rfl) hK hP hD hS hv
set_option maxHeartbeats 4000000 in
set_option maxRecDepth 100000 in
theorem b_Reader_colourLength_12 {h0 : Nat} {a0_2 : Nat} {a0_3 : Nat} {h1 : Nat} {cA1 : ClassId} {I0 : Nat → Int32} {n1 : Nat} {f1 : Nat → Int32} {x1 : Int32} {x2 : Int32} {s0 : Nat} {k2 : Int32 → Prop} {Z : Int32 → Unit → Prop} {H : Heap} {locs : List Loc} {ls : Array Slot} (hc : zC p s m args meth c prog_9_method_12_code (some .int) 4 "NumberDress$Reader") (hA : ∀ q : Nat, s.heap.size ≤ q → A q) (hE : zE gE A s) (hk2 : ∀ (x2 : Int32) (H : Heap) (locs : List Loc) (ls : Array Slot), lv_has ls 4 [(0, .ref h0), (1, .int x1), (2, .int x2)] → va_K (dC, dI) zCl [(cA1, .char)] s → va_P (dC, dI) zCl [(h0, .inr (8, o_Reader I0 h1 a0_2 a0_3)), (h1, .inl (cA1, n1, .inl f1))] H → va_D A [(h0, .inr (8, o_Reader I0 h1 a0_2 a0_3)), (h1, .inl (cA1, n1, .inl f1))] → va_S A s.heap H locs → k2 x2 → W p l e (headSpec (Cond.code (⟨"NumberDress$Reader", "colourLength", "(I)I"⟩ : MethodName) prog_9_method_12_code 4 (some .int) :: zT) { frames := 5, cells := 0, slots := 0, locals := 108 }).room s m args below meth c H locs 0 0 (MQ below (va_Qi Z (zB (dC, dI) zCl [(cA1, .char)] A (fun u : Unit => [(h0, .inr (8, o_Reader I0 h1 a0_2 a0_3)), (h1, .inl (cA1, n1, .inl f1))])) A) args s 0 0 A) (F0 m 2 ls [])) (hl : lv_has ls 4 [(0, .ref h0), (1, .int x1), (2, .int x2)]) (hK : va_K (dC, dI) zCl [(cA1, .char)] s) (hP : va_P (dC, dI) zCl [(h0, .inr (8, o_Reader I0 h1 a0_2 a0_3)), (h1, .inl (cA1, n1, .inl f1))] H) (hD : va_D A [(h0, .inr (8, o_Reader I0 h1 a0_2 a0_3)), (h1, .inl (cA1, n1, .inl f1))]) (hS : va_S A s.heap H locs) (hv : v_Reader_colourLength_12 I0 n1 f1 x1 x2 s0 k2 Z) : W p l e (headSpec (Cond.code (⟨"NumberDress$Reader", "colourLength", "(I)I"⟩ : MethodName) prog_9_method_12_code 4 (some .int) :: zT) { frames := 5, cells := 0, slots := 0, locals := 108 }).room s m args below meth c H locs 0 0 (MQ below (va_Qi Z (zB (dC, dI) zCl [(cA1, .char)] A (fun u : Unit => [(h0, .inr (8, o_Reader I0 h1 a0_2 a0_3)), (h1, .inl (cA1, n1, .inl f1))])) A) args s 0 0 A) (F0 m 12 ls [.ref (gE.2.1 s0)]) := by
  obtain ⟨hx, hb, hr, hml, hown, ht, hlocks⟩ := id hc
  unfold v_Reader_colourLength_12 at hv
  refine lv_astore_n (lv' := [(3, .ref (gE.2.1 s0)), (0, .ref h0), (1, .int x1), (2, .int x2)]) hx hb d_Reader_colourLength_12 rfl hl (by decide) rfl (fun ls hl => ?_)
  refine lv_aload_n hx hb d_Reader_colourLength_13 rfl (lv_at hl 1 rfl) ?_
  refine lv_iload_n hx hb d_Reader_colourLength_14 rfl (lv_at hl 2 rfl) ?_
  refine lv_aload_n hx hb d_Reader_colourLength_15 rfl (lv_at hl 0 rfl) ?_
  refine z_calli (wc := [(h0, .inr (8, o_Reader I0 h1 a0_2 a0_3)), (h1, .inl (cA1, n1, .inl f1))]) (wr := []) [0, 1] [] (va_runV (As := [.int x1, .ref (gE.2.1 s0)]) (rest := []) ⟨hx, hb, hml, hown, ht⟩ (m_Reader_goesOn l dC dI hv) ⟨(callB_of 2 ht (zG_in zi_Reader_goesOn) rfl rfl rfl (ht _ zw_113) (ht _ zw_539) zh_Reader_goesOn ⟨Nat.le_of_ble_eq_true rfl, Nat.le_of_ble_eq_true rfl⟩), (ht _ zw_541), (ht _ zw_5)⟩ ⟨zPc_blind, va_recv hK hP (ci := 8) (q0 := 0) rfl rfl, zPc_pre hP hK hD hS hA hE [0, 1] [0] rfl rfl (by decide) rfl⟩ rfl rfl hl.1 rfl (lv_room (Nat.le_of_ble_eq_true rfl)) d_Reader_colourLength_16 ⟨Nat.le_of_ble_eq_true rfl, Nat.le_of_ble_eq_true rfl⟩) hP hD hS hA rfl rfl (by decide) (by decide) (fun r u H locs hv hP hD hS => ?_)
  have hP : va_P (dC, dI) zCl [(h0, .inr (8, o_Reader I0 h1 a0_2 a0_3)), (h1, .inl (cA1, n1, .inl f1))] H := hP.sub [0, 1] rfl
  have hD : va_D A [(h0, .inr (8, o_Reader I0 h1 a0_2 a0_3)), (h1, .inl (cA1, n1, .inl f1))] := hD.sub [0, 1] (by decide) rfl
  exact b_Reader_colourLength_19 hc hA hE hk2 (lv_sub hl [1, 2, 3, 0] rfl) hK hP hD hS hv
set_option maxHeartbeats 4000000 in
set_option maxRecDepth 100000 in
theorem b_Reader_colourLength_2 {h0 : Nat} {a0_2 : Nat} {a0_3 : Nat} {h1 : Nat} {cA1 : ClassId} {I0 : Nat → Int32} {n1 : Nat} {f1 : Nat → Int32} {x1 : Int32}  {Z : Int32 → Unit → Prop} (hc : zC p s m args meth c prog_9_method_12_code (some .int) 4 "NumberDress$Reader") (hA : ∀ q : Nat, s.heap.size ≤ q → A q) (hE : zE gE A s) : ∀ (N : Nat) (x2 : Int32) (H : Heap) (locs : List Loc) (ls : Array Slot), lv_has ls 4 [(0, .ref h0), (1, .int x1), (2, .int x2)] → va_K (dC, dI) zCl [(cA1, .char)] s → va_P (dC, dI) zCl [(h0, .inr (8, o_Reader I0 h1 a0_2 a0_3)), (h1, .inl (cA1, n1, .inl f1))] H → va_D A [(h0, .inr (8, o_Reader I0 h1 a0_2 a0_3)), (h1, .inl (cA1, n1, .inl f1))] → va_S A s.heap H locs → v_Reader_colourLength_2 I0 n1 f1 x1  Z N x2 → W p l e (headSpec (Cond.code (⟨"NumberDress$Reader", "colourLength", "(I)I"⟩ : MethodName) prog_9_method_12_code 4 (some .int) :: zT) { frames := 5, cells := 0, slots := 0, locals := 108 }).room s m args below meth c H locs 0 0 (MQ below (va_Qi Z (zB (dC, dI) zCl [(cA1, .char)] A (fun u : Unit => [(h0, .inr (8, o_Reader I0 h1 a0_2 a0_3)), (h1, .inl (cA1, n1, .inl f1))])) A) args s 0 0 A) (F0 m 2 ls []) := by
  obtain ⟨hx, hb, hr, hml, hown, ht, hlocks⟩ := id hc
  intro N
  induction N with
  | zero => intro x2 H locs ls hl hK hP hD hS hv; exact hv.elim
  | succ N hk2 =>
    intro x2 H locs ls hl hK hP hD hS hv
    unfold v_Reader_colourLength_2 at hv
    refine lv_iload_n hx hb d_Reader_colourLength_2 rfl (lv_at hl 2 rfl) ?_
    refine lv_bipush (v := (8 : Int32)) hx hb d_Reader_colourLength_3 (by decide) ?_
    refine lv_icmp_ge (tgt := 33) hx hb d_Reader_colourLength_5 (by decide) (fun c_1 => ?_) (fun c_1 => ?_)
    · have hv := hv.1 c_1
      refine lv_iconst (v := (0 : Int32)) hx hb d_Reader_colourLength_33 (by decide) ?_
      exact W.iret (v := (0 : Int32)) hx hb hr (fun t ht hW => ⟨⟨_, (), rfl, hv, ⟨by rw [ht]; exact hP, va_K.moved hW.alike hK, hD⟩⟩, hS.F ht⟩) hS.2.2 d_Reader_colourLength_34
    · have hv := hv.2 c_1
      refine lv_iload_n hx hb d_Reader_colourLength_8 rfl (lv_at hl 2 rfl) ?_
      refine z_calls (wc := []) (wr := [(h0, .inr (8, o_Reader I0 h1 a0_2 a0_3)), (h1, .inl (cA1, n1, .inl f1))]) [] [0, 1] (va_runS (As := [.int x2]) (rest := []) ⟨hx, hb, hml, hown, ht⟩ (m_Reader_colour l dC dI hv) ⟨(callB_of 1 ht (zG_in zi_Reader_colour) rfl rfl rfl (ht _ zw_113) (ht _ zw_528) zh_Reader_colour ⟨Nat.le_of_ble_eq_true rfl, Nat.le_of_ble_eq_true rfl⟩), (ht _ zw_529)⟩ ⟨zPc_blind, zPc_pre hP hK hD hS hA hE [] [] rfl rfl (by decide) rfl⟩ rfl rfl hl.1 rfl (lv_room (Nat.le_of_ble_eq_true rfl)) d_Reader_colourLength_9 ⟨Nat.le_of_ble_eq_true rfl, Nat.le_of_ble_eq_true rfl⟩) hP hD hS hA rfl rfl (by decide) (by decide) (fun r u H locs hv hP hD hS => ?_)
      have hP : va_P (dC, dI) zCl [(h0, .inr (8, o_Reader I0 h1 a0_2 a0_3)), (h1, .inl (cA1, n1, .inl f1))] H := hP.sub [0, 1] rfl
      have hD : va_D A [(h0, .inr (8, o_Reader I0 h1 a0_2 a0_3)), (h1, .inl (cA1, n1, .inl f1))] := hD.sub [0, 1] (by decide) rfl
      exact b_Reader_colourLength_12 hc hA hE hk2 (lv_sub hl [0, 1, 2] rfl) hK hP hD hS hv
set_option maxHeartbeats 4000000 in
set_option maxRecDepth 100000 in
theorem b_Reader_colourLength_0 {h0 : Nat} {a0_2 : Nat} {a0_3 : Nat} {h1 : Nat} {cA1 : ClassId} {I0 : Nat → Int32} {n1 : Nat} {f1 : Nat → Int32} {x1 : Int32}  {Z : Int32 → Unit → Prop} {H : Heap} {locs : List Loc} {ls : Array Slot} (hc : zC p s m args meth c prog_9_method_12_code (some .int) 4 "NumberDress$Reader") (hA : ∀ q : Nat, s.heap.size ≤ q → A q) (hE : zE gE A s) (hl : lv_has ls 4 [(0, .ref h0), (1, .int x1)]) (hK : va_K (dC, dI) zCl [(cA1, .char)] s) (hP : va_P (dC, dI) zCl [(h0, .inr (8, o_Reader I0 h1 a0_2 a0_3)), (h1, .inl (cA1, n1, .inl f1))] H) (hD : va_D A [(h0, .inr (8, o_Reader I0 h1 a0_2 a0_3)), (h1, .inl (cA1, n1, .inl f1))]) (hS : va_S A s.heap H locs) (hv : v_Reader_colourLength_0 I0 n1 f1 x1  Z) : W p l e (headSpec (Cond.code (⟨"NumberDress$Reader", "colourLength", "(I)I"⟩ : MethodName) prog_9_method_12_code 4 (some .int) :: zT) { frames := 5, cells := 0, slots := 0, locals := 108 }).room s m args below meth c H locs 0 0 (MQ below (va_Qi Z (zB (dC, dI) zCl [(cA1, .char)] A (fun u : Unit => [(h0, .inr (8, o_Reader I0 h1 a0_2 a0_3)), (h1, .inl (cA1, n1, .inl f1))])) A) args s 0 0 A) (F0 m 0 ls []) := by
  obtain ⟨hx, hb, hr, hml, hown, ht, hlocks⟩ := id hc
  unfold v_Reader_colourLength_0 at hv
  refine lv_iconst (v := (0 : Int32)) hx hb d_Reader_colourLength_0 (by decide) ?_
  refine lv_istore_n (lv' := [(2, .int (0 : Int32)), (0, .ref h0), (1, .int x1)]) hx hb d_Reader_colourLength_1 rfl hl (by decide) rfl (fun ls hl => ?_)
  obtain ⟨Nx, hv⟩ := hv
  exact b_Reader_colourLength_2 hc hA hE  Nx (0 : Int32) _ _ _ (lv_sub hl [1, 2, 0] rfl) hK hP hD hS hv
theorem zi_Reader_colourLength : Cond.code (⟨"NumberDress$Reader", "colourLength", "(I)I"⟩ : MethodName) prog_9_method_12_code 4 (some .int) ∈ zT := zw_527
theorem zh_Reader_colourLength : (((⟨"NumberDress$Reader", "colourLength", "(I)I"⟩ : MethodName)).cls ≠ "java/lang/invoke/MethodHandle" ∧ ((⟨"NumberDress$Reader", "colourLength", "(I)I"⟩ : MethodName)).cls ≠ "java/lang/invoke/VarHandle" ∧ (parseMethodDescriptor ((⟨"NumberDress$Reader", "colourLength", "(I)I"⟩ : MethodName)).desc).map (fun d => d.parameters.length) = some 1) := by decide +kernel
set_option maxHeartbeats 4000000 in
set_option maxRecDepth 100000 in
theorem m_Reader_colourLength (l : Launch) (dC : Nat → ClassId) (dI : Nat → Nat → Nat) {gE : zG} {h0 : Nat} {a0_2 : Nat} {a0_3 : Nat} {h1 : Nat} {cA1 : ClassId} {I0 : Nat → Int32} {n1 : Nat} {f1 : Nat → Int32} {x1 : Int32} {sz : Nat} {Z : Int32 → Unit → Prop} (hv : v_Reader_colourLength_0 I0 n1 f1 x1 Z) : Met l (⟨"NumberDress$Reader", "colourLength", "(I)I"⟩ : MethodName) (Cond.code (⟨"NumberDress$Reader", "colourLength", "(I)I"⟩ : MethodName) prog_9_method_12_code 4 (some .int) :: zT) { frames := 5, cells := 0, slots := 0, locals := 108 } (zPc gE (dC, dI) zCl [(cA1, .char)] [.ref h0, .int x1] sz [(h0, .inr (8, o_Reader I0 h1 a0_2 a0_3)), (h1, .inl (cA1, n1, .inl f1))]) (va_Qi Z (zB (dC, dI) zCl [(cA1, .char)] (va_A [(h0, .inr (8, o_Reader I0 h1 a0_2 a0_3)), (h1, .inl (cA1, n1, .inl f1))] sz) (fun u : Unit => [(h0, .inr (8, o_Reader I0 h1 a0_2 a0_3)), (h1, .inl (cA1, n1, .inl f1))])) (va_A [(h0, .inr (8, o_Reader I0 h1 a0_2 a0_3)), (h1, .inl (cA1, n1, .inl f1))] sz)) 0 0 (va_A [(h0, .inr (8, o_Reader I0 h1 a0_2 a0_3)), (h1, .inl (cA1, n1, .inl f1))] sz) := by
  refine Met.ofW (cc := prog_9_method_12_code) (maxL := 4) (ret := (some .int)) (by decide +kernel) rfl ?_
  intro p e s m args below meth c s₁ B hml hp
  obtain ⟨rfl, hsz, hP, hK, hD0, hE⟩ := hp
  have hts := atoms_spec (ws := (Cond.code (⟨"NumberDress$Reader", "colourLength", "(I)I"⟩ : MethodName) prog_9_method_12_code 4 (some .int) :: zT)) B.pre
  have hown : s.vm.findClass "NumberDress$Reader" = some m.cls := findClass_of_methodNamed B.named
  have hc : zC p s m _ meth c prog_9_method_12_code (some .int) 4 "NumberDress$Reader" := ⟨B.exec, B.bytes, B.returns, hml, hown, fun w h => hts w (List.mem_cons_of_mem _ h), B.notSynchronized⟩
  subst hsz
  have hD := hD0.self (sz := s.heap.size)
  generalize hAe : va_A [(h0, .inr (8, o_Reader I0 h1 a0_2 a0_3)), (h1, .inl (cA1, n1, .inl f1))] s.heap.size = A at hD hE ⊢
  have hA : ∀ q : Nat, s.heap.size ≤ q → A q := fun q h => by rw [← hAe]; exact Or.inr h
  have hl := lv_entry ([.ref h0, .int x1]) (n := 4) (Nat.le_of_ble_eq_true rfl)
  rw [lg_entry_eq]
  exact b_Reader_colourLength_0 hc hA hE hl hK hP hD va_S.rf hv
theorem d_SL_canEncode_0 : decode prog_22_method_4_code 0 = .ok (.iload_n 0, 1) := by decide +kernel
theorem d_SL_canEncode_1 : decode prog_22_method_4_code 1 = .ok (.ifCond .lt 14, 3) := by decide +kernel
theorem d_SL_canEncode_4 : decode prog_22_method_4_code 4 = .ok (.iload_n 0, 1) := by decide +kernel
theorem d_SL_canEncode_5 : decode prog_22_method_4_code 5 = .ok (.sipush 255, 3) := by decide +kernel
theorem d_SL_canEncode_8 : decode prog_22_method_4_code 8 = .ok (.if_icmp .gt 7, 3) := by decide +kernel
theorem d_SL_canEncode_11 : decode prog_22_method_4_code 11 = .ok (.iconst 1, 1) := by decide +kernel
theorem d_SL_canEncode_12 : decode prog_22_method_4_code 12 = .ok (.goto 4, 3) := by decide +kernel
theorem d_SL_canEncode_15 : decode prog_22_method_4_code 15 = .ok (.iconst 0, 1) := by decide +kernel
theorem d_SL_canEncode_16 : decode prog_22_method_4_code 16 = .ok (.ireturn, 1) := by decide +kernel
set_option maxHeartbeats 4000000 in
set_option maxRecDepth 100000 in
theorem b_SL_canEncode_0  {x0 : Int32}  {Z : Int32 → Unit → Prop} {H : Heap} {locs : List Loc} {ls : Array Slot} (hc : zC p s m args meth c prog_22_method_4_code (some .boolean) 1 "java/lang/StringLatin1") (hA : ∀ q : Nat, s.heap.size ≤ q → A q) (hE : zE gE A s) (hl : lv_has ls 1 [(0, .int x0)]) (hK : va_K (dC, dI) zCl [] s) (hP : va_P (dC, dI) zCl [] H) (hD : va_D A []) (hS : va_S A s.heap H locs) (hv : v_SL_canEncode_0 x0  Z) : W p l e (headSpec (Cond.code (⟨"java/lang/StringLatin1", "canEncode", "(I)Z"⟩ : MethodName) prog_22_method_4_code 1 (some .boolean) :: zT) { frames := 0, cells := 0, slots := 0, locals := 0 }).room s m args below meth c H locs 0 0 (MQ below (va_Qi Z (zB (dC, dI) zCl [] A (fun u : Unit => [])) A) args s 0 0 A) (F0 m 0 ls []) := by
  obtain ⟨hx, hb, hr, hml, hown, ht, hlocks⟩ := id hc
  unfold v_SL_canEncode_0 at hv
  refine lv_iload_n hx hb d_SL_canEncode_0 rfl (lv_at hl 0 rfl) ?_
  refine lv_if_lt (tgt := 15) hx hb d_SL_canEncode_1 (by decide) (fun c_1 => ?_) (fun c_1 => ?_)
  · have hv := hv.1 c_1
    refine lv_iconst (v := (0 : Int32)) hx hb d_SL_canEncode_15 (by decide) ?_
    exact W.zret (v := (0 : Int32)) hx hb hr (by decide) (fun t ht hW => ⟨⟨_, (), rfl, hv, ⟨by rw [ht]; exact hP, va_K.moved hW.alike hK, hD⟩⟩, hS.F ht⟩) hS.2.2 d_SL_canEncode_16
  · have hv := hv.2 c_1
    refine lv_iload_n hx hb d_SL_canEncode_4 rfl (lv_at hl 0 rfl) ?_
    refine lv_sipush (v := (255 : Int32)) hx hb d_SL_canEncode_5 (by decide) ?_
    refine lv_icmp_gt (tgt := 15) hx hb d_SL_canEncode_8 (by decide) (fun c_2 => ?_) (fun c_2 => ?_)
    · have hv := hv.1 c_2
      refine lv_iconst (v := (0 : Int32)) hx hb d_SL_canEncode_15 (by decide) ?_
      exact W.zret (v := (0 : Int32)) hx hb hr (by decide) (fun t ht hW => ⟨⟨_, (), rfl, hv, ⟨by rw [ht]; exact hP, va_K.moved hW.alike hK, hD⟩⟩, hS.F ht⟩) hS.2.2 d_SL_canEncode_16
    · have hv := hv.2 c_2
      refine lv_iconst (v := (1 : Int32)) hx hb d_SL_canEncode_11 (by decide) ?_
      refine lv_goto (tgt := 16) hx hb d_SL_canEncode_12 (by decide) ?_
      exact W.zret (v := (1 : Int32)) hx hb hr (by decide) (fun t ht hW => ⟨⟨_, (), rfl, hv, ⟨by rw [ht]; exact hP, va_K.moved hW.alike hK, hD⟩⟩, hS.F ht⟩) hS.2.2 d_SL_canEncode_16
theorem zi_SL_canEncode : Cond.code (⟨"java/lang/StringLatin1", "canEncode", "(I)Z"⟩ : MethodName) prog_22_method_4_code 1 (some .boolean) ∈ zT := zw_613
theorem zh_SL_canEncode : (((⟨"java/lang/StringLatin1", "canEncode", "(I)Z"⟩ : MethodName)).cls ≠ "java/lang/invoke/MethodHandle" ∧ ((⟨"java/lang/StringLatin1", "canEncode", "(I)Z"⟩ : MethodName)).cls ≠ "java/lang/invoke/VarHandle" ∧ (parseMethodDescriptor ((⟨"java/lang/StringLatin1", "canEncode", "(I)Z"⟩ : MethodName)).desc).map (fun d => d.parameters.length) = some 1) := by decide +kernel
set_option maxHeartbeats 4000000 in
set_option maxRecDepth 100000 in
theorem m_SL_canEncode (l : Launch) (dC : Nat → ClassId) (dI : Nat → Nat → Nat) {gE : zG}  {x0 : Int32} {sz : Nat} {Z : Int32 → Unit → Prop} (hv : v_SL_canEncode_0 x0 Z) : Met l (⟨"java/lang/StringLatin1", "canEncode", "(I)Z"⟩ : MethodName) (Cond.code (⟨"java/lang/StringLatin1", "canEncode", "(I)Z"⟩ : MethodName) prog_22_method_4_code 1 (some .boolean) :: zT) { frames := 0, cells := 0, slots := 0, locals := 0 } (zPc gE (dC, dI) zCl [] [.int x0] sz []) (va_Qi Z (zB (dC, dI) zCl [] (va_A [] sz) (fun u : Unit => [])) (va_A [] sz)) 0 0 (va_A [] sz) := by
  refine va_MetF (cc := prog_22_method_4_code) (maxL := 1) (ret := (some .boolean)) (by decide +kernel) rfl ?_
  intro p e s m args below meth c s₁ B hml hp
  obtain ⟨rfl, hsz, hP, hK, hD0, hE⟩ := hp
  have hts := atoms_spec (ws := (Cond.code (⟨"java/lang/StringLatin1", "canEncode", "(I)Z"⟩ : MethodName) prog_22_method_4_code 1 (some .boolean) :: zT)) B.pre
  have hown : s.vm.findClass "java/lang/StringLatin1" = some m.cls := findClass_of_methodNamed B.named
  have hc : zC p s m _ meth c prog_22_method_4_code (some .boolean) 1 "java/lang/StringLatin1" := ⟨B.exec, B.bytes, B.returns, hml, hown, fun w h => hts w (List.mem_cons_of_mem _ h), B.notSynchronized⟩
  subst hsz
  have hD := hD0.self (sz := s.heap.size)
  generalize hAe : va_A [] s.heap.size = A at hD hE ⊢
  have hA : ∀ q : Nat, s.heap.size ≤ q → A q := fun q h => by rw [← hAe]; exact Or.inr h
  have hl := lv_entry ([.int x0]) (n := 1) (Nat.le_of_ble_eq_true rfl)
  rw [lg_entry_eq]
  exact b_SL_canEncode_0 hc hA hE hl hK hP hD va_S.rf hv
theorem d_SL_indexOfChar_0 : decode prog_22_method_23_code 0 = .ok (.iload_n 1, 1) := by decide +kernel
theorem d_SL_indexOfChar_1 : decode prog_22_method_23_code 1 = .ok (.i2b, 1) := by decide +kernel
theorem d_SL_indexOfChar_2 : decode prog_22_method_23_code 2 = .ok (.istore 4, 2) := by decide +kernel
theorem d_SL_indexOfChar_4 : decode prog_22_method_23_code 4 = .ok (.iload_n 2, 1) := by decide +kernel
theorem d_SL_indexOfChar_5 : decode prog_22_method_23_code 5 = .ok (.istore 5, 2) := by decide +kernel
theorem d_SL_indexOfChar_7 : decode prog_22_method_23_code 7 = .ok (.iload 5, 2) := by decide +kernel
theorem d_SL_indexOfChar_9 : decode prog_22_method_23_code 9 = .ok (.iload_n 3, 1) := by decide +kernel
theorem d_SL_indexOfChar_10 : decode prog_22_method_23_code 10 = .ok (.if_icmp .ge 21, 3) := by decide +kernel
theorem d_SL_indexOfChar_13 : decode prog_22_method_23_code 13 = .ok (.aload_n 0, 1) := by decide +kernel
theorem d_SL_indexOfChar_14 : decode prog_22_method_23_code 14 = .ok (.iload 5, 2) := by decide +kernel
theorem d_SL_indexOfChar_16 : decode prog_22_method_23_code 16 = .ok (.baload, 1) := by decide +kernel
theorem d_SL_indexOfChar_17 : decode prog_22_method_23_code 17 = .ok (.iload 4, 2) := by decide +kernel
theorem d_SL_indexOfChar_19 : decode prog_22_method_23_code 19 = .ok (.if_icmp .ne 6, 3) := by decide +kernel
theorem d_SL_indexOfChar_22 : decode prog_22_method_23_code 22 = .ok (.iload 5, 2) := by decide +kernel
theorem d_SL_indexOfChar_24 : decode prog_22_method_23_code 24 = .ok (.ireturn, 1) := by decide +kernel
theorem d_SL_indexOfChar_25 : decode prog_22_method_23_code 25 = .ok (.iinc 5 1, 3) := by decide +kernel
theorem d_SL_indexOfChar_28 : decode prog_22_method_23_code 28 = .ok (.goto (-21), 3) := by decide +kernel
theorem d_SL_indexOfChar_31 : decode prog_22_method_23_code 31 = .ok (.iconst (-1), 1) := by decide +kernel
theorem d_SL_indexOfChar_32 : decode prog_22_method_23_code 32 = .ok (.ireturn, 1) := by decide +kernel
set_option maxHeartbeats 4000000 in
set_option maxRecDepth 100000 in
theorem b_SL_indexOfChar_7  {x0 : Nat} {x3 : Int32} {x4 : Int32}  {Z : Int32 → Unit → Prop} (hc : zC p s m args meth c prog_22_method_23_code (some .int) 6 "java/lang/StringLatin1") (hA : ∀ q : Nat, s.heap.size ≤ q → A q) (hE : zE gE A s) : ∀ (N : Nat) (x5 : Int32) (H : Heap) (locs : List Loc) (ls : Array Slot), lv_has ls 6 [(0, .ref (gE.2.2.1 x0)), (3, .int x3), (4, .int x4), (5, .int x5)] → va_K (dC, dI) zCl [] s → va_P (dC, dI) zCl [] H → va_D A [] → va_S A s.heap H locs → v_SL_indexOfChar_7 x0 x3 x4  Z N x5 → W p l e (headSpec (Cond.code (⟨"java/lang/StringLatin1", "indexOfChar", "([BIII)I"⟩ : MethodName) prog_22_method_23_code 6 (some .int) :: zT) { frames := 0, cells := 0, slots := 0, locals := 0 }).room s m args below meth c H locs 0 0 (MQ below (va_Qi Z (zB (dC, dI) zCl [] A (fun u : Unit => [])) A) args s 0 0 A) (F0 m 7 ls []) := by
  obtain ⟨hx, hb, hr, hml, hown, ht, hlocks⟩ := id hc
  intro N
  induction N with
  | zero => intro x5 H locs ls hl hK hP hD hS hv; exact hv.elim
  | succ N hk7 =>
    intro x5 H locs ls hl hK hP hD hS hv
    unfold v_SL_indexOfChar_7 at hv
    refine lv_iload hx hb d_SL_indexOfChar_7 (lv_at hl 3 rfl) ?_
    refine lv_iload_n hx hb d_SL_indexOfChar_9 rfl (lv_at hl 1 rfl) ?_
    refine lv_icmp_ge (tgt := 31) hx hb d_SL_indexOfChar_10 (by decide) (fun c_1 => ?_) (fun c_1 => ?_)
    · have hv := hv.1 c_1
      refine lv_iconst (v := (-1 : Int32)) hx hb d_SL_indexOfChar_31 (by decide) ?_
      exact W.iret (v := (-1 : Int32)) hx hb hr (fun t ht hW => ⟨⟨_, (), rfl, hv, ⟨by rw [ht]; exact hP, va_K.moved hW.alike hK, hD⟩⟩, hS.F ht⟩) hS.2.2 d_SL_indexOfChar_32
    · have hv := hv.2 c_1
      refine lv_aload_n hx hb d_SL_indexOfChar_13 rfl (lv_at hl 0 rfl) ?_
      refine lv_iload hx hb d_SL_indexOfChar_14 (lv_at hl 3 rfl) ?_
      obtain ⟨q_2, hv⟩ := hv
      obtain ⟨q_3, hv⟩ := hv
      refine va_tb hx hb (hE.sbytes q_2) hS q_3 rfl d_SL_indexOfChar_16 ?_
      refine lv_iload hx hb d_SL_indexOfChar_17 (lv_at hl 2 rfl) ?_
      refine lv_icmp_ne (tgt := 25) hx hb d_SL_indexOfChar_19 (by decide) (fun c_4 => ?_) (fun c_4 => ?_)
      · have hv := hv.1 c_4
        refine lv_iinc (v := (x5 + (1 : Int32))) (lv' := [(5, .int (x5 + (1 : Int32))), (0, .ref (gE.2.2.1 x0)), (3, .int x3), (4, .int x4)]) hx hb d_SL_indexOfChar_25 hl (k := 3) rfl rfl (by decide) rfl (fun ls hl => ?_)
        refine lv_goto (tgt := 7) hx hb d_SL_indexOfChar_28 (by decide) ?_
        exact hk7 (x5 + (1 : Int32)) _ _ _ (lv_sub hl [1, 2, 3, 0] rfl) hK hP hD hS hv
      · have hv := hv.2 c_4
        refine lv_iload hx hb d_SL_indexOfChar_22 (lv_at hl 3 rfl) ?_
        exact W.iret (v := x5) hx hb hr (fun t ht hW => ⟨⟨_, (), rfl, hv, ⟨by rw [ht]; exact hP, va_K.moved hW.alike hK, hD⟩⟩, hS.F ht⟩) hS.2.2 d_SL_indexOfChar_24
set_option maxHeartbeats 4000000 in
set_option maxRecDepth 100000 in
theorem b_SL_indexOfChar_0  {x0 : Nat} {x1 : Int32} {x2 : Int32} {x3 : Int32}  {Z : Int32 → Unit → Prop} {H : Heap} {locs : List Loc} {ls : Array Slot} (hc : zC p s m args meth c prog_22_method_23_code (some .int) 6 "java/lang/StringLatin1") (hA : ∀ q : Nat, s.heap.size ≤ q → A q) (hE : zE gE A s) (hl : lv_has ls 6 [(0, .ref (gE.2.2.1 x0)), (1, .int x1), (2, .int x2), (3, .int x3)]) (hK : va_K (dC, dI) zCl [] s) (hP : va_P (dC, dI) zCl [] H) (hD : va_D A []) (hS : va_S A s.heap H locs) (hv : v_SL_indexOfChar_0 x0 x1 x2 x3  Z) : W p l e (headSpec (Cond.code (⟨"java/lang/StringLatin1", "indexOfChar", "([BIII)I"⟩ : MethodName) prog_22_method_23_code 6 (some .int) :: zT) { frames := 0, cells := 0, slots := 0, locals := 0 }).room s m args below meth c H locs 0 0 (MQ below (va_Qi Z (zB (dC, dI) zCl [] A (fun u : Unit => [])) A) args s 0 0 A) (F0 m 0 ls []) := by
  obtain ⟨hx, hb, hr, hml, hown, ht, hlocks⟩ := id hc
  unfold v_SL_indexOfChar_0 at hv
  refine lv_iload_n hx hb d_SL_indexOfChar_0 rfl (lv_at hl 1 rfl) ?_
  refine lv_i2b (v := x1.toInt8.toInt32) hx hb d_SL_indexOfChar_1 rfl ?_
  refine lv_istore (lv' := [(4, .int x1.toInt8.toInt32), (0, .ref (gE.2.2.1 x0)), (1, .int x1), (2, .int x2), (3, .int x3)]) hx hb d_SL_indexOfChar_2 hl (by decide) rfl (fun ls hl => ?_)
  refine lv_iload_n hx hb d_SL_indexOfChar_4 rfl (lv_at hl 3 rfl) ?_
  refine lv_istore (lv' := [(5, .int x2), (4, .int x1.toInt8.toInt32), (0, .ref (gE.2.2.1 x0)), (1, .int x1), (2, .int x2), (3, .int x3)]) hx hb d_SL_indexOfChar_5 hl (by decide) rfl (fun ls hl => ?_)
  obtain ⟨Nx, hv⟩ := hv
  exact b_SL_indexOfChar_7 hc hA hE  Nx x2 _ _ _ (lv_sub hl [2, 5, 1, 0] rfl) hK hP hD hS hv
theorem zi_SL_indexOfChar : Cond.code (⟨"java/lang/StringLatin1", "indexOfChar", "([BIII)I"⟩ : MethodName) prog_22_method_23_code 6 (some .int) ∈ zT := zw_620
theorem zh_SL_indexOfChar : (((⟨"java/lang/StringLatin1", "indexOfChar", "([BIII)I"⟩ : MethodName)).cls ≠ "java/lang/invoke/MethodHandle" ∧ ((⟨"java/lang/StringLatin1", "indexOfChar", "([BIII)I"⟩ : MethodName)).cls ≠ "java/lang/invoke/VarHandle" ∧ (parseMethodDescriptor ((⟨"java/lang/StringLatin1", "indexOfChar", "([BIII)I"⟩ : MethodName)).desc).map (fun d => d.parameters.length) = some 4) := by decide +kernel
set_option maxHeartbeats 4000000 in
set_option maxRecDepth 100000 in
theorem m_SL_indexOfChar (l : Launch) (dC : Nat → ClassId) (dI : Nat → Nat → Nat) {gE : zG}  {x0 : Nat} {x1 : Int32} {x2 : Int32} {x3 : Int32} {sz : Nat} {Z : Int32 → Unit → Prop} (hv : v_SL_indexOfChar_0 x0 x1 x2 x3 Z) : Met l (⟨"java/lang/StringLatin1", "indexOfChar", "([BIII)I"⟩ : MethodName) (Cond.code (⟨"java/lang/StringLatin1", "indexOfChar", "([BIII)I"⟩ : MethodName) prog_22_method_23_code 6 (some .int) :: zT) { frames := 0, cells := 0, slots := 0, locals := 0 } (zPc gE (dC, dI) zCl [] [.ref (gE.2.2.1 x0), .int x1, .int x2, .int x3] sz []) (va_Qi Z (zB (dC, dI) zCl [] (va_A [] sz) (fun u : Unit => [])) (va_A [] sz)) 0 0 (va_A [] sz) := by
  refine va_MetF (cc := prog_22_method_23_code) (maxL := 6) (ret := (some .int)) (by decide +kernel) rfl ?_
  intro p e s m args below meth c s₁ B hml hp
  obtain ⟨rfl, hsz, hP, hK, hD0, hE⟩ := hp
  have hts := atoms_spec (ws := (Cond.code (⟨"java/lang/StringLatin1", "indexOfChar", "([BIII)I"⟩ : MethodName) prog_22_method_23_code 6 (some .int) :: zT)) B.pre
  have hown : s.vm.findClass "java/lang/StringLatin1" = some m.cls := findClass_of_methodNamed B.named
  have hc : zC p s m _ meth c prog_22_method_23_code (some .int) 6 "java/lang/StringLatin1" := ⟨B.exec, B.bytes, B.returns, hml, hown, fun w h => hts w (List.mem_cons_of_mem _ h), B.notSynchronized⟩
  subst hsz
  have hD := hD0.self (sz := s.heap.size)
  generalize hAe : va_A [] s.heap.size = A at hD hE ⊢
  have hA : ∀ q : Nat, s.heap.size ≤ q → A q := fun q h => by rw [← hAe]; exact Or.inr h
  have hl := lv_entry ([.ref (gE.2.2.1 x0), .int x1, .int x2, .int x3]) (n := 6) (Nat.le_of_ble_eq_true rfl)
  rw [lg_entry_eq]
  exact b_SL_indexOfChar_0 hc hA hE hl hK hP hD va_S.rf hv
theorem d_SL_indexOf_0 : decode prog_22_method_22_code 0 = .ok (.iload_n 1, 1) := by decide +kernel
theorem d_SL_indexOf_1 : decode prog_22_method_22_code 1 = .ok (.invokestatic 88, 3) := by decide +kernel
theorem d_SL_indexOf_4 : decode prog_22_method_22_code 4 = .ok (.ifCond .ne 5, 3) := by decide +kernel
theorem d_SL_indexOf_7 : decode prog_22_method_22_code 7 = .ok (.iconst (-1), 1) := by decide +kernel
theorem d_SL_indexOf_8 : decode prog_22_method_22_code 8 = .ok (.ireturn, 1) := by decide +kernel
theorem d_SL_indexOf_9 : decode prog_22_method_22_code 9 = .ok (.iload_n 2, 1) := by decide +kernel
theorem d_SL_indexOf_10 : decode prog_22_method_22_code 10 = .ok (.iconst 0, 1) := by decide +kernel
theorem d_SL_indexOf_11 : decode prog_22_method_22_code 11 = .ok (.invokestatic 92, 3) := by decide +kernel
theorem d_SL_indexOf_14 : decode prog_22_method_22_code 14 = .ok (.istore_n 2, 1) := by decide +kernel
theorem d_SL_indexOf_15 : decode prog_22_method_22_code 15 = .ok (.iload_n 3, 1) := by decide +kernel
theorem d_SL_indexOf_16 : decode prog_22_method_22_code 16 = .ok (.aload_n 0, 1) := by decide +kernel
theorem d_SL_indexOf_17 : decode prog_22_method_22_code 17 = .ok (.arraylength, 1) := by decide +kernel
theorem d_SL_indexOf_18 : decode prog_22_method_22_code 18 = .ok (.invokestatic 38, 3) := by decide +kernel
theorem d_SL_indexOf_21 : decode prog_22_method_22_code 21 = .ok (.istore_n 3, 1) := by decide +kernel
theorem d_SL_indexOf_22 : decode prog_22_method_22_code 22 = .ok (.iload_n 2, 1) := by decide +kernel
theorem d_SL_indexOf_23 : decode prog_22_method_22_code 23 = .ok (.iload_n 3, 1) := by decide +kernel
theorem d_SL_indexOf_24 : decode prog_22_method_22_code 24 = .ok (.if_icmp .lt 5, 3) := by decide +kernel
theorem d_SL_indexOf_27 : decode prog_22_method_22_code 27 = .ok (.iconst (-1), 1) := by decide +kernel
theorem d_SL_indexOf_28 : decode prog_22_method_22_code 28 = .ok (.ireturn, 1) := by decide +kernel
theorem d_SL_indexOf_29 : decode prog_22_method_22_code 29 = .ok (.aload_n 0, 1) := by decide +kernel
theorem d_SL_indexOf_30 : decode prog_22_method_22_code 30 = .ok (.iload_n 1, 1) := by decide +kernel
theorem d_SL_indexOf_31 : decode prog_22_method_22_code 31 = .ok (.iload_n 2, 1) := by decide +kernel
theorem d_SL_indexOf_32 : decode prog_22_method_22_code 32 = .ok (.iload_n 3, 1) := by decide +kernel
theorem d_SL_indexOf_33 : decode prog_22_method_22_code 33 = .ok (.invokestatic 95, 3) := by decide +kernel
theorem d_SL_indexOf_36 : decode prog_22_method_22_code 36 = .ok (.ireturn, 1) := by decide +kernel
set_option maxHeartbeats 4000000 in
set_option maxRecDepth 100000 in
theorem b_SL_indexOf_36  {s0 : Int32}  {Z : Int32 → Unit → Prop} {H : Heap} {locs : List Loc} {ls : Array Slot} (hc : zC p s m args meth c prog_22_method_22_code (some .int) 4 "java/lang/StringLatin1") (hA : ∀ q : Nat, s.heap.size ≤ q → A q) (hE : zE gE A s) (hl : lv_has ls 4 []) (hK : va_K (dC, dI) zCl [] s) (hP : va_P (dC, dI) zCl [] H) (hD : va_D A []) (hS : va_S A s.heap H locs) (hv : v_SL_indexOf_36 s0  Z) : W p l e (headSpec (Cond.code (⟨"java/lang/StringLatin1", "indexOf", "([BIII)I"⟩ : MethodName) prog_22_method_22_code 4 (some .int) :: zT) { frames := 1, cells := 0, slots := 0, locals := 25 }).room s m args below meth c H locs 0 0 (MQ below (va_Qi Z (zB (dC, dI) zCl [] A (fun u : Unit => [])) A) args s 0 0 A) (F0 m 36 ls [.int s0]) := by
  obtain ⟨hx, hb, hr, hml, hown, ht, hlocks⟩ := id hc
  unfold v_SL_indexOf_36 at hv
  exact W.iret (v := s0) hx hb hr (fun t ht hW => ⟨⟨_, (), rfl, hv, ⟨by rw [ht]; exact hP, va_K.moved hW.alike hK, hD⟩⟩, hS.F ht⟩) hS.2.2 d_SL_indexOf_36
set_option maxHeartbeats 4000000 in
set_option maxRecDepth 100000 in
theorem b_SL_indexOf_4  {x0 : Nat} {x1 : Int32} {x2 : Int32} {x3 : Int32} {s0 : Int32}  {Z : Int32 → Unit → Prop} {H : Heap} {locs : List Loc} {ls : Array Slot} (hc : zC p s m args meth c prog_22_method_22_code (some .int) 4 "java/lang/StringLatin1") (hA : ∀ q : Nat, s.heap.size ≤ q → A q) (hE : zE gE A s) (hl : lv_has ls 4 [(0, .ref (gE.2.2.1 x0)), (1, .int x1), (2, .int x2), (3, .int x3)]) (hK : va_K (dC, dI) zCl [] s) (hP : va_P (dC, dI) zCl [] H) (hD : va_D A []) (hS : va_S A s.heap H locs) (hv : v_SL_indexOf_4 x0 x1 x2 x3 s0  Z) : W p l e (headSpec (Cond.code (⟨"java/lang/StringLatin1", "indexOf", "([BIII)I"⟩ : MethodName) prog_22_method_22_code 4 (some .int) :: zT) { frames := 1, cells := 0, slots := 0, locals := 25 }).room s m args below meth c H locs 0 0 (MQ below (va_Qi Z (zB (dC, dI) zCl [] A (fun u : Unit => [])) A) args s 0 0 A) (F0 m 4 ls [.int s0]) := by
  obtain ⟨hx, hb, hr, hml, hown, ht, hlocks⟩ := id hc
  unfold v_SL_indexOf_4 at hv
  refine lv_if_ne (tgt := 9) hx hb d_SL_indexOf_4 (by decide) (fun c_1 => ?_) (fun c_1 => ?_)
  · have hv := hv.1 c_1
    refine lv_iload_n hx hb d_SL_indexOf_9 rfl (lv_at hl 2 rfl) ?_
    refine lv_iconst (v := (0 : Int32)) hx hb d_SL_indexOf_10 (by decide) ?_
    refine z_mmax hx hb (hml.trans hl.1.symm) hown (ht _ zw_614) (ht _ zw_615) (ht _ zw_128) (ht _ zw_616) (Nat.le_of_ble_eq_true rfl) (Nat.le_of_ble_eq_true rfl) (Nat.zero_le _) (Nat.zero_le _) d_SL_indexOf_11 ?_
    refine lv_istore_n (lv' := [(2, .int (zmax x2 (0 : Int32))), (0, .ref (gE.2.2.1 x0)), (1, .int x1), (3, .int x3)]) hx hb d_SL_indexOf_14 rfl hl (by decide) rfl (fun ls hl => ?_)
    refine lv_iload_n hx hb d_SL_indexOf_15 rfl (lv_at hl 3 rfl) ?_
    refine lv_aload_n hx hb d_SL_indexOf_16 rfl (lv_at hl 1 rfl) ?_
    obtain ⟨q_2, hv⟩ := hv
    refine va_tlen (v := (nI (zsn x0))) hx hb (hE.sbytes q_2) hS rfl d_SL_indexOf_17 ?_
    refine z_mmin hx hb (hml.trans hl.1.symm) hown (ht _ zw_617) (ht _ zw_502) (ht _ zw_128) (ht _ zw_503) (Nat.le_of_ble_eq_true rfl) (Nat.le_of_ble_eq_true rfl) (Nat.zero_le _) (Nat.zero_le _) d_SL_indexOf_18 ?_
    refine lv_istore_n (lv' := [(3, .int (zmin x3 (nI (zsn x0)))), (2, .int (zmax x2 (0 : Int32))), (0, .ref (gE.2.2.1 x0)), (1, .int x1)]) hx hb d_SL_indexOf_21 rfl hl (by decide) rfl (fun ls hl => ?_)
    refine lv_iload_n hx hb d_SL_indexOf_22 rfl (lv_at hl 1 rfl) ?_
    refine lv_iload_n hx hb d_SL_indexOf_23 rfl (lv_at hl 0 rfl) ?_
    refine lv_icmp_lt (tgt := 29) hx hb d_SL_indexOf_24 (by decide) (fun c_3 => ?_) (fun c_3 => ?_)
    · have hv := hv.1 c_3
      refine lv_aload_n hx hb d_SL_indexOf_29 rfl (lv_at hl 2 rfl) ?_
      refine lv_iload_n hx hb d_SL_indexOf_30 rfl (lv_at hl 3 rfl) ?_
      refine lv_iload_n hx hb d_SL_indexOf_31 rfl (lv_at hl 1 rfl) ?_
      refine lv_iload_n hx hb d_SL_indexOf_32 rfl (lv_at hl 0 rfl) ?_
      refine z_calli (wc := []) (wr := []) [] [] (va_runS (As := [.ref (gE.2.2.1 x0), .int x1, .int (zmax x2 (0 : Int32)), .int (zmin x3 (nI (zsn x0)))]) (rest := []) ⟨hx, hb, hml, hown, ht⟩ (m_SL_indexOfChar l dC dI hv) ⟨(callB_of 4 ht (zG_in zi_SL_indexOfChar) rfl rfl rfl (ht _ zw_130) (ht _ zw_618) zh_SL_indexOfChar ⟨Nat.le_of_ble_eq_true rfl, Nat.le_of_ble_eq_true rfl⟩), (ht _ zw_619)⟩ ⟨zPc_blind, zPc_pre hP hK hD hS hA hE [] [] rfl rfl (by decide) rfl⟩ rfl rfl hl.1 rfl (lv_room (Nat.le_of_ble_eq_true rfl)) d_SL_indexOf_33 ⟨Nat.le_of_ble_eq_true rfl, Nat.le_of_ble_eq_true rfl⟩) hP hD hS hA rfl rfl (by decide) (by decide) (fun r u H locs hv hP hD hS => ?_)
      have hP : va_P (dC, dI) zCl [] H := hP.sub [] rfl
      have hD : va_D A [] := hD.sub [] (by decide) rfl
      exact b_SL_indexOf_36 hc hA hE  (lv_sub hl [] rfl) hK hP hD hS hv
    · have hv := hv.2 c_3
      refine lv_iconst (v := (-1 : Int32)) hx hb d_SL_indexOf_27 (by decide) ?_
      exact W.iret (v := (-1 : Int32)) hx hb hr (fun t ht hW => ⟨⟨_, (), rfl, hv, ⟨by rw [ht]; exact hP, va_K.moved hW.alike hK, hD⟩⟩, hS.F ht⟩) hS.2.2 d_SL_indexOf_28
  · have hv := hv.2 c_1
    refine lv_iconst (v := (-1 : Int32)) hx hb d_SL_indexOf_7 (by decide) ?_
    exact W.iret (v := (-1 : Int32)) hx hb hr (fun t ht hW => ⟨⟨_, (), rfl, hv, ⟨by rw [ht]; exact hP, va_K.moved hW.alike hK, hD⟩⟩, hS.F ht⟩) hS.2.2 d_SL_indexOf_8
set_option maxHeartbeats 4000000 in
set_option maxRecDepth 100000 in
theorem b_SL_indexOf_0  {x0 : Nat} {x1 : Int32} {x2 : Int32} {x3 : Int32}  {Z : Int32 → Unit → Prop} {H : Heap} {locs : List Loc} {ls : Array Slot} (hc : zC p s m args meth c prog_22_method_22_code (some .int) 4 "java/lang/StringLatin1") (hA : ∀ q : Nat, s.heap.size ≤ q → A q) (hE : zE gE A s) (hl : lv_has ls 4 [(0, .ref (gE.2.2.1 x0)), (1, .int x1), (2, .int x2), (3, .int x3)]) (hK : va_K (dC, dI) zCl [] s) (hP : va_P (dC, dI) zCl [] H) (hD : va_D A []) (hS : va_S A s.heap H locs) (hv : v_SL_indexOf_0 x0 x1 x2 x3  Z) : W p l e (headSpec (Cond.code (⟨"java/lang/StringLatin1", "indexOf", "([BIII)I"⟩ : MethodName) prog_22_method_22_code 4 (some .int) :: zT) { frames := 1, cells := 0, slots := 0, locals := 25 }).room s m args below meth c H locs 0 0 (MQ below (va_Qi Z (zB (dC, dI) zCl [] A (fun u : Unit => [])) A) args s 0 0 A) (F0 m 0 ls []) := by
  obtain ⟨hx, hb, hr, hml, hown, ht, hlocks⟩ := id hc
  unfold v_SL_indexOf_0 at hv
  refine lv_iload_n hx hb d_SL_indexOf_0 rfl (lv_at hl 1 rfl) ?_
  refine z_calli (wc := []) (wr := []) [] [] (va_runS (As := [.int x1]) (rest := []) ⟨hx, hb, hml, hown, ht⟩ (m_SL_canEncode l dC dI hv) ⟨(callB_of 1 ht (zG_in zi_SL_canEncode) rfl rfl rfl (ht _ zw_130) (ht _ zw_611) zh_SL_canEncode ⟨Nat.le_of_ble_eq_true rfl, Nat.le_of_ble_eq_true rfl⟩), (ht _ zw_612)⟩ ⟨zPc_blind, zPc_pre hP hK hD hS hA hE [] [] rfl rfl (by decide) rfl⟩ rfl rfl hl.1 rfl (lv_room (Nat.le_of_ble_eq_true rfl)) d_SL_indexOf_1 ⟨Nat.le_of_ble_eq_true rfl, Nat.le_of_ble_eq_true rfl⟩) hP hD hS hA rfl rfl (by decide) (by decide) (fun r u H locs hv hP hD hS => ?_)
  have hP : va_P (dC, dI) zCl [] H := hP.sub [] rfl
  have hD : va_D A [] := hD.sub [] (by decide) rfl
  exact b_SL_indexOf_4 hc hA hE  (lv_sub hl [0, 1, 2, 3] rfl) hK hP hD hS hv
theorem zi_SL_indexOf : Cond.code (⟨"java/lang/StringLatin1", "indexOf", "([BIII)I"⟩ : MethodName) prog_22_method_22_code 4 (some .int) ∈ zT := zw_610
theorem zh_SL_indexOf : (((⟨"java/lang/StringLatin1", "indexOf", "([BIII)I"⟩ : MethodName)).cls ≠ "java/lang/invoke/MethodHandle" ∧ ((⟨"java/lang/StringLatin1", "indexOf", "([BIII)I"⟩ : MethodName)).cls ≠ "java/lang/invoke/VarHandle" ∧ (parseMethodDescriptor ((⟨"java/lang/StringLatin1", "indexOf", "([BIII)I"⟩ : MethodName)).desc).map (fun d => d.parameters.length) = some 4) := by decide +kernel
set_option maxHeartbeats 4000000 in
set_option maxRecDepth 100000 in
theorem m_SL_indexOf (l : Launch) (dC : Nat → ClassId) (dI : Nat → Nat → Nat) {gE : zG}  {x0 : Nat} {x1 : Int32} {x2 : Int32} {x3 : Int32} {sz : Nat} {Z : Int32 → Unit → Prop} (hv : v_SL_indexOf_0 x0 x1 x2 x3 Z) : Met l (⟨"java/lang/StringLatin1", "indexOf", "([BIII)I"⟩ : MethodName) (Cond.code (⟨"java/lang/StringLatin1", "indexOf", "([BIII)I"⟩ : MethodName) prog_22_method_22_code 4 (some .int) :: zT) { frames := 1, cells := 0, slots := 0, locals := 25 } (zPc gE (dC, dI) zCl [] [.ref (gE.2.2.1 x0), .int x1, .int x2, .int x3] sz []) (va_Qi Z (zB (dC, dI) zCl [] (va_A [] sz) (fun u : Unit => [])) (va_A [] sz)) 0 0 (va_A [] sz) := by
  refine va_MetF (cc := prog_22_method_22_code) (maxL := 4) (ret := (some .int)) (by decide +kernel) rfl ?_
  intro p e s m args below meth c s₁ B hml hp
  obtain ⟨rfl, hsz, hP, hK, hD0, hE⟩ := hp
  have hts := atoms_spec (ws := (Cond.code (⟨"java/lang/StringLatin1", "indexOf", "([BIII)I"⟩ : MethodName) prog_22_method_22_code 4 (some .int) :: zT)) B.pre
  have hown : s.vm.findClass "java/lang/StringLatin1" = some m.cls := findClass_of_methodNamed B.named
  have hc : zC p s m _ meth c prog_22_method_22_code (some .int) 4 "java/lang/StringLatin1" := ⟨B.exec, B.bytes, B.returns, hml, hown, fun w h => hts w (List.mem_cons_of_mem _ h), B.notSynchronized⟩
  subst hsz
  have hD := hD0.self (sz := s.heap.size)
  generalize hAe : va_A [] s.heap.size = A at hD hE ⊢
  have hA : ∀ q : Nat, s.heap.size ≤ q → A q := fun q h => by rw [← hAe]; exact Or.inr h
  have hl := lv_entry ([.ref (gE.2.2.1 x0), .int x1, .int x2, .int x3]) (n := 4) (Nat.le_of_ble_eq_true rfl)
  rw [lg_entry_eq]
  exact b_SL_indexOf_0 hc hA hE hl hK hP hD va_S.rf hv
theorem d_S_indexOf1_0 : decode prog_21_method_80_code 0 = .ok (.aload_n 0, 1) := by decide +kernel
theorem d_S_indexOf1_1 : decode prog_21_method_80_code 1 = .ok (.invokevirtual 492, 3) := by decide +kernel
theorem d_S_indexOf1_4 : decode prog_21_method_80_code 4 = .ok (.ifCond .eq 19, 3) := by decide +kernel
theorem d_S_indexOf1_7 : decode prog_21_method_80_code 7 = .ok (.aload_n 0, 1) := by decide +kernel
theorem d_S_indexOf1_8 : decode prog_21_method_80_code 8 = .ok (.getfield 9, 3) := by decide +kernel
theorem d_S_indexOf1_11 : decode prog_21_method_80_code 11 = .ok (.iload_n 1, 1) := by decide +kernel
theorem d_S_indexOf1_12 : decode prog_21_method_80_code 12 = .ok (.iload_n 2, 1) := by decide +kernel
theorem d_S_indexOf1_13 : decode prog_21_method_80_code 13 = .ok (.aload_n 0, 1) := by decide +kernel
theorem d_S_indexOf1_14 : decode prog_21_method_80_code 14 = .ok (.invokevirtual 505, 3) := by decide +kernel
theorem d_S_indexOf1_17 : decode prog_21_method_80_code 17 = .ok (.invokestatic 637, 3) := by decide +kernel
theorem d_S_indexOf1_20 : decode prog_21_method_80_code 20 = .ok (.goto 16, 3) := by decide +kernel
theorem d_S_indexOf1_23 : decode prog_21_method_80_code 23 = .ok (.aload_n 0, 1) := by decide +kernel
theorem d_S_indexOf1_24 : decode prog_21_method_80_code 24 = .ok (.getfield 9, 3) := by decide +kernel
theorem d_S_indexOf1_27 : decode prog_21_method_80_code 27 = .ok (.iload_n 1, 1) := by decide +kernel
theorem d_S_indexOf1_28 : decode prog_21_method_80_code 28 = .ok (.iload_n 2, 1) := by decide +kernel
theorem d_S_indexOf1_29 : decode prog_21_method_80_code 29 = .ok (.aload_n 0, 1) := by decide +kernel
theorem d_S_indexOf1_30 : decode prog_21_method_80_code 30 = .ok (.invokevirtual 505, 3) := by decide +kernel
theorem d_S_indexOf1_33 : decode prog_21_method_80_code 33 = .ok (.invokestatic 640, 3) := by decide +kernel
theorem d_S_indexOf1_36 : decode prog_21_method_80_code 36 = .ok (.ireturn, 1) := by decide +kernel
set_option maxHeartbeats 4000000 in
set_option maxRecDepth 100000 in
theorem b_S_indexOf1_20  {s0 : Int32}  {Z : Int32 → Unit → Prop} {H : Heap} {locs : List Loc} {ls : Array Slot} (hc : zC p s m args meth c prog_21_method_80_code (some .int) 3 "java/lang/String") (hA : ∀ q : Nat, s.heap.size ≤ q → A q) (hE : zE gE A s) (hl : lv_has ls 3 []) (hK : va_K (dC, dI) zCl [] s) (hP : va_P (dC, dI) zCl [] H) (hD : va_D A []) (hS : va_S A s.heap H locs) (hv : v_S_indexOf1_20 s0  Z) : W p l e (headSpec (Cond.code (⟨"java/lang/String", "indexOf", "(II)I"⟩ : MethodName) prog_21_method_80_code 3 (some .int) :: zT) { frames := 2, cells := 0, slots := 0, locals := 48 }).room s m args below meth c H locs 0 0 (MQ below (va_Qi Z (zB (dC, dI) zCl [] A (fun u : Unit => [])) A) args s 0 0 A) (F0 m 20 ls [.int s0]) := by
  obtain ⟨hx, hb, hr, hml, hown, ht, hlocks⟩ := id hc
  unfold v_S_indexOf1_20 at hv
  refine lv_goto (tgt := 36) hx hb d_S_indexOf1_20 (by decide) ?_
  exact W.iret (v := s0) hx hb hr (fun t ht hW => ⟨⟨_, (), rfl, hv, ⟨by rw [ht]; exact hP, va_K.moved hW.alike hK, hD⟩⟩, hS.F ht⟩) hS.2.2 d_S_indexOf1_36
set_option maxHeartbeats 4000000 in
set_option maxRecDepth 100000 in
theorem b_S_indexOf1_17  {s0 : Nat} {s1 : Int32} {s2 : Int32} {s3 : Int32}  {Z : Int32 → Unit → Prop} {H : Heap} {locs : List Loc} {ls : Array Slot} (hc : zC p s m args meth c prog_21_method_80_code (some .int) 3 "java/lang/String") (hA : ∀ q : Nat, s.heap.size ≤ q → A q) (hE : zE gE A s) (hl : lv_has ls 3 []) (hK : va_K (dC, dI) zCl [] s) (hP : va_P (dC, dI) zCl [] H) (hD : va_D A []) (hS : va_S A s.heap H locs) (hv : v_S_indexOf1_17 s0 s1 s2 s3  Z) : W p l e (headSpec (Cond.code (⟨"java/lang/String", "indexOf", "(II)I"⟩ : MethodName) prog_21_method_80_code 3 (some .int) :: zT) { frames := 2, cells := 0, slots := 0, locals := 48 }).room s m args below meth c H locs 0 0 (MQ below (va_Qi Z (zB (dC, dI) zCl [] A (fun u : Unit => [])) A) args s 0 0 A) (F0 m 17 ls [.int s3, .int s2, .int s1, .ref (gE.2.2.1 s0)]) := by
  obtain ⟨hx, hb, hr, hml, hown, ht, hlocks⟩ := id hc
  unfold v_S_indexOf1_17 at hv
  refine z_calli (wc := []) (wr := []) [] [] (va_runS (As := [.ref (gE.2.2.1 s0), .int s1, .int s2, .int s3]) (rest := []) ⟨hx, hb, hml, hown, ht⟩ (m_SL_indexOf l dC dI hv) ⟨(callB_of 4 ht (zG_in zi_SL_indexOf) rfl rfl rfl (ht _ zw_130) (ht _ zw_608) zh_SL_indexOf ⟨Nat.le_of_ble_eq_true rfl, Nat.le_of_ble_eq_true rfl⟩), (ht _ zw_609)⟩ ⟨zPc_blind, zPc_pre hP hK hD hS hA hE [] [] rfl rfl (by decide) rfl⟩ rfl rfl hl.1 rfl (lv_room (Nat.le_of_ble_eq_true rfl)) d_S_indexOf1_17 ⟨Nat.le_of_ble_eq_true rfl, Nat.le_of_ble_eq_true rfl⟩) hP hD hS hA rfl rfl (by decide) (by decide) (fun r u H locs hv hP hD hS => ?_)
  have hP : va_P (dC, dI) zCl [] H := hP.sub [] rfl
  have hD : va_D A [] := hD.sub [] (by decide) rfl
  exact b_S_indexOf1_20 hc hA hE  (lv_sub hl [] rfl) hK hP hD hS hv
set_option maxHeartbeats 4000000 in
set_option maxRecDepth 100000 in
theorem b_S_indexOf1_33  {s0 : Nat} {s1 : Int32} {s2 : Int32} {s3 : Int32}  {Z : Int32 → Unit → Prop} {H : Heap} {locs : List Loc} {ls : Array Slot} (hc : zC p s m args meth c prog_21_method_80_code (some .int) 3 "java/lang/String") (hA : ∀ q : Nat, s.heap.size ≤ q → A q) (hE : zE gE A s) (hl : lv_has ls 3 []) (hK : va_K (dC, dI) zCl [] s) (hP : va_P (dC, dI) zCl [] H) (hD : va_D A []) (hS : va_S A s.heap H locs) (hv : v_S_indexOf1_33 s0 s1 s2 s3  Z) : W p l e (headSpec (Cond.code (⟨"java/lang/String", "indexOf", "(II)I"⟩ : MethodName) prog_21_method_80_code 3 (some .int) :: zT) { frames := 2, cells := 0, slots := 0, locals := 48 }).room s m args below meth c H locs 0 0 (MQ below (va_Qi Z (zB (dC, dI) zCl [] A (fun u : Unit => [])) A) args s 0 0 A) (F0 m 33 ls [.int s3, .int s2, .int s1, .ref (gE.2.2.1 s0)]) := by
  obtain ⟨hx, hb, hr, hml, hown, ht, hlocks⟩ := id hc
  unfold v_S_indexOf1_33 at hv
  exact hv.elim
set_option maxHeartbeats 4000000 in
set_option maxRecDepth 100000 in
theorem b_S_indexOf1_4  {x0 : Nat} {x1 : Int32} {x2 : Int32} {s0 : Int32}  {Z : Int32 → Unit → Prop} {H : Heap} {locs : List Loc} {ls : Array Slot} (hc : zC p s m args meth c prog_21_method_80_code (some .int) 3 "java/lang/String") (hA : ∀ q : Nat, s.heap.size ≤ q → A q) (hE : zE gE A s) (hl : lv_has ls 3 [(0, .ref (gE.2.1 x0)), (1, .int x1), (2, .int x2)]) (hK : va_K (dC, dI) zCl [] s) (hP : va_P (dC, dI) zCl [] H) (hD : va_D A []) (hS : va_S A s.heap H locs) (hv : v_S_indexOf1_4 x0 x1 x2 s0  Z) : W p l e (headSpec (Cond.code (⟨"java/lang/String", "indexOf", "(II)I"⟩ : MethodName) prog_21_method_80_code 3 (some .int) :: zT) { frames := 2, cells := 0, slots := 0, locals := 48 }).room s m args below meth c H locs 0 0 (MQ below (va_Qi Z (zB (dC, dI) zCl [] A (fun u : Unit => [])) A) args s 0 0 A) (F0 m 4 ls [.int s0]) := by
  obtain ⟨hx, hb, hr, hml, hown, ht, hlocks⟩ := id hc
  unfold v_S_indexOf1_4 at hv
  refine lv_if_eq (tgt := 23) hx hb d_S_indexOf1_4 (by decide) (fun c_1 => ?_) (fun c_1 => ?_)
  · have hv := hv.1 c_1
    refine lv_aload_n hx hb d_S_indexOf1_23 rfl (lv_at hl 0 rfl) ?_
    obtain ⟨q_2, hv⟩ := hv
    refine vk_getf hx hb (hE.sfvalue q_2) hS hown (ht _ zw_1688) (fun _ h9 => h9) d_S_indexOf1_24 ?_
    refine lv_iload_n hx hb d_S_indexOf1_27 rfl (lv_at hl 1 rfl) ?_
    refine lv_iload_n hx hb d_S_indexOf1_28 rfl (lv_at hl 2 rfl) ?_
    refine lv_aload_n hx hb d_S_indexOf1_29 rfl (lv_at hl 0 rfl) ?_
    obtain ⟨qs, hv⟩ := hv
    refine z_calli (wc := []) (wr := []) [] [] (va_runV (As := []) (rest := [.int x2, .int x1, .ref (gE.2.2.1 x0)]) ⟨hx, hb, hml, hown, ht⟩ (m_S_length l dC dI hv) ⟨(callB_of 0 ht (zG_in zi_S_length) rfl rfl rfl (ht _ zw_129) (ht _ zw_607) zh_S_length ⟨Nat.le_of_ble_eq_true rfl, Nat.le_of_ble_eq_true rfl⟩), (ht _ zw_544), (ht _ zw_545)⟩ ⟨zPc_blind, hE.srecv qs hS, zPc_pre hP hK hD hS hA hE [] [] rfl rfl (by decide) rfl⟩ rfl rfl hl.1 rfl (lv_room (Nat.le_of_ble_eq_true rfl)) d_S_indexOf1_30 ⟨Nat.le_of_ble_eq_true rfl, Nat.le_of_ble_eq_true rfl⟩) hP hD hS hA rfl rfl (by decide) (by decide) (fun r u H locs hv hP hD hS => ?_)
    have hP : va_P (dC, dI) zCl [] H := hP.sub [] rfl
    have hD : va_D A [] := hD.sub [] (by decide) rfl
    exact b_S_indexOf1_33 hc hA hE  (lv_sub hl [] rfl) hK hP hD hS hv
  · have hv := hv.2 c_1
    refine lv_aload_n hx hb d_S_indexOf1_7 rfl (lv_at hl 0 rfl) ?_
    obtain ⟨q_3, hv⟩ := hv
    refine vk_getf hx hb (hE.sfvalue q_3) hS hown (ht _ zw_1688) (fun _ h9 => h9) d_S_indexOf1_8 ?_
    refine lv_iload_n hx hb d_S_indexOf1_11 rfl (lv_at hl 1 rfl) ?_
    refine lv_iload_n hx hb d_S_indexOf1_12 rfl (lv_at hl 2 rfl) ?_
    refine lv_aload_n hx hb d_S_indexOf1_13 rfl (lv_at hl 0 rfl) ?_
    obtain ⟨qs, hv⟩ := hv
    refine z_calli (wc := []) (wr := []) [] [] (va_runV (As := []) (rest := [.int x2, .int x1, .ref (gE.2.2.1 x0)]) ⟨hx, hb, hml, hown, ht⟩ (m_S_length l dC dI hv) ⟨(callB_of 0 ht (zG_in zi_S_length) rfl rfl rfl (ht _ zw_129) (ht _ zw_607) zh_S_length ⟨Nat.le_of_ble_eq_true rfl, Nat.le_of_ble_eq_true rfl⟩), (ht _ zw_544), (ht _ zw_545)⟩ ⟨zPc_blind, hE.srecv qs hS, zPc_pre hP hK hD hS hA hE [] [] rfl rfl (by decide) rfl⟩ rfl rfl hl.1 rfl (lv_room (Nat.le_of_ble_eq_true rfl)) d_S_indexOf1_14 ⟨Nat.le_of_ble_eq_true rfl, Nat.le_of_ble_eq_true rfl⟩) hP hD hS hA rfl rfl (by decide) (by decide) (fun r u H locs hv hP hD hS => ?_)
    have hP : va_P (dC, dI) zCl [] H := hP.sub [] rfl
    have hD : va_D A [] := hD.sub [] (by decide) rfl
    exact b_S_indexOf1_17 hc hA hE  (lv_sub hl [] rfl) hK hP hD hS hv
set_option maxHeartbeats 4000000 in
set_option maxRecDepth 100000 in
theorem b_S_indexOf1_0  {x0 : Nat} {x1 : Int32} {x2 : Int32}  {Z : Int32 → Unit → Prop} {H : Heap} {locs : List Loc} {ls : Array Slot} (hc : zC p s m args meth c prog_21_method_80_code (some .int) 3 "java/lang/String") (hA : ∀ q : Nat, s.heap.size ≤ q → A q) (hE : zE gE A s) (hl : lv_has ls 3 [(0, .ref (gE.2.1 x0)), (1, .int x1), (2, .int x2)]) (hK : va_K (dC, dI) zCl [] s) (hP : va_P (dC, dI) zCl [] H) (hD : va_D A []) (hS : va_S A s.heap H locs) (hv : v_S_indexOf1_0 x0 x1 x2  Z) : W p l e (headSpec (Cond.code (⟨"java/lang/String", "indexOf", "(II)I"⟩ : MethodName) prog_21_method_80_code 3 (some .int) :: zT) { frames := 2, cells := 0, slots := 0, locals := 48 }).room s m args below meth c H locs 0 0 (MQ below (va_Qi Z (zB (dC, dI) zCl [] A (fun u : Unit => [])) A) args s 0 0 A) (F0 m 0 ls []) := by
  obtain ⟨hx, hb, hr, hml, hown, ht, hlocks⟩ := id hc
  unfold v_S_indexOf1_0 at hv
  refine lv_aload_n hx hb d_S_indexOf1_0 rfl (lv_at hl 0 rfl) ?_
  obtain ⟨qs, hv⟩ := hv
  refine z_calli (wc := []) (wr := []) [] [] (va_runV (As := []) (rest := []) ⟨hx, hb, hml, hown, ht⟩ (m_S_isLatin1 l dC dI hv) ⟨(callB_of 0 ht (zG_in zi_S_isLatin1) rfl rfl rfl (ht _ zw_129) (ht _ zw_561) zh_S_isLatin1 ⟨Nat.le_of_ble_eq_true rfl, Nat.le_of_ble_eq_true rfl⟩), (ht _ zw_562), (ht _ zw_563)⟩ ⟨zPc_blind, hE.srecv qs hS, zPc_pre hP hK hD hS hA hE [] [] rfl rfl (by decide) rfl⟩ rfl rfl hl.1 rfl (lv_room (Nat.le_of_ble_eq_true rfl)) d_S_indexOf1_1 ⟨Nat.le_of_ble_eq_true rfl, Nat.le_of_ble_eq_true rfl⟩) hP hD hS hA rfl rfl (by decide) (by decide) (fun r u H locs hv hP hD hS => ?_)
  have hP : va_P (dC, dI) zCl [] H := hP.sub [] rfl
  have hD : va_D A [] := hD.sub [] (by decide) rfl
  exact b_S_indexOf1_4 hc hA hE  (lv_sub hl [0, 1, 2] rfl) hK hP hD hS hv
theorem zi_S_indexOf1 : Cond.code (⟨"java/lang/String", "indexOf", "(II)I"⟩ : MethodName) prog_21_method_80_code 3 (some .int) ∈ zT := zw_606
theorem zh_S_indexOf1 : (((⟨"java/lang/String", "indexOf", "(II)I"⟩ : MethodName)).cls ≠ "java/lang/invoke/MethodHandle" ∧ ((⟨"java/lang/String", "indexOf", "(II)I"⟩ : MethodName)).cls ≠ "java/lang/invoke/VarHandle" ∧ (parseMethodDescriptor ((⟨"java/lang/String", "indexOf", "(II)I"⟩ : MethodName)).desc).map (fun d => d.parameters.length) = some 2) := by decide +kernel
set_option maxHeartbeats 4000000 in
set_option maxRecDepth 100000 in
theorem m_S_indexOf1 (l : Launch) (dC : Nat → ClassId) (dI : Nat → Nat → Nat) {gE : zG}  {x0 : Nat} {x1 : Int32} {x2 : Int32} {sz : Nat} {Z : Int32 → Unit → Prop} (hv : v_S_indexOf1_0 x0 x1 x2 Z) : Met l (⟨"java/lang/String", "indexOf", "(II)I"⟩ : MethodName) (Cond.code (⟨"java/lang/String", "indexOf", "(II)I"⟩ : MethodName) prog_21_method_80_code 3 (some .int) :: zT) { frames := 2, cells := 0, slots := 0, locals := 48 } (zPc gE (dC, dI) zCl [] [.ref (gE.2.1 x0), .int x1, .int x2] sz []) (va_Qi Z (zB (dC, dI) zCl [] (va_A [] sz) (fun u : Unit => [])) (va_A [] sz)) 0 0 (va_A [] sz) := by
  refine va_MetF (cc := prog_21_method_80_code) (maxL := 3) (ret := (some .int)) (by decide +kernel) rfl ?_
  intro p e s m args below meth c s₁ B hml hp
  obtain ⟨rfl, hsz, hP, hK, hD0, hE⟩ := hp
  have hts := atoms_spec (ws := (Cond.code (⟨"java/lang/String", "indexOf", "(II)I"⟩ : MethodName) prog_21_method_80_code 3 (some .int) :: zT)) B.pre
  have hown : s.vm.findClass "java/lang/String" = some m.cls := findClass_of_methodNamed B.named
  have hc : zC p s m _ meth c prog_21_method_80_code (some .int) 3 "java/lang/String" := ⟨B.exec, B.bytes, B.returns, hml, hown, fun w h => hts w (List.mem_cons_of_mem _ h), B.notSynchronized⟩
  subst hsz
  have hD := hD0.self (sz := s.heap.size)
  generalize hAe : va_A [] s.heap.size = A at hD hE ⊢
  have hA : ∀ q : Nat, s.heap.size ≤ q → A q := fun q h => by rw [← hAe]; exact Or.inr h
  have hl := lv_entry ([.ref (gE.2.1 x0), .int x1, .int x2]) (n := 3) (Nat.le_of_ble_eq_true rfl)
  rw [lg_entry_eq]
  exact b_S_indexOf1_0 hc hA hE hl hK hP hD va_S.rf hv
theorem d_S_indexOf0_0 : decode prog_21_method_79_code 0 = .ok (.aload_n 0, 1) := by decide +kernel
theorem d_S_indexOf0_1 : decode prog_21_method_79_code 1 = .ok (.iload_n 1, 1) := by decide +kernel
theorem d_S_indexOf0_2 : decode prog_21_method_79_code 2 = .ok (.iconst 0, 1) := by decide +kernel
theorem d_S_indexOf0_3 : decode prog_21_method_79_code 3 = .ok (.invokevirtual 633, 3) := by decide +kernel
theorem d_S_indexOf0_6 : decode prog_21_method_79_code 6 = .ok (.ireturn, 1) := by decide +kernel
set_option maxHeartbeats 4000000 in
set_option maxRecDepth 100000 in
theorem b_S_indexOf0_6  {s0 : Int32}  {Z : Int32 → Unit → Prop} {H : Heap} {locs : List Loc} {ls : Array Slot} (hc : zC p s m args meth c prog_21_method_79_code (some .int) 2 "java/lang/String") (hA : ∀ q : Nat, s.heap.size ≤ q → A q) (hE : zE gE A s) (hl : lv_has ls 2 []) (hK : va_K (dC, dI) zCl [] s) (hP : va_P (dC, dI) zCl [] H) (hD : va_D A []) (hS : va_S A s.heap H locs) (hv : v_S_indexOf0_6 s0  Z) : W p l e (headSpec (Cond.code (⟨"java/lang/String", "indexOf", "(I)I"⟩ : MethodName) prog_21_method_79_code 2 (some .int) :: zT) { frames := 3, cells := 0, slots := 0, locals := 70 }).room s m args below meth c H locs 0 0 (MQ below (va_Qi Z (zB (dC, dI) zCl [] A (fun u : Unit => [])) A) args s 0 0 A) (F0 m 6 ls [.int s0]) := by
  obtain ⟨hx, hb, hr, hml, hown, ht, hlocks⟩ := id hc
  unfold v_S_indexOf0_6 at hv
  exact W.iret (v := s0) hx hb hr (fun t ht hW => ⟨⟨_, (), rfl, hv, ⟨by rw [ht]; exact hP, va_K.moved hW.alike hK, hD⟩⟩, hS.F ht⟩) hS.2.2 d_S_indexOf0_6
set_option maxHeartbeats 4000000 in
set_option maxRecDepth 100000 in
theorem b_S_indexOf0_0  {x0 : Nat} {x1 : Int32}  {Z : Int32 → Unit → Prop} {H : Heap} {locs : List Loc} {ls : Array Slot} (hc : zC p s m args meth c prog_21_method_79_code (some .int) 2 "java/lang/String") (hA : ∀ q : Nat, s.heap.size ≤ q → A q) (hE : zE gE A s) (hl : lv_has ls 2 [(0, .ref (gE.2.1 x0)), (1, .int x1)]) (hK : va_K (dC, dI) zCl [] s) (hP : va_P (dC, dI) zCl [] H) (hD : va_D A []) (hS : va_S A s.heap H locs) (hv : v_S_indexOf0_0 x0 x1  Z) : W p l e (headSpec (Cond.code (⟨"java/lang/String", "indexOf", "(I)I"⟩ : MethodName) prog_21_method_79_code 2 (some .int) :: zT) { frames := 3, cells := 0, slots := 0, locals := 70 }).room s m args below meth c H locs 0 0 (MQ below (va_Qi Z (zB (dC, dI) zCl [] A (fun u : Unit => [])) A) args s 0 0 A) (F0 m 0 ls []) := by
  obtain ⟨hx, hb, hr, hml, hown, ht, hlocks⟩ := id hc
  unfold v_S_indexOf0_0 at hv
  refine lv_aload_n hx hb d_S_indexOf0_0 rfl (lv_at hl 0 rfl) ?_
  refine lv_iload_n hx hb d_S_indexOf0_1 rfl (lv_at hl 1 rfl) ?_
  refine lv_iconst (v := (0 : Int32)) hx hb d_S_indexOf0_2 (by decide) ?_
  obtain ⟨qs, hv⟩ := hv
  refine z_calli (wc := []) (wr := []) [] [] (va_runV (As := [.int x1, .int (0 : Int32)]) (rest := []) ⟨hx, hb, hml, hown, ht⟩ (m_S_indexOf1 l dC dI hv) ⟨(callB_of 2 ht (zG_in zi_S_indexOf1) rfl rfl rfl (ht _ zw_129) (ht _ zw_603) zh_S_indexOf1 ⟨Nat.le_of_ble_eq_true rfl, Nat.le_of_ble_eq_true rfl⟩), (ht _ zw_604), (ht _ zw_605)⟩ ⟨zPc_blind, hE.srecv qs hS, zPc_pre hP hK hD hS hA hE [] [] rfl rfl (by decide) rfl⟩ rfl rfl hl.1 rfl (lv_room (Nat.le_of_ble_eq_true rfl)) d_S_indexOf0_3 ⟨Nat.le_of_ble_eq_true rfl, Nat.le_of_ble_eq_true rfl⟩) hP hD hS hA rfl rfl (by decide) (by decide) (fun r u H locs hv hP hD hS => ?_)
  have hP : va_P (dC, dI) zCl [] H := hP.sub [] rfl
  have hD : va_D A [] := hD.sub [] (by decide) rfl
  exact b_S_indexOf0_6 hc hA hE  (lv_sub hl [] rfl) hK hP hD hS hv
theorem zi_S_indexOf0 : Cond.code (⟨"java/lang/String", "indexOf", "(I)I"⟩ : MethodName) prog_21_method_79_code 2 (some .int) ∈ zT := zw_602
theorem zh_S_indexOf0 : (((⟨"java/lang/String", "indexOf", "(I)I"⟩ : MethodName)).cls ≠ "java/lang/invoke/MethodHandle" ∧ ((⟨"java/lang/String", "indexOf", "(I)I"⟩ : MethodName)).cls ≠ "java/lang/invoke/VarHandle" ∧ (parseMethodDescriptor ((⟨"java/lang/String", "indexOf", "(I)I"⟩ : MethodName)).desc).map (fun d => d.parameters.length) = some 1) := by decide +kernel
set_option maxHeartbeats 4000000 in
set_option maxRecDepth 100000 in
theorem m_S_indexOf0 (l : Launch) (dC : Nat → ClassId) (dI : Nat → Nat → Nat) {gE : zG}  {x0 : Nat} {x1 : Int32} {sz : Nat} {Z : Int32 → Unit → Prop} (hv : v_S_indexOf0_0 x0 x1 Z) : Met l (⟨"java/lang/String", "indexOf", "(I)I"⟩ : MethodName) (Cond.code (⟨"java/lang/String", "indexOf", "(I)I"⟩ : MethodName) prog_21_method_79_code 2 (some .int) :: zT) { frames := 3, cells := 0, slots := 0, locals := 70 } (zPc gE (dC, dI) zCl [] [.ref (gE.2.1 x0), .int x1] sz []) (va_Qi Z (zB (dC, dI) zCl [] (va_A [] sz) (fun u : Unit => [])) (va_A [] sz)) 0 0 (va_A [] sz) := by
  refine va_MetF (cc := prog_21_method_79_code) (maxL := 2) (ret := (some .int)) (by decide +kernel) rfl ?_
  intro p e s m args below meth c s₁ B hml hp
  obtain ⟨rfl, hsz, hP, hK, hD0, hE⟩ := hp
  have hts := atoms_spec (ws := (Cond.code (⟨"java/lang/String", "indexOf", "(I)I"⟩ : MethodName) prog_21_method_79_code 2 (some .int) :: zT)) B.pre
  have hown : s.vm.findClass "java/lang/String" = some m.cls := findClass_of_methodNamed B.named
  have hc : zC p s m _ meth c prog_21_method_79_code (some .int) 2 "java/lang/String" := ⟨B.exec, B.bytes, B.returns, hml, hown, fun w h => hts w (List.mem_cons_of_mem _ h), B.notSynchronized⟩
  subst hsz
  have hD := hD0.self (sz := s.heap.size)
  generalize hAe : va_A [] s.heap.size = A at hD hE ⊢
  have hA : ∀ q : Nat, s.heap.size ≤ q → A q := fun q h => by rw [← hAe]; exact Or.inr h
  have hl := lv_entry ([.ref (gE.2.1 x0), .int x1]) (n := 2) (Nat.le_of_ble_eq_true rfl)
  rw [lg_entry_eq]
  exact b_S_indexOf0_0 hc hA hE hl hK hP hD va_S.rf hv
end
