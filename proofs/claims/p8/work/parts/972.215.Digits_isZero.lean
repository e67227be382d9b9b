section
variable {p : Program} {l : Launch} {e : Env} {s : State} {m : MethodId} {args : Array Value} {below : List Frame} {meth : Method} {c : Code} {dC : Nat → ClassId} {dI : Nat → Nat → Nat} {A : Nat → Prop} {gE : zG}
theorem d_Digits_isZero_0 : decode prog_4_method_4_code 0 = .ok (.aload_n 0, 1) := by decide +kernel
theorem d_Digits_isZero_1 : decode prog_4_method_4_code 1 = .ok (.getfield 23, 3) := by decide +kernel
theorem d_Digits_isZero_4 : decode prog_4_method_4_code 4 = .ok (.ifCond .ne 7, 3) := by decide +kernel
theorem d_Digits_isZero_7 : decode prog_4_method_4_code 7 = .ok (.iconst 1, 1) := by decide +kernel
theorem d_Digits_isZero_8 : decode prog_4_method_4_code 8 = .ok (.goto 4, 3) := by decide +kernel
theorem d_Digits_isZero_11 : decode prog_4_method_4_code 11 = .ok (.iconst 0, 1) := by decide +kernel
theorem d_Digits_isZero_12 : decode prog_4_method_4_code 12 = .ok (.ireturn, 1) := by decide +kernel
set_option maxHeartbeats 4000000 in
set_option maxRecDepth 100000 in
theorem b_Digits_isZero_0 {h0 : Nat} {I0 : Nat → Int32} {J0 : Nat → Int64}  {Z : Int32 → Unit → Prop} {H : Heap} {locs : List Loc} {ls : Array Slot} (hc : zC p s m args meth c prog_4_method_4_code (some .boolean) 1 "NumberDress$Digits") (hA : ∀ q : Nat, s.heap.size ≤ q → A q) (hE : zE gE A s) (hl : lv_has ls 1 [(0, .ref h0)]) (hK : va_K (dC, dI) zCl [] s) (hP : va_P (dC, dI) zCl [(h0, .inr (3, o_Digits I0 J0))] H) (hD : va_D A [(h0, .inr (3, o_Digits I0 J0))]) (hS : va_S A s.heap H locs) (hv : v_Digits_isZero_0 I0 J0  Z) : W p l e (headSpec (Cond.code (⟨"NumberDress$Digits", "isZero", "()Z"⟩ : MethodName) prog_4_method_4_code 1 (some .boolean) :: zT) { frames := 0, cells := 0, slots := 0, locals := 0 }).room s m args below meth c H locs 0 0 (MQ below (va_Qi Z (zB (dC, dI) zCl [] A (fun u : Unit => [(h0, .inr (3, o_Digits I0 J0))])) A) args s 0 0 A) (F0 m 0 ls []) := by
  obtain ⟨hx, hb, hr, hml, hown, ht, hlocks⟩ := id hc
  unfold v_Digits_isZero_0 at hv
  refine lv_aload_n hx hb d_Digits_isZero_0 rfl (lv_at hl 0 rfl) ?_
  refine va_get (D := (dC, dI)) (ci := 3) (v := .int (I0 2)) (C := "NumberDress$Digits") (T := T_Digits) (N := 4) hx hb ht zin_Digits hown hK hP 0 rfl rfl 2 (by decide) (ht _ zw_345) (fun _ h9 => h9) rfl d_Digits_isZero_1 ?_
  refine lv_if_ne (tgt := 11) hx hb d_Digits_isZero_4 (by decide) (fun c_1 => ?_) (fun c_1 => ?_)
  · have hv := hv.1 c_1
    refine lv_iconst (v := (0 : Int32)) hx hb d_Digits_isZero_11 (by decide) ?_
    exact W.zret (v := (0 : Int32)) hx hb hr (by decide) (fun t ht hW => ⟨⟨_, (), rfl, hv, ⟨by rw [ht]; exact hP, va_K.moved hW.alike hK, hD⟩⟩, hS.F ht⟩) hS.2.2 d_Digits_isZero_12
  · have hv := hv.2 c_1
    refine lv_iconst (v := (1 : Int32)) hx hb d_Digits_isZero_7 (by decide) ?_
    refine lv_goto (tgt := 12) hx hb d_Digits_isZero_8 (by decide) ?_
    exact W.zret (v := (1 : Int32)) hx hb hr (by decide) (fun t ht hW => ⟨⟨_, (), rfl, hv, ⟨by rw [ht]; exact hP, va_K.moved hW.alike hK, hD⟩⟩, hS.F ht⟩) hS.2.2 d_Digits_isZero_12
theorem zi_Digits_isZero : Cond.code (⟨"NumberDress$Digits", "isZero", "()Z"⟩ : MethodName) prog_4_method_4_code 1 (some .boolean) ∈ zT := zw_952
theorem zh_Digits_isZero : (((⟨"NumberDress$Digits", "isZero", "()Z"⟩ : MethodName)).cls ≠ "java/lang/invoke/MethodHandle" ∧ ((⟨"NumberDress$Digits", "isZero", "()Z"⟩ : MethodName)).cls ≠ "java/lang/invoke/VarHandle" ∧ (parseMethodDescriptor ((⟨"NumberDress$Digits", "isZero", "()Z"⟩ : MethodName)).desc).map (fun d => d.parameters.length) = some 0) := by decide +kernel
set_option maxHeartbeats 4000000 in
set_option maxRecDepth 100000 in
theorem m_Digits_isZero (l : Launch) (dC : Nat → ClassId) (dI : Nat → Nat → Nat) {gE : zG} {h0 : Nat} {I0 : Nat → Int32} {J0 : Nat → Int64} {sz : Nat} {Z : Int32 → Unit → Prop} (hv : v_Digits_isZero_0 I0 J0 Z) : Met l (⟨"NumberDress$Digits", "isZero", "()Z"⟩ : MethodName) (Cond.code (⟨"NumberDress$Digits", "isZero", "()Z"⟩ : MethodName) prog_4_method_4_code 1 (some .boolean) :: zT) { frames := 0, cells := 0, slots := 0, locals := 0 } (zPc gE (dC, dI) zCl [] [.ref h0] sz [(h0, .inr (3, o_Digits I0 J0))]) (va_Qi Z (zB (dC, dI) zCl [] (va_A [(h0, .inr (3, o_Digits I0 J0))] sz) (fun u : Unit => [(h0, .inr (3, o_Digits I0 J0))])) (va_A [(h0, .inr (3, o_Digits I0 J0))] sz)) 0 0 (va_A [(h0, .inr (3, o_Digits I0 J0))] sz) := by
  refine Met.ofW (cc := prog_4_method_4_code) (maxL := 1) (ret := (some .boolean)) (by decide +kernel) rfl ?_
  intro p e s m args below meth c s₁ B hml hp
  obtain ⟨rfl, hsz, hP, hK, hD0, hE⟩ := hp
  have hts := atoms_spec (ws := (Cond.code (⟨"NumberDress$Digits", "isZero", "()Z"⟩ : MethodName) prog_4_method_4_code 1 (some .boolean) :: zT)) B.pre
  have hown : s.vm.findClass "NumberDress$Digits" = some m.cls := findClass_of_methodNamed B.named
  have hc : zC p s m _ meth c prog_4_method_4_code (some .boolean) 1 "NumberDress$Digits" := ⟨B.exec, B.bytes, B.returns, hml, hown, fun w h => hts w (List.mem_cons_of_mem _ h), B.notSynchronized⟩
  subst hsz
  have hD := hD0.self (sz := s.heap.size)
  generalize hAe : va_A [(h0, .inr (3, o_Digits I0 J0))] s.heap.size = A at hD hE ⊢
  have hA : ∀ q : Nat, s.heap.size ≤ q → A q := fun q h => by rw [← hAe]; exact Or.inr h
  have hl := lv_entry ([.ref h0]) (n := 1) (Nat.le_of_ble_eq_true rfl)
  rw [lg_entry_eq]
  exact b_Digits_isZero_0 hc hA hE hl hK hP hD va_S.rf hv
theorem d_FractionDresser_tryUnder_0 : decode prog_6_method_4_code 0 = .ok (.aload_n 0, 1) := by decide +kernel
theorem d_FractionDresser_tryUnder_1 : decode prog_6_method_4_code 1 = .ok (.getfield 12, 3) := by decide +kernel
theorem d_FractionDresser_tryUnder_4 : decode prog_6_method_4_code 4 = .ok (.getfield 92, 3) := by decide +kernel
theorem d_FractionDresser_tryUnder_7 : decode prog_6_method_4_code 7 = .ok (.lload_n 1, 1) := by decide +kernel
theorem d_FractionDresser_tryUnder_8 : decode prog_6_method_4_code 8 = .ok (.lmul, 1) := by decide +kernel
theorem d_FractionDresser_tryUnder_9 : decode prog_6_method_4_code 9 = .ok (.lstore_n 3, 1) := by decide +kernel
theorem d_FractionDresser_tryUnder_10 : decode prog_6_method_4_code 10 = .ok (.lload_n 3, 1) := by decide +kernel
theorem d_FractionDresser_tryUnder_11 : decode prog_6_method_4_code 11 = .ok (.ldc2_w 95, 3) := by decide +kernel
theorem d_FractionDresser_tryUnder_14 : decode prog_6_method_4_code 14 = .ok (.ldiv, 1) := by decide +kernel
theorem d_FractionDresser_tryUnder_15 : decode prog_6_method_4_code 15 = .ok (.lstore 5, 2) := by decide +kernel
theorem d_FractionDresser_tryUnder_17 : decode prog_6_method_4_code 17 = .ok (.lload_n 3, 1) := by decide +kernel
theorem d_FractionDresser_tryUnder_18 : decode prog_6_method_4_code 18 = .ok (.lload 5, 2) := by decide +kernel
theorem d_FractionDresser_tryUnder_20 : decode prog_6_method_4_code 20 = .ok (.ldc2_w 95, 3) := by decide +kernel
theorem d_FractionDresser_tryUnder_23 : decode prog_6_method_4_code 23 = .ok (.lmul, 1) := by decide +kernel
theorem d_FractionDresser_tryUnder_24 : decode prog_6_method_4_code 24 = .ok (.lsub, 1) := by decide +kernel
theorem d_FractionDresser_tryUnder_25 : decode prog_6_method_4_code 25 = .ok (.lstore 7, 2) := by decide +kernel
theorem d_FractionDresser_tryUnder_27 : decode prog_6_method_4_code 27 = .ok (.ldc2_w 95, 3) := by decide +kernel
theorem d_FractionDresser_tryUnder_30 : decode prog_6_method_4_code 30 = .ok (.lload 7, 2) := by decide +kernel
theorem d_FractionDresser_tryUnder_32 : decode prog_6_method_4_code 32 = .ok (.lsub, 1) := by decide +kernel
theorem d_FractionDresser_tryUnder_33 : decode prog_6_method_4_code 33 = .ok (.lstore 9, 2) := by decide +kernel
theorem d_FractionDresser_tryUnder_35 : decode prog_6_method_4_code 35 = .ok (.lload 7, 2) := by decide +kernel
theorem d_FractionDresser_tryUnder_37 : decode prog_6_method_4_code 37 = .ok (.lload 9, 2) := by decide +kernel
theorem d_FractionDresser_tryUnder_39 : decode prog_6_method_4_code 39 = .ok (.lcmp, 1) := by decide +kernel
theorem d_FractionDresser_tryUnder_40 : decode prog_6_method_4_code 40 = .ok (.ifCond .gt 8, 3) := by decide +kernel
theorem d_FractionDresser_tryUnder_43 : decode prog_6_method_4_code 43 = .ok (.lload 5, 2) := by decide +kernel
theorem d_FractionDresser_tryUnder_45 : decode prog_6_method_4_code 45 = .ok (.goto 7, 3) := by decide +kernel
theorem d_FractionDresser_tryUnder_48 : decode prog_6_method_4_code 48 = .ok (.lload 5, 2) := by decide +kernel
theorem d_FractionDresser_tryUnder_50 : decode prog_6_method_4_code 50 = .ok (.lconst 1, 1) := by decide +kernel
theorem d_FractionDresser_tryUnder_51 : decode prog_6_method_4_code 51 = .ok (.ladd, 1) := by decide +kernel
theorem d_FractionDresser_tryUnder_52 : decode prog_6_method_4_code 52 = .ok (.lstore 11, 2) := by decide +kernel
theorem d_FractionDresser_tryUnder_54 : decode prog_6_method_4_code 54 = .ok (.lload 7, 2) := by decide +kernel
theorem d_FractionDresser_tryUnder_56 : decode prog_6_method_4_code 56 = .ok (.lload 9, 2) := by decide +kernel
theorem d_FractionDresser_tryUnder_58 : decode prog_6_method_4_code 58 = .ok (.lcmp, 1) := by decide +kernel
theorem d_FractionDresser_tryUnder_59 : decode prog_6_method_4_code 59 = .ok (.ifCond .gt 8, 3) := by decide +kernel
theorem d_FractionDresser_tryUnder_62 : decode prog_6_method_4_code 62 = .ok (.lload 7, 2) := by decide +kernel
theorem d_FractionDresser_tryUnder_64 : decode prog_6_method_4_code 64 = .ok (.goto 5, 3) := by decide +kernel
theorem d_FractionDresser_tryUnder_67 : decode prog_6_method_4_code 67 = .ok (.lload 9, 2) := by decide +kernel
theorem d_FractionDresser_tryUnder_69 : decode prog_6_method_4_code 69 = .ok (.lstore 13, 2) := by decide +kernel
theorem d_FractionDresser_tryUnder_71 : decode prog_6_method_4_code 71 = .ok (.aload_n 0, 1) := by decide +kernel
theorem d_FractionDresser_tryUnder_72 : decode prog_6_method_4_code 72 = .ok (.getfield 55, 3) := by decide +kernel
theorem d_FractionDresser_tryUnder_75 : decode prog_6_method_4_code 75 = .ok (.lconst 0, 1) := by decide +kernel
theorem d_FractionDresser_tryUnder_76 : decode prog_6_method_4_code 76 = .ok (.lcmp, 1) := by decide +kernel
theorem d_FractionDresser_tryUnder_77 : decode prog_6_method_4_code 77 = .ok (.ifCond .eq 20, 3) := by decide +kernel
theorem d_FractionDresser_tryUnder_80 : decode prog_6_method_4_code 80 = .ok (.lload 13, 2) := by decide +kernel
theorem d_FractionDresser_tryUnder_82 : decode prog_6_method_4_code 82 = .ok (.aload_n 0, 1) := by decide +kernel
theorem d_FractionDresser_tryUnder_83 : decode prog_6_method_4_code 83 = .ok (.getfield 55, 3) := by decide +kernel
theorem d_FractionDresser_tryUnder_86 : decode prog_6_method_4_code 86 = .ok (.lmul, 1) := by decide +kernel
theorem d_FractionDresser_tryUnder_87 : decode prog_6_method_4_code 87 = .ok (.aload_n 0, 1) := by decide +kernel
theorem d_FractionDresser_tryUnder_88 : decode prog_6_method_4_code 88 = .ok (.getfield 73, 3) := by decide +kernel
theorem d_FractionDresser_tryUnder_91 : decode prog_6_method_4_code 91 = .ok (.lload_n 1, 1) := by decide +kernel
theorem d_FractionDresser_tryUnder_92 : decode prog_6_method_4_code 92 = .ok (.lmul, 1) := by decide +kernel
theorem d_FractionDresser_tryUnder_93 : decode prog_6_method_4_code 93 = .ok (.lcmp, 1) := by decide +kernel
theorem d_FractionDresser_tryUnder_94 : decode prog_6_method_4_code 94 = .ok (.ifCond .ge 20, 3) := by decide +kernel
theorem d_FractionDresser_tryUnder_97 : decode prog_6_method_4_code 97 = .ok (.aload_n 0, 1) := by decide +kernel
theorem d_FractionDresser_tryUnder_98 : decode prog_6_method_4_code 98 = .ok (.lload 11, 2) := by decide +kernel
theorem d_FractionDresser_tryUnder_100 : decode prog_6_method_4_code 100 = .ok (.putfield 51, 3) := by decide +kernel
theorem d_FractionDresser_tryUnder_103 : decode prog_6_method_4_code 103 = .ok (.aload_n 0, 1) := by decide +kernel
theorem d_FractionDresser_tryUnder_104 : decode prog_6_method_4_code 104 = .ok (.lload_n 1, 1) := by decide +kernel
theorem d_FractionDresser_tryUnder_105 : decode prog_6_method_4_code 105 = .ok (.putfield 55, 3) := by decide +kernel
theorem d_FractionDresser_tryUnder_108 : decode prog_6_method_4_code 108 = .ok (.aload_n 0, 1) := by decide +kernel
theorem d_FractionDresser_tryUnder_109 : decode prog_6_method_4_code 109 = .ok (.lload 13, 2) := by decide +kernel
theorem d_FractionDresser_tryUnder_111 : decode prog_6_method_4_code 111 = .ok (.putfield 73, 3) := by decide +kernel
theorem d_FractionDresser_tryUnder_114 : decode prog_6_method_4_code 114 = .ok (.return_, 1) := by decide +kernel
set_option maxHeartbeats 4000000 in
set_option maxRecDepth 100000 in
theorem b_FractionDresser_tryUnder_97 {h0 : Nat} {a0_1 : Nat} {h1 : Nat} {a1_0 : Nat} {J0 : Nat → Int64} {J1 : Nat → Int64} {x1 : Int64} {x11 : Int64} {x13 : Int64}  {Z : (Nat → Int64) → Prop} {H : Heap} {locs : List Loc} {ls : Array Slot} (hc : zC p s m args meth c prog_6_method_4_code none 15 "NumberDress$FractionDresser") (hA : ∀ q : Nat, s.heap.size ≤ q → A q) (hE : zE gE A s) (hl : lv_has ls 15 [(0, .ref h0), (1, .long x1), (11, .long x11), (13, .long x13)]) (hK : va_K (dC, dI) zCl [] s) (hP : va_P (dC, dI) zCl [(h0, .inr (5, o_FractionDresser J0 h1 a0_1)), (h1, .inr (10, o_Split J1 a1_0))] H) (hD : va_D A [(h0, .inr (5, o_FractionDresser J0 h1 a0_1)), (h1, .inr (10, o_Split J1 a1_0))]) (hS : va_S A s.heap H locs) (hv : v_FractionDresser_tryUnder_97 J0 J1 x1 x11 x13  Z) : W p l e (headSpec (Cond.code (⟨"NumberDress$FractionDresser", "tryUnder", "(J)V"⟩ : MethodName) prog_6_method_4_code 15 none :: zT) { frames := 0, cells := 0, slots := 0, locals := 0 }).room s m args below meth c H locs 0 0 (MQ below (va_Qv Z (zB (dC, dI) zCl [] A (fun u : (Nat → Int64) => [(h0, .inr (5, o_FractionDresser u h1 a0_1)), (h1, .inr (10, o_Split J1 a1_0))])) A) args s 0 0 A) (F0 m 97 ls []) := by
  obtain ⟨hx, hb, hr, hml, hown, ht, hlocks⟩ := id hc
  unfold v_FractionDresser_tryUnder_97 at hv
  refine lv_aload_n hx hb d_FractionDresser_tryUnder_97 rfl (lv_at hl 0 rfl) ?_
  refine lv_lload hx hb d_FractionDresser_tryUnder_98 (lv_at hl 2 rfl) ?_
  refine va_put (D := (dC, dI)) (ci := 5) (v := .long x11) (ty := .long) (C := "NumberDress$FractionDresser") (T := T_FractionDresser) (N := 5) hx hb ht zin_FractionDresser ty_FractionDresser tyok_FractionDresser nm_FractionDresser hown hK hP hD hS 0 rfl rfl 2 (by decide) (ht _ zw_395) (fun _ h9 => h9) rfl (by decide +kernel) rfl rfl (Nat.le_of_ble_eq_true rfl) d_FractionDresser_tryUnder_100 (fun H locs hP hD hS => ?_)
  have hP : va_P (dC, dI) zCl [(h0, .inr (5, o_FractionDresser (zul J0 2 x11) h1 a0_1)), (h1, .inr (10, o_Split J1 a1_0))] H := hP
  have hD : va_D A [(h0, .inr (5, o_FractionDresser (zul J0 2 x11) h1 a0_1)), (h1, .inr (10, o_Split J1 a1_0))] := hD
  refine lv_aload_n hx hb d_FractionDresser_tryUnder_103 rfl (lv_at hl 0 rfl) ?_
  refine lv_lload_n hx hb d_FractionDresser_tryUnder_104 rfl (lv_at hl 1 rfl) ?_
  refine va_put (D := (dC, dI)) (ci := 5) (v := .long x1) (ty := .long) (C := "NumberDress$FractionDresser") (T := T_FractionDresser) (N := 5) hx hb ht zin_FractionDresser ty_FractionDresser tyok_FractionDresser nm_FractionDresser hown hK hP hD hS 0 rfl rfl 3 (by decide) (ht _ zw_396) (fun _ h9 => h9) rfl (by decide +kernel) rfl rfl (Nat.le_of_ble_eq_true rfl) d_FractionDresser_tryUnder_105 (fun H locs hP hD hS => ?_)
  have hP : va_P (dC, dI) zCl [(h0, .inr (5, o_FractionDresser (zul (zul J0 2 x11) 3 x1) h1 a0_1)), (h1, .inr (10, o_Split J1 a1_0))] H := hP
  have hD : va_D A [(h0, .inr (5, o_FractionDresser (zul (zul J0 2 x11) 3 x1) h1 a0_1)), (h1, .inr (10, o_Split J1 a1_0))] := hD
  refine lv_aload_n hx hb d_FractionDresser_tryUnder_108 rfl (lv_at hl 0 rfl) ?_
  refine lv_lload hx hb d_FractionDresser_tryUnder_109 (lv_at hl 3 rfl) ?_
  refine va_put (D := (dC, dI)) (ci := 5) (v := .long x13) (ty := .long) (C := "NumberDress$FractionDresser") (T := T_FractionDresser) (N := 5) hx hb ht zin_FractionDresser ty_FractionDresser tyok_FractionDresser nm_FractionDresser hown hK hP hD hS 0 rfl rfl 4 (by decide) (ht _ zw_397) (fun _ h9 => h9) rfl (by decide +kernel) rfl rfl (Nat.le_of_ble_eq_true rfl) d_FractionDresser_tryUnder_111 (fun H locs hP hD hS => ?_)
  have hP : va_P (dC, dI) zCl [(h0, .inr (5, o_FractionDresser (zul (zul (zul J0 2 x11) 3 x1) 4 x13) h1 a0_1)), (h1, .inr (10, o_Split J1 a1_0))] H := hP
  have hD : va_D A [(h0, .inr (5, o_FractionDresser (zul (zul (zul J0 2 x11) 3 x1) 4 x13) h1 a0_1)), (h1, .inr (10, o_Split J1 a1_0))] := hD
  exact W.vret hx hb hr (fun t ht hW => ⟨⟨((zul (zul (zul J0 2 x11) 3 x1) 4 x13)), rfl, hv, ⟨by rw [ht]; exact hP, va_K.moved hW.alike hK, hD⟩⟩, hS.F ht⟩) hS.2.2 d_FractionDresser_tryUnder_114
set_option maxHeartbeats 4000000 in
set_option maxRecDepth 100000 in
theorem b_FractionDresser_tryUnder_69 {h0 : Nat} {a0_1 : Nat} {h1 : Nat} {a1_0 : Nat} {J0 : Nat → Int64} {J1 : Nat → Int64} {x1 : Int64} {x11 : Int64} {s0 : Int64}  {Z : (Nat → Int64) → Prop} {H : Heap} {locs : List Loc} {ls : Array Slot} (hc : zC p s m args meth c prog_6_method_4_code none 15 "NumberDress$FractionDresser") (hA : ∀ q : Nat, s.heap.size ≤ q → A q) (hE : zE gE A s) (hl : lv_has ls 15 [(0, .ref h0), (1, .long x1), (11, .long x11)]) (hK : va_K (dC, dI) zCl [] s) (hP : va_P (dC, dI) zCl [(h0, .inr (5, o_FractionDresser J0 h1 a0_1)), (h1, .inr (10, o_Split J1 a1_0))] H) (hD : va_D A [(h0, .inr (5, o_FractionDresser J0 h1 a0_1)), (h1, .inr (10, o_Split J1 a1_0))]) (hS : va_S A s.heap H locs) (hv : v_FractionDresser_tryUnder_69 J0 J1 x1 x11 s0  Z) : W p l e (headSpec (Cond.code (⟨"NumberDress$FractionDresser", "tryUnder", "(J)V"⟩ : MethodName) prog_6_method_4_code 15 none :: zT) { frames := 0, cells := 0, slots := 0, locals := 0 }).room s m args below meth c H locs 0 0 (MQ below (va_Qv Z (zB (dC, dI) zCl [] A (fun u : (Nat → Int64) => [(h0, .inr (5, o_FractionDresser u h1 a0_1)), (h1, .inr (10, o_Split J1 a1_0))])) A) args s 0 0 A) (F0 m 69 ls [.long s0]) := by
  obtain ⟨hx, hb, hr, hml, hown, ht, hlocks⟩ := id hc
  unfold v_FractionDresser_tryUnder_69 at hv
  refine lv_lstore (lv' := [(13, .long s0), (0, .ref h0), (1, .long x1), (11, .long x11)]) hx hb d_FractionDresser_tryUnder_69 hl (by decide) rfl (fun ls hl => ?_)
  refine lv_aload_n hx hb d_FractionDresser_tryUnder_71 rfl (lv_at hl 1 rfl) ?_
  refine va_get (D := (dC, dI)) (ci := 5) (v := .long (J0 3)) (C := "NumberDress$FractionDresser") (T := T_FractionDresser) (N := 5) hx hb ht zin_FractionDresser hown hK hP 0 rfl rfl 3 (by decide) (ht _ zw_396) (fun _ h9 => h9) rfl d_FractionDresser_tryUnder_72 ?_
  refine lv_lconst (v := (0 : Int64)) hx hb d_FractionDresser_tryUnder_75 (by decide) ?_
  refine z_lcmp_eq (tgt := 97) hx hb d_FractionDresser_tryUnder_76 d_FractionDresser_tryUnder_77 (by decide) (fun c_1 => ?_) (fun c_1 => ?_)
  · have hv := hv.1 c_1
    exact b_FractionDresser_tryUnder_97 hc hA hE  (lv_sub hl [1, 2, 3, 0] rfl) hK hP hD hS hv
  · have hv := hv.2 c_1
    refine lv_lload hx hb d_FractionDresser_tryUnder_80 (lv_at hl 0 rfl) ?_
    refine lv_aload_n hx hb d_FractionDresser_tryUnder_82 rfl (lv_at hl 1 rfl) ?_
    refine va_get (D := (dC, dI)) (ci := 5) (v := .long (J0 3)) (C := "NumberDress$FractionDresser") (T := T_FractionDresser) (N := 5) hx hb ht zin_FractionDresser hown hK hP 0 rfl rfl 3 (by decide) (ht _ zw_396) (fun _ h9 => h9) rfl d_FractionDresser_tryUnder_83 ?_
    refine lv_lmul hx hb d_FractionDresser_tryUnder_86 ?_
    refine lv_aload_n hx hb d_FractionDresser_tryUnder_87 rfl (lv_at hl 1 rfl) ?_
    refine va_get (D := (dC, dI)) (ci := 5) (v := .long (J0 4)) (C := "NumberDress$FractionDresser") (T := T_FractionDresser) (N := 5) hx hb ht zin_FractionDresser hown hK hP 0 rfl rfl 4 (by decide) (ht _ zw_397) (fun _ h9 => h9) rfl d_FractionDresser_tryUnder_88 ?_
    refine lv_lload_n hx hb d_FractionDresser_tryUnder_91 rfl (lv_at hl 2 rfl) ?_
    refine lv_lmul hx hb d_FractionDresser_tryUnder_92 ?_
    refine z_lcmp_ge (tgt := 114) hx hb d_FractionDresser_tryUnder_93 d_FractionDresser_tryUnder_94 (by decide) (fun c_2 => ?_) (fun c_2 => ?_)
    · have hv := hv.1 c_2
      exact W.vret hx hb hr (fun t ht hW => ⟨⟨(J0), rfl, hv, ⟨by rw [ht]; exact hP, va_K.moved hW.alike hK, hD⟩⟩, hS.F ht⟩) hS.2.2 d_FractionDresser_tryUnder_114
    · have hv := hv.2 c_2
      exact b_FractionDresser_tryUnder_97 hc hA hE  (lv_sub hl [1, 2, 3, 0] rfl) hK hP hD hS hv
set_option maxHeartbeats 4000000 in
set_option maxRecDepth 100000 in
theorem b_FractionDresser_tryUnder_52 {h0 : Nat} {a0_1 : Nat} {h1 : Nat} {a1_0 : Nat} {J0 : Nat → Int64} {J1 : Nat → Int64} {x1 : Int64} {x7 : Int64} {x9 : Int64} {s0 : Int64}  {Z : (Nat → Int64) → Prop} {H : Heap} {locs : List Loc} {ls : Array Slot} (hc : zC p s m args meth c prog_6_method_4_code none 15 "NumberDress$FractionDresser") (hA : ∀ q : Nat, s.heap.size ≤ q → A q) (hE : zE gE A s) (hl : lv_has ls 15 [(0, .ref h0), (1, .long x1), (7, .long x7), (9, .long x9)]) (hK : va_K (dC, dI) zCl [] s) (hP : va_P (dC, dI) zCl [(h0, .inr (5, o_FractionDresser J0 h1 a0_1)), (h1, .inr (10, o_Split J1 a1_0))] H) (hD : va_D A [(h0, .inr (5, o_FractionDresser J0 h1 a0_1)), (h1, .inr (10, o_Split J1 a1_0))]) (hS : va_S A s.heap H locs) (hv : v_FractionDresser_tryUnder_52 J0 J1 x1 x7 x9 s0  Z) : W p l e (headSpec (Cond.code (⟨"NumberDress$FractionDresser", "tryUnder", "(J)V"⟩ : MethodName) prog_6_method_4_code 15 none :: zT) { frames := 0, cells := 0, slots := 0, locals := 0 }).room s m args below meth c H locs 0 0 (MQ below (va_Qv Z (zB (dC, dI) zCl [] A (fun u : (Nat → Int64) => [(h0, .inr (5, o_FractionDresser u h1 a0_1)), (h1, .inr (10, o_Split J1 a1_0))])) A) args s 0 0 A) (F0 m 52 ls [.long s0]) := by
  obtain ⟨hx, hb, hr, hml, hown, ht, hlocks⟩ := id hc
  unfold v_FractionDresser_tryUnder_52 at hv
  refine lv_lstore (lv' := [(11, .long s0), (0, .ref h0), (1, .long x1), (7, .long x7), (9, .long x9)]) hx hb d_FractionDresser_tryUnder_52 hl (by decide) rfl (fun ls hl => ?_)
  refine lv_lload hx hb d_FractionDresser_tryUnder_54 (lv_at hl 3 rfl) ?_
  refine lv_lload hx hb d_FractionDresser_tryUnder_56 (lv_at hl 4 rfl) ?_
  refine z_lcmp_gt (tgt := 67) hx hb d_FractionDresser_tryUnder_58 d_FractionDresser_tryUnder_59 (by decide) (fun c_1 => ?_) (fun c_1 => ?_)
  · have hv := hv.1 c_1
    refine lv_lload hx hb d_FractionDresser_tryUnder_67 (lv_at hl 4 rfl) ?_
    exact b_FractionDresser_tryUnder_69 hc hA hE  (lv_sub hl [1, 2, 0] rfl) hK hP hD hS hv
  · have hv := hv.2 c_1
    refine lv_lload hx hb d_FractionDresser_tryUnder_62 (lv_at hl 3 rfl) ?_
    refine lv_goto (tgt := 69) hx hb d_FractionDresser_tryUnder_64 (by decide) ?_
    exact b_FractionDresser_tryUnder_69 hc hA hE  (lv_sub hl [1, 2, 0] rfl) hK hP hD hS hv
set_option maxHeartbeats 4000000 in
set_option maxRecDepth 100000 in
theorem b_FractionDresser_tryUnder_0 {h0 : Nat} {a0_1 : Nat} {h1 : Nat} {a1_0 : Nat} {J0 : Nat → Int64} {J1 : Nat → Int64} {x1 : Int64}  {Z : (Nat → Int64) → Prop} {H : Heap} {locs : List Loc} {ls : Array Slot} (hc : zC p s m args meth c prog_6_method_4_code none 15 "NumberDress$FractionDresser") (hA : ∀ q : Nat, s.heap.size ≤ q → A q) (hE : zE gE A s) (hl : lv_has ls 15 [(0, .ref h0), (1, .long x1)]) (hK : va_K (dC, dI) zCl [] s) (hP : va_P (dC, dI) zCl [(h0, .inr (5, o_FractionDresser J0 h1 a0_1)), (h1, .inr (10, o_Split J1 a1_0))] H) (hD : va_D A [(h0, .inr (5, o_FractionDresser J0 h1 a0_1)), (h1, .inr (10, o_Split J1 a1_0))]) (hS : va_S A s.heap H locs) (hv : v_FractionDresser_tryUnder_0 J0 J1 x1  Z) : W p l e (headSpec (Cond.code (⟨"NumberDress$FractionDresser", "tryUnder", "(J)V"⟩ : MethodName) prog_6_method_4_code 15 none :: zT) { frames := 0, cells := 0, slots := 0, locals := 0 }).room s m args below meth c H locs 0 0 (MQ below (va_Qv Z (zB (dC, dI) zCl [] A (fun u : (Nat → Int64) => [(h0, .inr (5, o_FractionDresser u h1 a0_1)), (h1, .inr (10, o_Split J1 a1_0))])) A) args s 0 0 A) (F0 m 0 ls []) := by
  obtain ⟨hx, hb, hr, hml, hown, ht, hlocks⟩ := id hc
  unfold v_FractionDresser_tryUnder_0 at hv
  refine lv_aload_n hx hb d_FractionDresser_tryUnder_0 rfl (lv_at hl 0 rfl) ?_
  refine va_get (D := (dC, dI)) (ci := 5) (v := .ref h1) (C := "NumberDress$FractionDresser") (T := T_FractionDresser) (N := 5) hx hb ht zin_FractionDresser hown hK hP 0 rfl rfl 0 (by decide) (ht _ zw_393) (fun _ h9 => h9) rfl d_FractionDresser_tryUnder_1 ?_
  refine va_get (D := (dC, dI)) (ci := 10) (v := .long (J1 1)) (C := "NumberDress$Split") (T := T_Split) (N := 2) hx hb ht zin_Split hown hK hP 1 rfl rfl 1 (by decide) (ht _ zw_384) (fun _ h9 => h9) rfl d_FractionDresser_tryUnder_4 ?_
  refine lv_lload_n hx hb d_FractionDresser_tryUnder_7 rfl (lv_at hl 1 rfl) ?_
  refine lv_lmul hx hb d_FractionDresser_tryUnder_8 ?_
  refine lv_lstore_n (lv' := [(3, .long ((J1 1) * x1)), (0, .ref h0), (1, .long x1)]) hx hb d_FractionDresser_tryUnder_9 rfl hl (by decide) rfl (fun ls hl => ?_)
  refine lv_lload_n hx hb d_FractionDresser_tryUnder_10 rfl (lv_at hl 0 rfl) ?_
  refine lv_ldc2 (v := (1000000000000000 : Int64)) hx hb hown (ht _ zw_1012) d_FractionDresser_tryUnder_11 ?_
  refine lv_ldiv hx hb d_FractionDresser_tryUnder_14 (by decide) ?_
  refine lv_topl (fun y_1 ey_1 => ?_)
  have hv := hv y_1 ey_1
  refine lv_lstore (lv' := [(5, .long y_1), (3, .long ((J1 1) * x1)), (0, .ref h0), (1, .long x1)]) hx hb d_FractionDresser_tryUnder_15 hl (by decide) rfl (fun ls hl => ?_)
  refine lv_lload_n hx hb d_FractionDresser_tryUnder_17 rfl (lv_at hl 1 rfl) ?_
  refine lv_lload hx hb d_FractionDresser_tryUnder_18 (lv_at hl 0 rfl) ?_
  refine lv_ldc2 (v := (1000000000000000 : Int64)) hx hb hown (ht _ zw_1012) d_FractionDresser_tryUnder_20 ?_
  refine lv_lmul hx hb d_FractionDresser_tryUnder_23 ?_
  refine lv_lsub hx hb d_FractionDresser_tryUnder_24 ?_
  refine lv_topl (fun y_2 ey_2 => ?_)
  have hv := hv y_2 ey_2
  refine lv_lstore (lv' := [(7, .long y_2), (5, .long y_1), (3, .long ((J1 1) * x1)), (0, .ref h0), (1, .long x1)]) hx hb d_FractionDresser_tryUnder_25 hl (by decide) rfl (fun ls hl => ?_)
  refine lv_ldc2 (v := (1000000000000000 : Int64)) hx hb hown (ht _ zw_1012) d_FractionDresser_tryUnder_27 ?_
  refine lv_lload hx hb d_FractionDresser_tryUnder_30 (lv_at hl 0 rfl) ?_
  refine lv_lsub hx hb d_FractionDresser_tryUnder_32 ?_
  refine lv_lstore (lv' := [(9, .long ((1000000000000000 : Int64) - y_2)), (7, .long y_2), (5, .long y_1), (3, .long ((J1 1) * x1)), (0, .ref h0), (1, .long x1)]) hx hb d_FractionDresser_tryUnder_33 hl (by decide) rfl (fun ls hl => ?_)
  refine lv_lload hx hb d_FractionDresser_tryUnder_35 (lv_at hl 1 rfl) ?_
  refine lv_lload hx hb d_FractionDresser_tryUnder_37 (lv_at hl 0 rfl) ?_
  refine z_lcmp_gt (tgt := 48) hx hb d_FractionDresser_tryUnder_39 d_FractionDresser_tryUnder_40 (by decide) (fun c_3 => ?_) (fun c_3 => ?_)
  · have hv := hv.1 c_3
    refine lv_lload hx hb d_FractionDresser_tryUnder_48 (lv_at hl 2 rfl) ?_
    refine lv_lconst (v := (1 : Int64)) hx hb d_FractionDresser_tryUnder_50 (by decide) ?_
    refine lv_ladd hx hb d_FractionDresser_tryUnder_51 ?_
    exact b_FractionDresser_tryUnder_52 hc hA hE  (lv_sub hl [4, 5, 1, 0] rfl) hK hP hD hS hv
  · have hv := hv.2 c_3
    refine lv_lload hx hb d_FractionDresser_tryUnder_43 (lv_at hl 2 rfl) ?_
    refine lv_goto (tgt := 52) hx hb d_FractionDresser_tryUnder_45 (by decide) ?_
    exact b_FractionDresser_tryUnder_52 hc hA hE  (lv_sub hl [4, 5, 1, 0] rfl) hK hP hD hS hv
theorem zi_FractionDresser_tryUnder : Cond.code (⟨"NumberDress$FractionDresser", "tryUnder", "(J)V"⟩ : MethodName) prog_6_method_4_code 15 none ∈ zT := zw_1011
theorem zh_FractionDresser_tryUnder : (((⟨"NumberDress$FractionDresser", "tryUnder", "(J)V"⟩ : MethodName)).cls ≠ "java/lang/invoke/MethodHandle" ∧ ((⟨"NumberDress$FractionDresser", "tryUnder", "(J)V"⟩ : MethodName)).cls ≠ "java/lang/invoke/VarHandle" ∧ (parseMethodDescriptor ((⟨"NumberDress$FractionDresser", "tryUnder", "(J)V"⟩ : MethodName)).desc).map (fun d => d.parameters.length) = some 1) := by decide +kernel
set_option maxHeartbeats 4000000 in
set_option maxRecDepth 100000 in
theorem m_FractionDresser_tryUnder (l : Launch) (dC : Nat → ClassId) (dI : Nat → Nat → Nat) {gE : zG} {h0 : Nat} {a0_1 : Nat} {h1 : Nat} {a1_0 : Nat} {J0 : Nat → Int64} {J1 : Nat → Int64} {x1 : Int64} {sz : Nat} {Z : (Nat → Int64) → Prop} (hv : v_FractionDresser_tryUnder_0 J0 J1 x1 Z) : Met l (⟨"NumberDress$FractionDresser", "tryUnder", "(J)V"⟩ : MethodName) (Cond.code (⟨"NumberDress$FractionDresser", "tryUnder", "(J)V"⟩ : MethodName) prog_6_method_4_code 15 none :: zT) { frames := 0, cells := 0, slots := 0, locals := 0 } (zPc gE (dC, dI) zCl [] [.ref h0, .long x1] sz [(h0, .inr (5, o_FractionDresser J0 h1 a0_1)), (h1, .inr (10, o_Split J1 a1_0))]) (va_Qv Z (zB (dC, dI) zCl [] (va_A [(h0, .inr (5, o_FractionDresser J0 h1 a0_1)), (h1, .inr (10, o_Split J1 a1_0))] sz) (fun u : (Nat → Int64) => [(h0, .inr (5, o_FractionDresser u h1 a0_1)), (h1, .inr (10, o_Split J1 a1_0))])) (va_A [(h0, .inr (5, o_FractionDresser J0 h1 a0_1)), (h1, .inr (10, o_Split J1 a1_0))] sz)) 0 0 (va_A [(h0, .inr (5, o_FractionDresser J0 h1 a0_1)), (h1, .inr (10, o_Split J1 a1_0))] sz) := by
  refine Met.ofW (cc := prog_6_method_4_code) (maxL := 15) (ret := none) (by decide +kernel) rfl ?_
  intro p e s m args below meth c s₁ B hml hp
  obtain ⟨rfl, hsz, hP, hK, hD0, hE⟩ := hp
  have hts := atoms_spec (ws := (Cond.code (⟨"NumberDress$FractionDresser", "tryUnder", "(J)V"⟩ : MethodName) prog_6_method_4_code 15 none :: zT)) B.pre
  have hown : s.vm.findClass "NumberDress$FractionDresser" = some m.cls := findClass_of_methodNamed B.named
  have hc : zC p s m _ meth c prog_6_method_4_code none 15 "NumberDress$FractionDresser" := ⟨B.exec, B.bytes, B.returns, hml, hown, fun w h => hts w (List.mem_cons_of_mem _ h), B.notSynchronized⟩
  subst hsz
  have hD := hD0.self (sz := s.heap.size)
  generalize hAe : va_A [(h0, .inr (5, o_FractionDresser J0 h1 a0_1)), (h1, .inr (10, o_Split J1 a1_0))] s.heap.size = A at hD hE ⊢
  have hA : ∀ q : Nat, s.heap.size ≤ q → A q := fun q h => by rw [← hAe]; exact Or.inr h
  have hl := lv_entry ([.ref h0, .long x1]) (n := 15) (Nat.le_of_ble_eq_true rfl)
  rw [lg_entry_eq]
  exact b_FractionDresser_tryUnder_0 hc hA hE hl hK hP hD va_S.rf hv
theorem d_FractionDresser_findNearest_0 : decode prog_6_method_3_code 0 = .ok (.aload_n 0, 1) := by decide +kernel
theorem d_FractionDresser_findNearest_1 : decode prog_6_method_3_code 1 = .ok (.lconst 0, 1) := by decide +kernel
theorem d_FractionDresser_findNearest_2 : decode prog_6_method_3_code 2 = .ok (.putfield 51, 3) := by decide +kernel
theorem d_FractionDresser_findNearest_5 : decode prog_6_method_3_code 5 = .ok (.aload_n 0, 1) := by decide +kernel
theorem d_FractionDresser_findNearest_6 : decode prog_6_method_3_code 6 = .ok (.lconst 0, 1) := by decide +kernel
theorem d_FractionDresser_findNearest_7 : decode prog_6_method_3_code 7 = .ok (.putfield 55, 3) := by decide +kernel
theorem d_FractionDresser_findNearest_10 : decode prog_6_method_3_code 10 = .ok (.aload_n 0, 1) := by decide +kernel
theorem d_FractionDresser_findNearest_11 : decode prog_6_method_3_code 11 = .ok (.lconst 0, 1) := by decide +kernel
theorem d_FractionDresser_findNearest_12 : decode prog_6_method_3_code 12 = .ok (.putfield 73, 3) := by decide +kernel
theorem d_FractionDresser_findNearest_15 : decode prog_6_method_3_code 15 = .ok (.aload_n 1, 1) := by decide +kernel
theorem d_FractionDresser_findNearest_16 : decode prog_6_method_3_code 16 = .ok (.getfield 76, 3) := by decide +kernel
theorem d_FractionDresser_findNearest_19 : decode prog_6_method_3_code 19 = .ok (.ifCond .le 13, 3) := by decide +kernel
theorem d_FractionDresser_findNearest_22 : decode prog_6_method_3_code 22 = .ok (.aload_n 0, 1) := by decide +kernel
theorem d_FractionDresser_findNearest_23 : decode prog_6_method_3_code 23 = .ok (.aload_n 1, 1) := by decide +kernel
theorem d_FractionDresser_findNearest_24 : decode prog_6_method_3_code 24 = .ok (.getfield 76, 3) := by decide +kernel
theorem d_FractionDresser_findNearest_27 : decode prog_6_method_3_code 27 = .ok (.i2l, 1) := by decide +kernel
theorem d_FractionDresser_findNearest_28 : decode prog_6_method_3_code 28 = .ok (.invokevirtual 79, 3) := by decide +kernel
theorem d_FractionDresser_findNearest_31 : decode prog_6_method_3_code 31 = .ok (.return_, 1) := by decide +kernel
theorem d_FractionDresser_findNearest_32 : decode prog_6_method_3_code 32 = .ok (.aload_n 1, 1) := by decide +kernel
theorem d_FractionDresser_findNearest_33 : decode prog_6_method_3_code 33 = .ok (.getfield 83, 3) := by decide +kernel
theorem d_FractionDresser_findNearest_36 : decode prog_6_method_3_code 36 = .ok (.invokestatic 86, 3) := by decide +kernel
theorem d_FractionDresser_findNearest_39 : decode prog_6_method_3_code 39 = .ok (.lconst 1, 1) := by decide +kernel
theorem d_FractionDresser_findNearest_40 : decode prog_6_method_3_code 40 = .ok (.lsub, 1) := by decide +kernel
theorem d_FractionDresser_findNearest_41 : decode prog_6_method_3_code 41 = .ok (.lstore_n 2, 1) := by decide +kernel
theorem d_FractionDresser_findNearest_42 : decode prog_6_method_3_code 42 = .ok (.lconst 1, 1) := by decide +kernel
theorem d_FractionDresser_findNearest_43 : decode prog_6_method_3_code 43 = .ok (.lstore 4, 2) := by decide +kernel
theorem d_FractionDresser_findNearest_45 : decode prog_6_method_3_code 45 = .ok (.lload 4, 2) := by decide +kernel
theorem d_FractionDresser_findNearest_47 : decode prog_6_method_3_code 47 = .ok (.lload_n 2, 1) := by decide +kernel
theorem d_FractionDresser_findNearest_48 : decode prog_6_method_3_code 48 = .ok (.lcmp, 1) := by decide +kernel
theorem d_FractionDresser_findNearest_49 : decode prog_6_method_3_code 49 = .ok (.ifCond .gt 27, 3) := by decide +kernel
theorem d_FractionDresser_findNearest_52 : decode prog_6_method_3_code 52 = .ok (.lload 4, 2) := by decide +kernel
theorem d_FractionDresser_findNearest_54 : decode prog_6_method_3_code 54 = .ok (.ldc2_w 90, 3) := by decide +kernel
theorem d_FractionDresser_findNearest_57 : decode prog_6_method_3_code 57 = .ok (.lcmp, 1) := by decide +kernel
theorem d_FractionDresser_findNearest_58 : decode prog_6_method_3_code 58 = .ok (.ifCond .gt 18, 3) := by decide +kernel
theorem d_FractionDresser_findNearest_61 : decode prog_6_method_3_code 61 = .ok (.aload_n 0, 1) := by decide +kernel
theorem d_FractionDresser_findNearest_62 : decode prog_6_method_3_code 62 = .ok (.lload 4, 2) := by decide +kernel
theorem d_FractionDresser_findNearest_64 : decode prog_6_method_3_code 64 = .ok (.invokevirtual 79, 3) := by decide +kernel
theorem d_FractionDresser_findNearest_67 : decode prog_6_method_3_code 67 = .ok (.lload 4, 2) := by decide +kernel
theorem d_FractionDresser_findNearest_69 : decode prog_6_method_3_code 69 = .ok (.lconst 1, 1) := by decide +kernel
theorem d_FractionDresser_findNearest_70 : decode prog_6_method_3_code 70 = .ok (.ladd, 1) := by decide +kernel
theorem d_FractionDresser_findNearest_71 : decode prog_6_method_3_code 71 = .ok (.lstore 4, 2) := by decide +kernel
theorem d_FractionDresser_findNearest_73 : decode prog_6_method_3_code 73 = .ok (.goto (-28), 3) := by decide +kernel
theorem d_FractionDresser_findNearest_76 : decode prog_6_method_3_code 76 = .ok (.aload_n 0, 1) := by decide +kernel
theorem d_FractionDresser_findNearest_77 : decode prog_6_method_3_code 77 = .ok (.getfield 55, 3) := by decide +kernel
theorem d_FractionDresser_findNearest_80 : decode prog_6_method_3_code 80 = .ok (.lconst 0, 1) := by decide +kernel
theorem d_FractionDresser_findNearest_81 : decode prog_6_method_3_code 81 = .ok (.lcmp, 1) := by decide +kernel
theorem d_FractionDresser_findNearest_82 : decode prog_6_method_3_code 82 = .ok (.ifCond .ne 8, 3) := by decide +kernel
theorem d_FractionDresser_findNearest_85 : decode prog_6_method_3_code 85 = .ok (.aload_n 0, 1) := by decide +kernel
theorem d_FractionDresser_findNearest_86 : decode prog_6_method_3_code 86 = .ok (.lconst 1, 1) := by decide +kernel
theorem d_FractionDresser_findNearest_87 : decode prog_6_method_3_code 87 = .ok (.putfield 55, 3) := by decide +kernel
theorem d_FractionDresser_findNearest_90 : decode prog_6_method_3_code 90 = .ok (.return_, 1) := by decide +kernel
set_option maxHeartbeats 4000000 in
set_option maxRecDepth 100000 in
theorem b_FractionDresser_findNearest_31 {h0 : Nat} {a0_1 : Nat} {h1 : Nat} {h2 : Nat} {a2_0 : Nat} {J0 : Nat → Int64} {I1 : Nat → Int32} {J2 : Nat → Int64}  {Z : (Nat → Int64) → Prop} {H : Heap} {locs : List Loc} {ls : Array Slot} (hc : zC p s m args meth c prog_6_method_3_code none 6 "NumberDress$FractionDresser") (hA : ∀ q : Nat, s.heap.size ≤ q → A q) (hE : zE gE A s) (hl : lv_has ls 6 []) (hK : va_K (dC, dI) zCl [] s) (hP : va_P (dC, dI) zCl [(h0, .inr (5, o_FractionDresser J0 h2 a0_1)), (h1, .inr (9, o_Section I1)), (h2, .inr (10, o_Split J2 a2_0))] H) (hD : va_D A [(h0, .inr (5, o_FractionDresser J0 h2 a0_1)), (h1, .inr (9, o_Section I1)), (h2, .inr (10, o_Split J2 a2_0))]) (hS : va_S A s.heap H locs) (hv : v_FractionDresser_findNearest_31 J0 I1 J2  Z) : W p l e (headSpec (Cond.code (⟨"NumberDress$FractionDresser", "findNearest", "(LNumberDress$Section;)V"⟩ : MethodName) prog_6_method_3_code 6 none :: zT) { frames := 1, cells := 0, slots := 0, locals := 34 }).room s m args below meth c H locs 0 0 (MQ below (va_Qv Z (zB (dC, dI) zCl [] A (fun u : (Nat → Int64) => [(h0, .inr (5, o_FractionDresser u h2 a0_1)), (h1, .inr (9, o_Section I1)), (h2, .inr (10, o_Split J2 a2_0))])) A) args s 0 0 A) (F0 m 31 ls []) := by
  obtain ⟨hx, hb, hr, hml, hown, ht, hlocks⟩ := id hc
  unfold v_FractionDresser_findNearest_31 at hv
  exact W.vret hx hb hr (fun t ht hW => ⟨⟨(J0), rfl, hv, ⟨by rw [ht]; exact hP, va_K.moved hW.alike hK, hD⟩⟩, hS.F ht⟩) hS.2.2 d_FractionDresser_findNearest_31
set_option maxHeartbeats 4000000 in
set_option maxRecDepth 100000 in
theorem b_FractionDresser_findNearest_67 {h0 : Nat} {a0_1 : Nat} {h1 : Nat} {h2 : Nat} {a2_0 : Nat} {J0 : Nat → Int64} {I1 : Nat → Int32} {J2 : Nat → Int64} {x2 : Int64} {x4 : Int64} {k45 : (Nat → Int64) → Int64 → Prop} {Z : (Nat → Int64) → Prop} {H : Heap} {locs : List Loc} {ls : Array Slot} (hc : zC p s m args meth c prog_6_method_3_code none 6 "NumberDress$FractionDresser") (hA : ∀ q : Nat, s.heap.size ≤ q → A q) (hE : zE gE A s) (hk45 : ∀ (J0 : Nat → Int64) (x4 : Int64) (H : Heap) (locs : List Loc) (ls : Array Slot), lv_has ls 6 [(0, .ref h0), (2, .long x2), (4, .long x4)] → va_K (dC, dI) zCl [] s → va_P (dC, dI) zCl [(h0, .inr (5, o_FractionDresser J0 h2 a0_1)), (h1, .inr (9, o_Section I1)), (h2, .inr (10, o_Split J2 a2_0))] H → va_D A [(h0, .inr (5, o_FractionDresser J0 h2 a0_1)), (h1, .inr (9, o_Section I1)), (h2, .inr (10, o_Split J2 a2_0))] → va_S A s.heap H locs → k45 J0 x4 → W p l e (headSpec (Cond.code (⟨"NumberDress$FractionDresser", "findNearest", "(LNumberDress$Section;)V"⟩ : MethodName) prog_6_method_3_code 6 none :: zT) { frames := 1, cells := 0, slots := 0, locals := 34 }).room s m args below meth c H locs 0 0 (MQ below (va_Qv Z (zB (dC, dI) zCl [] A (fun u : (Nat → Int64) => [(h0, .inr (5, o_FractionDresser u h2 a0_1)), (h1, .inr (9, o_Section I1)), (h2, .inr (10, o_Split J2 a2_0))])) A) args s 0 0 A) (F0 m 45 ls [])) (hl : lv_has ls 6 [(0, .ref h0), (2, .long x2), (4, .long x4)]) (hK : va_K (dC, dI) zCl [] s) (hP : va_P (dC, dI) zCl [(h0, .inr (5, o_FractionDresser J0 h2 a0_1)), (h1, .inr (9, o_Section I1)), (h2, .inr (10, o_Split J2 a2_0))] H) (hD : va_D A [(h0, .inr (5, o_FractionDresser J0 h2 a0_1)), (h1, .inr (9, o_Section I1)), (h2, .inr (10, o_Split J2 a2_0))]) (hS : va_S A s.heap H locs) (hv : v_FractionDresser_findNearest_67 J0 I1 J2 x2 x4 k45 Z) : W p l e (headSpec (Cond.code (⟨"NumberDress$FractionDresser", "findNearest", "(LNumberDress$Section;)V"⟩ : MethodName) prog_6_method_3_code 6 none :: zT) { frames := 1, cells := 0, slots := 0, locals := 34 }).room s m args below meth c H locs 0 0 (MQ below (va_Qv Z (zB (dC, dI) zCl [] A (fun u : (Nat → Int64) => [(h0, .inr (5, o_FractionDresser u h2 a0_1)), (h1, .inr (9, o_Section I1)), (h2, .inr (10, o_Split J2 a2_0))])) A) args s 0 0 A) (F0 m 67 ls []) := by
  obtain ⟨hx, hb, hr, hml, hown, ht, hlocks⟩ := id hc
  unfold v_FractionDresser_findNearest_67 at hv
  refine lv_lload hx hb d_FractionDresser_findNearest_67 (lv_at hl 2 rfl) ?_
  refine lv_lconst (v := (1 : Int64)) hx hb d_FractionDresser_findNearest_69 (by decide) ?_
  refine lv_ladd hx hb d_FractionDresser_findNearest_70 ?_
  refine lv_lstore (lv' := [(4, .long (x4 + (1 : Int64))), (0, .ref h0), (2, .long x2)]) hx hb d_FractionDresser_findNearest_71 hl (by decide) rfl (fun ls hl => ?_)
  refine lv_goto (tgt := 45) hx hb d_FractionDresser_findNearest_73 (by decide) ?_
  exact hk45 J0 (x4 + (1 : Int64)) _ _ _ (lv_sub hl [1, 2, 0] rfl) hK hP hD hS hv
set_option maxHeartbeats 4000000 in
set_option maxRecDepth 100000 in
theorem b_FractionDresser_findNearest_76 {h0 : Nat} {a0_1 : Nat} {h1 : Nat} {h2 : Nat} {a2_0 : Nat} {J0 : Nat → Int64} {I1 : Nat → Int32} {J2 : Nat → Int64}  {Z : (Nat → Int64) → Prop} {H : Heap} {locs : List Loc} {ls : Array Slot} (hc : zC p s m args meth c prog_6_method_3_code none 6 "NumberDress$FractionDresser") (hA : ∀ q : Nat, s.heap.size ≤ q → A q) (hE : zE gE A s) (hl : lv_has ls 6 [(0, .ref h0)]) (hK : va_K (dC, dI) zCl [] s) (hP : va_P (dC, dI) zCl [(h0, .inr (5, o_FractionDresser J0 h2 a0_1)), (h1, .inr (9, o_Section I1)), (h2, .inr (10, o_Split J2 a2_0))] H) (hD : va_D A [(h0, .inr (5, o_FractionDresser J0 h2 a0_1)), (h1, .inr (9, o_Section I1)), (h2, .inr (10, o_Split J2 a2_0))]) (hS : va_S A s.heap H locs) (hv : v_FractionDresser_findNearest_76 J0 I1 J2  Z) : W p l e (headSpec (Cond.code (⟨"NumberDress$FractionDresser", "findNearest", "(LNumberDress$Section;)V"⟩ : MethodName) prog_6_method_3_code 6 none :: zT) { frames := 1, cells := 0, slots := 0, locals := 34 }).room s m args below meth c H locs 0 0 (MQ below (va_Qv Z (zB (dC, dI) zCl [] A (fun u : (Nat → Int64) => [(h0, .inr (5, o_FractionDresser u h2 a0_1)), (h1, .inr (9, o_Section I1)), (h2, .inr (10, o_Split J2 a2_0))])) A) args s 0 0 A) (F0 m 76 ls []) := by
  obtain ⟨hx, hb, hr, hml, hown, ht, hlocks⟩ := id hc
  unfold v_FractionDresser_findNearest_76 at hv
  refine lv_aload_n hx hb d_FractionDresser_findNearest_76 rfl (lv_at hl 0 rfl) ?_
  refine va_get (D := (dC, dI)) (ci := 5) (v := .long (J0 3)) (C := "NumberDress$FractionDresser") (T := T_FractionDresser) (N := 5) hx hb ht zin_FractionDresser hown hK hP 0 rfl rfl 3 (by decide) (ht _ zw_396) (fun _ h9 => h9) rfl d_FractionDresser_findNearest_77 ?_
  refine lv_lconst (v := (0 : Int64)) hx hb d_FractionDresser_findNearest_80 (by decide) ?_
  refine z_lcmp_ne (tgt := 90) hx hb d_FractionDresser_findNearest_81 d_FractionDresser_findNearest_82 (by decide) (fun c_1 => ?_) (fun c_1 => ?_)
  · have hv := hv.1 c_1
    exact W.vret hx hb hr (fun t ht hW => ⟨⟨(J0), rfl, hv, ⟨by rw [ht]; exact hP, va_K.moved hW.alike hK, hD⟩⟩, hS.F ht⟩) hS.2.2 d_FractionDresser_findNearest_90
  · have hv := hv.2 c_1
    refine lv_aload_n hx hb d_FractionDresser_findNearest_85 rfl (lv_at hl 0 rfl) ?_
    refine lv_lconst (v := (1 : Int64)) hx hb d_FractionDresser_findNearest_86 (by decide) ?_
    refine va_put (D := (dC, dI)) (ci := 5) (v := .long (1 : Int64)) (ty := .long) (C := "NumberDress$FractionDresser") (T := T_FractionDresser) (N := 5) hx hb ht zin_FractionDresser ty_FractionDresser tyok_FractionDresser nm_FractionDresser hown hK hP hD hS 0 rfl rfl 3 (by decide) (ht _ zw_396) (fun _ h9 => h9) rfl (by decide +kernel) rfl rfl (Nat.le_of_ble_eq_true rfl) d_FractionDresser_findNearest_87 (fun H locs hP hD hS => ?_)
    have hP : va_P (dC, dI) zCl [(h0, .inr (5, o_FractionDresser (zul J0 3 (1 : Int64)) h2 a0_1)), (h1, .inr (9, o_Section I1)), (h2, .inr (10, o_Split J2 a2_0))] H := hP
    have hD : va_D A [(h0, .inr (5, o_FractionDresser (zul J0 3 (1 : Int64)) h2 a0_1)), (h1, .inr (9, o_Section I1)), (h2, .inr (10, o_Split J2 a2_0))] := hD
    exact W.vret hx hb hr (fun t ht hW => ⟨⟨((zul J0 3 (1 : Int64))), rfl, hv, ⟨by rw [ht]; exact hP, va_K.moved hW.alike hK, hD⟩⟩, hS.F ht⟩) hS.2.2 d_FractionDresser_findNearest_90
set_option maxHeartbeats 4000000 in
set_option maxRecDepth 100000 in
theorem b_FractionDresser_findNearest_45 {h0 : Nat} {a0_1 : Nat} {h1 : Nat} {h2 : Nat} {a2_0 : Nat} {I1 : Nat → Int32} {J2 : Nat → Int64} {x2 : Int64}  {Z : (Nat → Int64) → Prop} (hc : zC p s m args meth c prog_6_method_3_code none 6 "NumberDress$FractionDresser") (hA : ∀ q : Nat, s.heap.size ≤ q → A q) (hE : zE gE A s) : ∀ (N : Nat) (J0 : Nat → Int64) (x4 : Int64) (H : Heap) (locs : List Loc) (ls : Array Slot), lv_has ls 6 [(0, .ref h0), (2, .long x2), (4, .long x4)] → va_K (dC, dI) zCl [] s → va_P (dC, dI) zCl [(h0, .inr (5, o_FractionDresser J0 h2 a0_1)), (h1, .inr (9, o_Section I1)), (h2, .inr (10, o_Split J2 a2_0))] H → va_D A [(h0, .inr (5, o_FractionDresser J0 h2 a0_1)), (h1, .inr (9, o_Section I1)), (h2, .inr (10, o_Split J2 a2_0))] → va_S A s.heap H locs → v_FractionDresser_findNearest_45 I1 J2 x2  Z N J0 x4 → W p l e (headSpec (Cond.code (⟨"NumberDress$FractionDresser", "findNearest", "(LNumberDress$Section;)V"⟩ : MethodName) prog_6_method_3_code 6 none :: zT) { frames := 1, cells := 0, slots := 0, locals := 34 }).room s m args below meth c H locs 0 0 (MQ below (va_Qv Z (zB (dC, dI) zCl [] A (fun u : (Nat → Int64) => [(h0, .inr (5, o_FractionDresser u h2 a0_1)), (h1, .inr (9, o_Section I1)), (h2, .inr (10, o_Split J2 a2_0))])) A) args s 0 0 A) (F0 m 45 ls []) := by
  obtain ⟨hx, hb, hr, hml, hown, ht, hlocks⟩ := id hc
  intro N
  induction N with
  | zero => intro J0 x4 H locs ls hl hK hP hD hS hv; exact hv.elim
  | succ N hk45 =>
    intro J0 x4 H locs ls hl hK hP hD hS hv
    unfold v_FractionDresser_findNearest_45 at hv
    refine lv_lload hx hb d_FractionDresser_findNearest_45 (lv_at hl 2 rfl) ?_
    refine lv_lload_n hx hb d_FractionDresser_findNearest_47 rfl (lv_at hl 1 rfl) ?_
    refine z_lcmp_gt (tgt := 76) hx hb d_FractionDresser_findNearest_48 d_FractionDresser_findNearest_49 (by decide) (fun c_1 => ?_) (fun c_1 => ?_)
    · have hv := hv.1 c_1
      exact b_FractionDresser_findNearest_76 hc hA hE  (lv_sub hl [0] rfl) hK hP hD hS hv
    · have hv := hv.2 c_1
      refine lv_lload hx hb d_FractionDresser_findNearest_52 (lv_at hl 2 rfl) ?_
      refine lv_ldc2 (v := (999 : Int64)) hx hb hown (ht _ zw_1014) d_FractionDresser_findNearest_54 ?_
      refine z_lcmp_gt (tgt := 76) hx hb d_FractionDresser_findNearest_57 d_FractionDresser_findNearest_58 (by decide) (fun c_2 => ?_) (fun c_2 => ?_)
      · have hv := hv.1 c_2
        exact b_FractionDresser_findNearest_76 hc hA hE  (lv_sub hl [0] rfl) hK hP hD hS hv
      · have hv := hv.2 c_2
        refine lv_aload_n hx hb d_FractionDresser_findNearest_61 rfl (lv_at hl 0 rfl) ?_
        refine lv_lload hx hb d_FractionDresser_findNearest_62 (lv_at hl 2 rfl) ?_
        refine z_callv (wc := [(h0, .inr (5, o_FractionDresser J0 h2 a0_1)), (h2, .inr (10, o_Split J2 a2_0))]) (wr := [(h1, .inr (9, o_Section I1))]) [0, 2] [1] (va_runV (As := [.long x4]) (rest := []) ⟨hx, hb, hml, hown, ht⟩ (m_FractionDresser_tryUnder l dC dI hv) ⟨(callB_of 1 ht (zG_in zi_FractionDresser_tryUnder) rfl rfl rfl (ht _ zw_118) (ht _ zw_1008) zh_FractionDresser_tryUnder ⟨Nat.le_of_ble_eq_true rfl, Nat.le_of_ble_eq_true rfl⟩), (ht _ zw_1010), (ht _ zw_47)⟩ ⟨zPc_blind, va_recv hK hP (ci := 5) (q0 := 0) rfl rfl, zPc_pre hP hK hD hS hA hE [0, 2] [] rfl rfl (by decide) rfl⟩ rfl rfl hl.1 rfl (lv_room (Nat.le_of_ble_eq_true rfl)) d_FractionDresser_findNearest_64 ⟨Nat.le_of_ble_eq_true rfl, Nat.le_of_ble_eq_true rfl⟩) hP hD hS hA rfl rfl (by decide) (by decide) (fun u H locs hv hP hD hS => ?_)
        have hP : va_P (dC, dI) zCl [(h0, .inr (5, o_FractionDresser u h2 a0_1)), (h1, .inr (9, o_Section I1)), (h2, .inr (10, o_Split J2 a2_0))] H := hP.sub [1, 0, 2] rfl
        have hD : va_D A [(h0, .inr (5, o_FractionDresser u h2 a0_1)), (h1, .inr (9, o_Section I1)), (h2, .inr (10, o_Split J2 a2_0))] := hD.sub [1, 0, 2] (by decide) rfl
        exact b_FractionDresser_findNearest_67 hc hA hE hk45 (lv_sub hl [0, 1, 2] rfl) hK hP hD hS hv
set_option maxHeartbeats 4000000 in
set_option maxRecDepth 100000 in
theorem b_FractionDresser_findNearest_39 {h0 : Nat} {a0_1 : Nat} {h1 : Nat} {h2 : Nat} {a2_0 : Nat} {J0 : Nat → Int64} {I1 : Nat → Int32} {J2 : Nat → Int64} {s0 : Int64}  {Z : (Nat → Int64) → Prop} {H : Heap} {locs : List Loc} {ls : Array Slot} (hc : zC p s m args meth c prog_6_method_3_code none 6 "NumberDress$FractionDresser") (hA : ∀ q : Nat, s.heap.size ≤ q → A q) (hE : zE gE A s) (hl : lv_has ls 6 [(0, .ref h0)]) (hK : va_K (dC, dI) zCl [] s) (hP : va_P (dC, dI) zCl [(h0, .inr (5, o_FractionDresser J0 h2 a0_1)), (h1, .inr (9, o_Section I1)), (h2, .inr (10, o_Split J2 a2_0))] H) (hD : va_D A [(h0, .inr (5, o_FractionDresser J0 h2 a0_1)), (h1, .inr (9, o_Section I1)), (h2, .inr (10, o_Split J2 a2_0))]) (hS : va_S A s.heap H locs) (hv : v_FractionDresser_findNearest_39 J0 I1 J2 s0  Z) : W p l e (headSpec (Cond.code (⟨"NumberDress$FractionDresser", "findNearest", "(LNumberDress$Section;)V"⟩ : MethodName) prog_6_method_3_code 6 none :: zT) { frames := 1, cells := 0, slots := 0, locals := 34 }).room s m args below meth c H locs 0 0 (MQ below (va_Qv Z (zB (dC, dI) zCl [] A (fun u : (Nat → Int64) => [(h0, .inr (5, o_FractionDresser u h2 a0_1)), (h1, .inr (9, o_Section I1)), (h2, .inr (10, o_Split J2 a2_0))])) A) args s 0 0 A) (F0 m 39 ls [.long s0]) := by
  obtain ⟨hx, hb, hr, hml, hown, ht, hlocks⟩ := id hc
  unfold v_FractionDresser_findNearest_39 at hv
  refine lv_lconst (v := (1 : Int64)) hx hb d_FractionDresser_findNearest_39 (by decide) ?_
  refine lv_lsub hx hb d_FractionDresser_findNearest_40 ?_
  refine lv_lstore_n (lv' := [(2, .long (s0 - (1 : Int64))), (0, .ref h0)]) hx hb d_FractionDresser_findNearest_41 rfl hl (by decide) rfl (fun ls hl => ?_)
  refine lv_lconst (v := (1 : Int64)) hx hb d_FractionDresser_findNearest_42 (by decide) ?_
  refine lv_lstore (lv' := [(4, .long (1 : Int64)), (2, .long (s0 - (1 : Int64))), (0, .ref h0)]) hx hb d_FractionDresser_findNearest_43 hl (by decide) rfl (fun ls hl => ?_)
  obtain ⟨Nx, hv⟩ := hv
  exact b_FractionDresser_findNearest_45 hc hA hE  Nx J0 (1 : Int64) _ _ _ (lv_sub hl [2, 1, 0] rfl) hK hP hD hS hv
set_option maxHeartbeats 4000000 in
set_option maxRecDepth 100000 in
theorem b_FractionDresser_findNearest_0 {h0 : Nat} {a0_1 : Nat} {h1 : Nat} {h2 : Nat} {a2_0 : Nat} {J0 : Nat → Int64} {I1 : Nat → Int32} {J2 : Nat → Int64}  {Z : (Nat → Int64) → Prop} {H : Heap} {locs : List Loc} {ls : Array Slot} (hc : zC p s m args meth c prog_6_method_3_code none 6 "NumberDress$FractionDresser") (hA : ∀ q : Nat, s.heap.size ≤ q → A q) (hE : zE gE A s) (hl : lv_has ls 6 [(0, .ref h0), (1, .ref h1)]) (hK : va_K (dC, dI) zCl [] s) (hP : va_P (dC, dI) zCl [(h0, .inr (5, o_FractionDresser J0 h2 a0_1)), (h1, .inr (9, o_Section I1)), (h2, .inr (10, o_Split J2 a2_0))] H) (hD : va_D A [(h0, .inr (5, o_FractionDresser J0 h2 a0_1)), (h1, .inr (9, o_Section I1)), (h2, .inr (10, o_Split J2 a2_0))]) (hS : va_S A s.heap H locs) (hv : v_FractionDresser_findNearest_0 J0 I1 J2  Z) : W p l e (headSpec (Cond.code (⟨"NumberDress$FractionDresser", "findNearest", "(LNumberDress$Section;)V"⟩ : MethodName) prog_6_method_3_code 6 none :: zT) { frames := 1, cells := 0, slots := 0, locals := 34 }).room s m args below meth c H locs 0 0 (MQ below (va_Qv Z (zB (dC, dI) zCl [] A (fun u : (Nat → Int64) => [(h0, .inr (5, o_FractionDresser u h2 a0_1)), (h1, .inr (9, o_Section I1)), (h2, .inr (10, o_Split J2 a2_0))])) A) args s 0 0 A) (F0 m 0 ls []) := by
  obtain ⟨hx, hb, hr, hml, hown, ht, hlocks⟩ := id hc
  unfold v_FractionDresser_findNearest_0 at hv
  refine lv_aload_n hx hb d_FractionDresser_findNearest_0 rfl (lv_at hl 0 rfl) ?_
  refine lv_lconst (v := (0 : Int64)) hx hb d_FractionDresser_findNearest_1 (by decide) ?_
  refine va_put (D := (dC, dI)) (ci := 5) (v := .long (0 : Int64)) (ty := .long) (C := "NumberDress$FractionDresser") (T := T_FractionDresser) (N := 5) hx hb ht zin_FractionDresser ty_FractionDresser tyok_FractionDresser nm_FractionDresser hown hK hP hD hS 0 rfl rfl 2 (by decide) (ht _ zw_395) (fun _ h9 => h9) rfl (by decide +kernel) rfl rfl (Nat.le_of_ble_eq_true rfl) d_FractionDresser_findNearest_2 (fun H locs hP hD hS => ?_)
  have hP : va_P (dC, dI) zCl [(h0, .inr (5, o_FractionDresser (zul J0 2 (0 : Int64)) h2 a0_1)), (h1, .inr (9, o_Section I1)), (h2, .inr (10, o_Split J2 a2_0))] H := hP
  have hD : va_D A [(h0, .inr (5, o_FractionDresser (zul J0 2 (0 : Int64)) h2 a0_1)), (h1, .inr (9, o_Section I1)), (h2, .inr (10, o_Split J2 a2_0))] := hD
  refine lv_aload_n hx hb d_FractionDresser_findNearest_5 rfl (lv_at hl 0 rfl) ?_
  refine lv_lconst (v := (0 : Int64)) hx hb d_FractionDresser_findNearest_6 (by decide) ?_
  refine va_put (D := (dC, dI)) (ci := 5) (v := .long (0 : Int64)) (ty := .long) (C := "NumberDress$FractionDresser") (T := T_FractionDresser) (N := 5) hx hb ht zin_FractionDresser ty_FractionDresser tyok_FractionDresser nm_FractionDresser hown hK hP hD hS 0 rfl rfl 3 (by decide) (ht _ zw_396) (fun _ h9 => h9) rfl (by decide +kernel) rfl rfl (Nat.le_of_ble_eq_true rfl) d_FractionDresser_findNearest_7 (fun H locs hP hD hS => ?_)
  have hP : va_P (dC, dI) zCl [(h0, .inr (5, o_FractionDresser (zul (zul J0 2 (0 : Int64)) 3 (0 : Int64)) h2 a0_1)), (h1, .inr (9, o_Section I1)), (h2, .inr (10, o_Split J2 a2_0))] H := hP
  have hD : va_D A [(h0, .inr (5, o_FractionDresser (zul (zul J0 2 (0 : Int64)) 3 (0 : Int64)) h2 a0_1)), (h1, .inr (9, o_Section I1)), (h2, .inr (10, o_Split J2 a2_0))] := hD
  refine lv_aload_n hx hb d_FractionDresser_findNearest_10 rfl (lv_at hl 0 rfl) ?_
  refine lv_lconst (v := (0 : Int64)) hx hb d_FractionDresser_findNearest_11 (by decide) ?_
  refine va_put (D := (dC, dI)) (ci := 5) (v := .long (0 : Int64)) (ty := .long) (C := "NumberDress$FractionDresser") (T := T_FractionDresser) (N := 5) hx hb ht zin_FractionDresser ty_FractionDresser tyok_FractionDresser nm_FractionDresser hown hK hP hD hS 0 rfl rfl 4 (by decide) (ht _ zw_397) (fun _ h9 => h9) rfl (by decide +kernel) rfl rfl (Nat.le_of_ble_eq_true rfl) d_FractionDresser_findNearest_12 (fun H locs hP hD hS => ?_)
  have hP : va_P (dC, dI) zCl [(h0, .inr (5, o_FractionDresser (zul (zul (zul J0 2 (0 : Int64)) 3 (0 : Int64)) 4 (0 : Int64)) h2 a0_1)), (h1, .inr (9, o_Section I1)), (h2, .inr (10, o_Split J2 a2_0))] H := hP
  have hD : va_D A [(h0, .inr (5, o_FractionDresser (zul (zul (zul J0 2 (0 : Int64)) 3 (0 : Int64)) 4 (0 : Int64)) h2 a0_1)), (h1, .inr (9, o_Section I1)), (h2, .inr (10, o_Split J2 a2_0))] := hD
  refine lv_aload_n hx hb d_FractionDresser_findNearest_15 rfl (lv_at hl 1 rfl) ?_
  refine va_get (D := (dC, dI)) (ci := 9) (v := .int (I1 12)) (C := "NumberDress$Section") (T := T_Section) (N := 15) hx hb ht zin_Section hown hK hP 1 rfl rfl 12 (by decide) (ht _ zw_202) (fun _ h9 => h9) rfl d_FractionDresser_findNearest_16 ?_
  refine lv_if_le (tgt := 32) hx hb d_FractionDresser_findNearest_19 (by decide) (fun c_1 => ?_) (fun c_1 => ?_)
  · have hv := hv.1 c_1
    refine lv_aload_n hx hb d_FractionDresser_findNearest_32 rfl (lv_at hl 1 rfl) ?_
    refine va_get (D := (dC, dI)) (ci := 9) (v := .int (I1 11)) (C := "NumberDress$Section") (T := T_Section) (N := 15) hx hb ht zin_Section hown hK hP 1 rfl rfl 11 (by decide) (ht _ zw_199) (fun _ h9 => h9) rfl d_FractionDresser_findNearest_33 ?_
    refine z_calll (wc := []) (wr := [(h0, .inr (5, o_FractionDresser (zul (zul (zul J0 2 (0 : Int64)) 3 (0 : Int64)) 4 (0 : Int64)) h2 a0_1)), (h1, .inr (9, o_Section I1)), (h2, .inr (10, o_Split J2 a2_0))]) [] [0, 1, 2] (va_runSN (As := [.int (I1 11)]) (rest := []) ⟨hx, hb, hml, hown, ht⟩ (m_ND_tenTo l dC dI hv) ⟨(va_cnB 1 ht (zG_in zi_ND_tenTo) rfl rfl rfl (hE.nest zn_1013) (ht _ zw_110) zh_ND_tenTo ⟨Nat.le_of_ble_eq_true rfl, Nat.le_of_ble_eq_true rfl⟩), (ht _ zw_883), trivial⟩ ⟨zPc_blind, zPc_pre hP hK hD hS hA hE [] [] rfl rfl (by decide) rfl⟩ rfl rfl hl.1 rfl (lv_room (Nat.le_of_ble_eq_true rfl)) d_FractionDresser_findNearest_36 ⟨Nat.le_of_ble_eq_true rfl, Nat.le_of_ble_eq_true rfl⟩) hP hD hS hA rfl rfl (by decide) (by decide) (fun r u H locs hv hP hD hS => ?_)
    have hP : va_P (dC, dI) zCl [(h0, .inr (5, o_FractionDresser (zul (zul (zul J0 2 (0 : Int64)) 3 (0 : Int64)) 4 (0 : Int64)) h2 a0_1)), (h1, .inr (9, o_Section I1)), (h2, .inr (10, o_Split J2 a2_0))] H := hP.sub [0, 1, 2] rfl
    have hD : va_D A [(h0, .inr (5, o_FractionDresser (zul (zul (zul J0 2 (0 : Int64)) 3 (0 : Int64)) 4 (0 : Int64)) h2 a0_1)), (h1, .inr (9, o_Section I1)), (h2, .inr (10, o_Split J2 a2_0))] := hD.sub [0, 1, 2] (by decide) rfl
    exact b_FractionDresser_findNearest_39 hc hA hE  (lv_sub hl [0] rfl) hK hP hD hS hv
  · have hv := hv.2 c_1
    refine lv_aload_n hx hb d_FractionDresser_findNearest_22 rfl (lv_at hl 0 rfl) ?_
    refine lv_aload_n hx hb d_FractionDresser_findNearest_23 rfl (lv_at hl 1 rfl) ?_
    refine va_get (D := (dC, dI)) (ci := 9) (v := .int (I1 12)) (C := "NumberDress$Section") (T := T_Section) (N := 15) hx hb ht zin_Section hown hK hP 1 rfl rfl 12 (by decide) (ht _ zw_202) (fun _ h9 => h9) rfl d_FractionDresser_findNearest_24 ?_
    refine lv_i2l (v := (I1 12).toInt64) hx hb d_FractionDresser_findNearest_27 rfl ?_
    refine z_callv (wc := [(h0, .inr (5, o_FractionDresser (zul (zul (zul J0 2 (0 : Int64)) 3 (0 : Int64)) 4 (0 : Int64)) h2 a0_1)), (h2, .inr (10, o_Split J2 a2_0))]) (wr := [(h1, .inr (9, o_Section I1))]) [0, 2] [1] (va_runV (As := [.long (I1 12).toInt64]) (rest := []) ⟨hx, hb, hml, hown, ht⟩ (m_FractionDresser_tryUnder l dC dI hv) ⟨(callB_of 1 ht (zG_in zi_FractionDresser_tryUnder) rfl rfl rfl (ht _ zw_118) (ht _ zw_1008) zh_FractionDresser_tryUnder ⟨Nat.le_of_ble_eq_true rfl, Nat.le_of_ble_eq_true rfl⟩), (ht _ zw_1010), (ht _ zw_47)⟩ ⟨zPc_blind, va_recv hK hP (ci := 5) (q0 := 0) rfl rfl, zPc_pre hP hK hD hS hA hE [0, 2] [] rfl rfl (by decide) rfl⟩ rfl rfl hl.1 rfl (lv_room (Nat.le_of_ble_eq_true rfl)) d_FractionDresser_findNearest_28 ⟨Nat.le_of_ble_eq_true rfl, Nat.le_of_ble_eq_true rfl⟩) hP hD hS hA rfl rfl (by decide) (by decide) (fun u H locs hv hP hD hS => ?_)
    have hP : va_P (dC, dI) zCl [(h0, .inr (5, o_FractionDresser u h2 a0_1)), (h1, .inr (9, o_Section I1)), (h2, .inr (10, o_Split J2 a2_0))] H := hP.sub [1, 0, 2] rfl
    have hD : va_D A [(h0, .inr (5, o_FractionDresser u h2 a0_1)), (h1, .inr (9, o_Section I1)), (h2, .inr (10, o_Split J2 a2_0))] := hD.sub [1, 0, 2] (by decide) rfl
    exact b_FractionDresser_findNearest_31 hc hA hE  (lv_sub hl [] rfl) hK hP hD hS hv
theorem zi_FractionDresser_findNearest : Cond.code (⟨"NumberDress$FractionDresser", "findNearest", "(LNumberDress$Section;)V"⟩ : MethodName) prog_6_method_3_code 6 none ∈ zT := zw_1007
theorem zh_FractionDresser_findNearest : (((⟨"NumberDress$FractionDresser", "findNearest", "(LNumberDress$Section;)V"⟩ : MethodName)).cls ≠ "java/lang/invoke/MethodHandle" ∧ ((⟨"NumberDress$FractionDresser", "findNearest", "(LNumberDress$Section;)V"⟩ : MethodName)).cls ≠ "java/lang/invoke/VarHandle" ∧ (parseMethodDescriptor ((⟨"NumberDress$FractionDresser", "findNearest", "(LNumberDress$Section;)V"⟩ : MethodName)).desc).map (fun d => d.parameters.length) = some 1) := by decide +kernel
set_option maxHeartbeats 4000000 in
set_option maxRecDepth 100000 in
theorem m_FractionDresser_findNearest (l : Launch) (dC : Nat → ClassId) (dI : Nat → Nat → Nat) {gE : zG} {h0 : Nat} {a0_1 : Nat} {h1 : Nat} {h2 : Nat} {a2_0 : Nat} {J0 : Nat → Int64} {I1 : Nat → Int32} {J2 : Nat → Int64} {sz : Nat} {Z : (Nat → Int64) → Prop} (hv : v_FractionDresser_findNearest_0 J0 I1 J2 Z) : Met l (⟨"NumberDress$FractionDresser", "findNearest", "(LNumberDress$Section;)V"⟩ : MethodName) (Cond.code (⟨"NumberDress$FractionDresser", "findNearest", "(LNumberDress$Section;)V"⟩ : MethodName) prog_6_method_3_code 6 none :: zT) { frames := 1, cells := 0, slots := 0, locals := 34 } (zPc gE (dC, dI) zCl [] [.ref h0, .ref h1] sz [(h0, .inr (5, o_FractionDresser J0 h2 a0_1)), (h1, .inr (9, o_Section I1)), (h2, .inr (10, o_Split J2 a2_0))]) (va_Qv Z (zB (dC, dI) zCl [] (va_A [(h0, .inr (5, o_FractionDresser J0 h2 a0_1)), (h1, .inr (9, o_Section I1)), (h2, .inr (10, o_Split J2 a2_0))] sz) (fun u : (Nat → Int64) => [(h0, .inr (5, o_FractionDresser u h2 a0_1)), (h1, .inr (9, o_Section I1)), (h2, .inr (10, o_Split J2 a2_0))])) (va_A [(h0, .inr (5, o_FractionDresser J0 h2 a0_1)), (h1, .inr (9, o_Section I1)), (h2, .inr (10, o_Split J2 a2_0))] sz)) 0 0 (va_A [(h0, .inr (5, o_FractionDresser J0 h2 a0_1)), (h1, .inr (9, o_Section I1)), (h2, .inr (10, o_Split J2 a2_0))] sz) := by
  refine Met.ofW (cc := prog_6_method_3_code) (maxL := 6) (ret := none) (by decide +kernel) rfl ?_
  intro p e s m args below meth c s₁ B hml hp
  obtain ⟨rfl, hsz, hP, hK, hD0, hE⟩ := hp
  have hts := atoms_spec (ws := (Cond.code (⟨"NumberDress$FractionDresser", "findNearest", "(LNumberDress$Section;)V"⟩ : MethodName) prog_6_method_3_code 6 none :: zT)) B.pre
  have hown : s.vm.findClass "NumberDress$FractionDresser" = some m.cls := findClass_of_methodNamed B.named
  have hc : zC p s m _ meth c prog_6_method_3_code none 6 "NumberDress$FractionDresser" := ⟨B.exec, B.bytes, B.returns, hml, hown, fun w h => hts w (List.mem_cons_of_mem _ h), B.notSynchronized⟩
  subst hsz
  have hD := hD0.self (sz := s.heap.size)
  generalize hAe : va_A [(h0, .inr (5, o_FractionDresser J0 h2 a0_1)), (h1, .inr (9, o_Section I1)), (h2, .inr (10, o_Split J2 a2_0))] s.heap.size = A at hD hE ⊢
  have hA : ∀ q : Nat, s.heap.size ≤ q → A q := fun q h => by rw [← hAe]; exact Or.inr h
  have hl := lv_entry ([.ref h0, .ref h1]) (n := 6) (Nat.le_of_ble_eq_true rfl)
  rw [lg_entry_eq]
  exact b_FractionDresser_findNearest_0 hc hA hE hl hK hP hD va_S.rf hv
theorem d_FractionDresser_isOfFraction_0 : decode prog_6_method_6_code 0 = .ok (.iload_n 0, 1) := by decide +kernel
theorem d_FractionDresser_isOfFraction_1 : decode prog_6_method_6_code 1 = .ok (.bipush 9, 2) := by decide +kernel
theorem d_FractionDresser_isOfFraction_3 : decode prog_6_method_6_code 3 = .ok (.if_icmp .eq 21, 3) := by decide +kernel
theorem d_FractionDresser_isOfFraction_6 : decode prog_6_method_6_code 6 = .ok (.iload_n 0, 1) := by decide +kernel
theorem d_FractionDresser_isOfFraction_7 : decode prog_6_method_6_code 7 = .ok (.bipush 10, 2) := by decide +kernel
theorem d_FractionDresser_isOfFraction_9 : decode prog_6_method_6_code 9 = .ok (.if_icmp .eq 15, 3) := by decide +kernel
theorem d_FractionDresser_isOfFraction_12 : decode prog_6_method_6_code 12 = .ok (.iload_n 0, 1) := by decide +kernel
theorem d_FractionDresser_isOfFraction_13 : decode prog_6_method_6_code 13 = .ok (.bipush 11, 2) := by decide +kernel
theorem d_FractionDresser_isOfFraction_15 : decode prog_6_method_6_code 15 = .ok (.if_icmp .eq 9, 3) := by decide +kernel
theorem d_FractionDresser_isOfFraction_18 : decode prog_6_method_6_code 18 = .ok (.iload_n 0, 1) := by decide +kernel
theorem d_FractionDresser_isOfFraction_19 : decode prog_6_method_6_code 19 = .ok (.bipush 12, 2) := by decide +kernel
theorem d_FractionDresser_isOfFraction_21 : decode prog_6_method_6_code 21 = .ok (.if_icmp .ne 7, 3) := by decide +kernel
theorem d_FractionDresser_isOfFraction_24 : decode prog_6_method_6_code 24 = .ok (.iconst 1, 1) := by decide +kernel
theorem d_FractionDresser_isOfFraction_25 : decode prog_6_method_6_code 25 = .ok (.goto 4, 3) := by decide +kernel
theorem d_FractionDresser_isOfFraction_28 : decode prog_6_method_6_code 28 = .ok (.iconst 0, 1) := by decide +kernel
theorem d_FractionDresser_isOfFraction_29 : decode prog_6_method_6_code 29 = .ok (.ireturn, 1) := by decide +kernel
set_option maxHeartbeats 4000000 in
set_option maxRecDepth 100000 in
theorem b_FractionDresser_isOfFraction_0  {x0 : Int32}  {Z : Int32 → Unit → Prop} {H : Heap} {locs : List Loc} {ls : Array Slot} (hc : zC p s m args meth c prog_6_method_6_code (some .boolean) 1 "NumberDress$FractionDresser") (hA : ∀ q : Nat, s.heap.size ≤ q → A q) (hE : zE gE A s) (hl : lv_has ls 1 [(0, .int x0)]) (hK : va_K (dC, dI) zCl [] s) (hP : va_P (dC, dI) zCl [] H) (hD : va_D A []) (hS : va_S A s.heap H locs) (hv : v_FractionDresser_isOfFraction_0 x0  Z) : W p l e (headSpec (Cond.code (⟨"NumberDress$FractionDresser", "isOfFraction", "(I)Z"⟩ : MethodName) prog_6_method_6_code 1 (some .boolean) :: zT) { frames := 0, cells := 0, slots := 0, locals := 0 }).room s m args below meth c H locs 0 0 (MQ below (va_Qi Z (zB (dC, dI) zCl [] A (fun u : Unit => [])) A) args s 0 0 A) (F0 m 0 ls []) := by
  obtain ⟨hx, hb, hr, hml, hown, ht, hlocks⟩ := id hc
  unfold v_FractionDresser_isOfFraction_0 at hv
  refine lv_iload_n hx hb d_FractionDresser_isOfFraction_0 rfl (lv_at hl 0 rfl) ?_
  refine lv_bipush (v := (9 : Int32)) hx hb d_FractionDresser_isOfFraction_1 (by decide) ?_
  refine lv_icmp_eq (tgt := 24) hx hb d_FractionDresser_isOfFraction_3 (by decide) (fun c_1 => ?_) (fun c_1 => ?_)
  · have hv := hv.1 c_1
    refine lv_iconst (v := (1 : Int32)) hx hb d_FractionDresser_isOfFraction_24 (by decide) ?_
    refine lv_goto (tgt := 29) hx hb d_FractionDresser_isOfFraction_25 (by decide) ?_
    exact W.zret (v := (1 : Int32)) hx hb hr (by decide) (fun t ht hW => ⟨⟨_, (), rfl, hv, ⟨by rw [ht]; exact hP, va_K.moved hW.alike hK, hD⟩⟩, hS.F ht⟩) hS.2.2 d_FractionDresser_isOfFraction_29
  · have hv := hv.2 c_1
    refine lv_iload_n hx hb d_FractionDresser_isOfFraction_6 rfl (lv_at hl 0 rfl) ?_
    refine lv_bipush (v := (10 : Int32)) hx hb d_FractionDresser_isOfFraction_7 (by decide) ?_
    refine lv_icmp_eq (tgt := 24) hx hb d_FractionDresser_isOfFraction_9 (by decide) (fun c_2 => ?_) (fun c_2 => ?_)
    · have hv := hv.1 c_2
      refine lv_iconst (v := (1 : Int32)) hx hb d_FractionDresser_isOfFraction_24 (by decide) ?_
      refine lv_goto (tgt := 29) hx hb d_FractionDresser_isOfFraction_25 (by decide) ?_
      exact W.zret (v := (1 : Int32)) hx hb hr (by decide) (fun t ht hW => ⟨⟨_, (), rfl, hv, ⟨by rw [ht]; exact hP, va_K.moved hW.alike hK, hD⟩⟩, hS.F ht⟩) hS.2.2 d_FractionDresser_isOfFraction_29
    · have hv := hv.2 c_2
      refine lv_iload_n hx hb d_FractionDresser_isOfFraction_12 rfl (lv_at hl 0 rfl) ?_
      refine lv_bipush (v := (11 : Int32)) hx hb d_FractionDresser_isOfFraction_13 (by decide) ?_
      refine lv_icmp_eq (tgt := 24) hx hb d_FractionDresser_isOfFraction_15 (by decide) (fun c_3 => ?_) (fun c_3 => ?_)
      · have hv := hv.1 c_3
        refine lv_iconst (v := (1 : Int32)) hx hb d_FractionDresser_isOfFraction_24 (by decide) ?_
        refine lv_goto (tgt := 29) hx hb d_FractionDresser_isOfFraction_25 (by decide) ?_
        exact W.zret (v := (1 : Int32)) hx hb hr (by decide) (fun t ht hW => ⟨⟨_, (), rfl, hv, ⟨by rw [ht]; exact hP, va_K.moved hW.alike hK, hD⟩⟩, hS.F ht⟩) hS.2.2 d_FractionDresser_isOfFraction_29
      · have hv := hv.2 c_3
        refine lv_iload_n hx hb d_FractionDresser_isOfFraction_18 rfl (lv_at hl 0 rfl) ?_
        refine lv_bipush (v := (12 : Int32)) hx hb d_FractionDresser_isOfFraction_19 (by decide) ?_
        refine lv_icmp_ne (tgt := 28) hx hb d_FractionDresser_isOfFraction_21 (by decide) (fun c_4 => ?_) (fun c_4 => ?_)
        · have hv := hv.1 c_4
          refine lv_iconst (v := (0 : Int32)) hx hb d_FractionDresser_isOfFraction_28 (by decide) ?_
          exact W.zret (v := (0 : Int32)) hx hb hr (by decide) (fun t ht hW => ⟨⟨_, (), rfl, hv, ⟨by rw [ht]; exact hP, va_K.moved hW.alike hK, hD⟩⟩, hS.F ht⟩) hS.2.2 d_FractionDresser_isOfFraction_29
        · have hv := hv.2 c_4
          refine lv_iconst (v := (1 : Int32)) hx hb d_FractionDresser_isOfFraction_24 (by decide) ?_
          refine lv_goto (tgt := 29) hx hb d_FractionDresser_isOfFraction_25 (by decide) ?_
          exact W.zret (v := (1 : Int32)) hx hb hr (by decide) (fun t ht hW => ⟨⟨_, (), rfl, hv, ⟨by rw [ht]; exact hP, va_K.moved hW.alike hK, hD⟩⟩, hS.F ht⟩) hS.2.2 d_FractionDresser_isOfFraction_29
theorem zi_FractionDresser_isOfFraction : Cond.code (⟨"NumberDress$FractionDresser", "isOfFraction", "(I)Z"⟩ : MethodName) prog_6_method_6_code 1 (some .boolean) ∈ zT := zw_1030
theorem zh_FractionDresser_isOfFraction : (((⟨"NumberDress$FractionDresser", "isOfFraction", "(I)Z"⟩ : MethodName)).cls ≠ "java/lang/invoke/MethodHandle" ∧ ((⟨"NumberDress$FractionDresser", "isOfFraction", "(I)Z"⟩ : MethodName)).cls ≠ "java/lang/invoke/VarHandle" ∧ (parseMethodDescriptor ((⟨"NumberDress$FractionDresser", "isOfFraction", "(I)Z"⟩ : MethodName)).desc).map (fun d => d.parameters.length) = some 1) := by decide +kernel
set_option maxHeartbeats 4000000 in
set_option maxRecDepth 100000 in
theorem m_FractionDresser_isOfFraction (l : Launch) (dC : Nat → ClassId) (dI : Nat → Nat → Nat) {gE : zG}  {x0 : Int32} {sz : Nat} {Z : Int32 → Unit → Prop} (hv : v_FractionDresser_isOfFraction_0 x0 Z) : Met l (⟨"NumberDress$FractionDresser", "isOfFraction", "(I)Z"⟩ : MethodName) (Cond.code (⟨"NumberDress$FractionDresser", "isOfFraction", "(I)Z"⟩ : MethodName) prog_6_method_6_code 1 (some .boolean) :: zT) { frames := 0, cells := 0, slots := 0, locals := 0 } (zPc gE (dC, dI) zCl [] [.int x0] sz []) (va_Qi Z (zB (dC, dI) zCl [] (va_A [] sz) (fun u : Unit => [])) (va_A [] sz)) 0 0 (va_A [] sz) := by
  refine Met.ofW (cc := prog_6_method_6_code) (maxL := 1) (ret := (some .boolean)) (by decide +kernel) rfl ?_
  intro p e s m args below meth c s₁ B hml hp
  obtain ⟨rfl, hsz, hP, hK, hD0, hE⟩ := hp
  have hts := atoms_spec (ws := (Cond.code (⟨"NumberDress$FractionDresser", "isOfFraction", "(I)Z"⟩ : MethodName) prog_6_method_6_code 1 (some .boolean) :: zT)) B.pre
  have hown : s.vm.findClass "NumberDress$FractionDresser" = some m.cls := findClass_of_methodNamed B.named
  have hc : zC p s m _ meth c prog_6_method_6_code (some .boolean) 1 "NumberDress$FractionDresser" := ⟨B.exec, B.bytes, B.returns, hml, hown, fun w h => hts w (List.mem_cons_of_mem _ h), B.notSynchronized⟩
  subst hsz
  have hD := hD0.self (sz := s.heap.size)
  generalize hAe : va_A [] s.heap.size = A at hD hE ⊢
  have hA : ∀ q : Nat, s.heap.size ≤ q → A q := fun q h => by rw [← hAe]; exact Or.inr h
  have hl := lv_entry ([.int x0]) (n := 1) (Nat.le_of_ble_eq_true rfl)
  rw [lg_entry_eq]
  exact b_FractionDresser_isOfFraction_0 hc hA hE hl hK hP hD va_S.rf hv
theorem d_FractionDresser_putLacking_0 : decode prog_6_method_8_code 0 = .ok (.iload_n 2, 1) := by decide +kernel
theorem d_FractionDresser_putLacking_1 : decode prog_6_method_8_code 1 = .ok (.istore 6, 2) := by decide +kernel
theorem d_FractionDresser_putLacking_3 : decode prog_6_method_8_code 3 = .ok (.iload 6, 2) := by decide +kernel
theorem d_FractionDresser_putLacking_5 : decode prog_6_method_8_code 5 = .ok (.iload_n 2, 1) := by decide +kernel
theorem d_FractionDresser_putLacking_6 : decode prog_6_method_8_code 6 = .ok (.iload_n 3, 1) := by decide +kernel
theorem d_FractionDresser_putLacking_7 : decode prog_6_method_8_code 7 = .ok (.iadd, 1) := by decide +kernel
theorem d_FractionDresser_putLacking_8 : decode prog_6_method_8_code 8 = .ok (.if_icmp .ge 39, 3) := by decide +kernel
theorem d_FractionDresser_putLacking_11 : decode prog_6_method_8_code 11 = .ok (.aload_n 1, 1) := by decide +kernel
theorem d_FractionDresser_putLacking_12 : decode prog_6_method_8_code 12 = .ok (.iload 6, 2) := by decide +kernel
theorem d_FractionDresser_putLacking_14 : decode prog_6_method_8_code 14 = .ok (.invokevirtual 112, 3) := by decide +kernel
theorem d_FractionDresser_putLacking_17 : decode prog_6_method_8_code 17 = .ok (.iload 4, 2) := by decide +kernel
theorem d_FractionDresser_putLacking_19 : decode prog_6_method_8_code 19 = .ok (.if_icmp .ne 22, 3) := by decide +kernel
theorem d_FractionDresser_putLacking_22 : decode prog_6_method_8_code 22 = .ok (.aload 5, 2) := by decide +kernel
theorem d_FractionDresser_putLacking_24 : decode prog_6_method_8_code 24 = .ok (.iload 4, 2) := by decide +kernel
theorem d_FractionDresser_putLacking_26 : decode prog_6_method_8_code 26 = .ok (.bipush 63, 2) := by decide +kernel
theorem d_FractionDresser_putLacking_28 : decode prog_6_method_8_code 28 = .ok (.if_icmp .ne 8, 3) := by decide +kernel
theorem d_FractionDresser_putLacking_31 : decode prog_6_method_8_code 31 = .ok (.bipush 32, 2) := by decide +kernel
theorem d_FractionDresser_putLacking_33 : decode prog_6_method_8_code 33 = .ok (.goto 5, 3) := by decide +kernel
theorem d_FractionDresser_putLacking_36 : decode prog_6_method_8_code 36 = .ok (.iload 4, 2) := by decide +kernel
theorem d_FractionDresser_putLacking_38 : decode prog_6_method_8_code 38 = .ok (.invokevirtual 41, 3) := by decide +kernel
theorem d_FractionDresser_putLacking_41 : decode prog_6_method_8_code 41 = .ok (.iinc 6 1, 3) := by decide +kernel
theorem d_FractionDresser_putLacking_44 : decode prog_6_method_8_code 44 = .ok (.goto (-41), 3) := by decide +kernel
theorem d_FractionDresser_putLacking_47 : decode prog_6_method_8_code 47 = .ok (.return_, 1) := by decide +kernel
set_option maxHeartbeats 4000000 in
set_option maxRecDepth 100000 in
theorem b_FractionDresser_putLacking_41 {h0 : Nat} {a0_0 : Nat} {a0_1 : Nat} {h1 : Nat} {a1_0 : Nat} {a1_2 : Nat} {h2 : Nat} {cA2 : ClassId} {h3 : Nat} {h4 : Nat} {cA4 : ClassId} {J0 : Nat → Int64} {I1 : Nat → Int32} {n2 : Nat} {f2 : Nat → Int32} {I3 : Nat → Int32} {n4 : Nat} {f4 : Nat → Int32} {x2 : Int32} {x3 : Int32} {x4 : Int32} {x6 : Int32} {k3 : (Nat → Int32) → Nat → (Nat → Int32) → Int32 → Prop} {N0 NF : Nat} {Z : (Nat → Int32) × Nat × (Nat → Int32) → Prop} {H : Heap} {locs : List Loc} {ls : Array Slot} (hc : zC p s m args meth c prog_6_method_8_code none 7 "NumberDress$FractionDresser") (hA : ∀ q : Nat, s.heap.size ≤ q → A q) (hE : zE gE A s) (hk3 : ∀ (I3 : Nat → Int32) (n4 : Nat) (f4 : Nat → Int32) (x6 : Int32) (H : Heap) (locs : List Loc) (ls : Array Slot) (h4 : Nat) (cA4 : ClassId), lv_has ls 7 [(1, .ref h1), (2, .int x2), (3, .int x3), (4, .int x4), (5, .ref h3), (6, .int x6)] → va_K (dC, dI) zCl [(cA2, .int), (cA4, .char)] s → va_P (dC, dI) zCl [(h0, .inr (5, o_FractionDresser J0 a0_0 a0_1)), (h1, .inr (1, o_Code I1 a1_0 a1_2 h2)), (h2, .inl (cA2, n2, .inl f2)), (h3, .inr (6, o_Look I3 h4)), (h4, .inl (cA4, n4, .inl f4))] H → va_D A [(h0, .inr (5, o_FractionDresser J0 a0_0 a0_1)), (h1, .inr (1, o_Code I1 a1_0 a1_2 h2)), (h2, .inl (cA2, n2, .inl f2)), (h3, .inr (6, o_Look I3 h4)), (h4, .inl (cA4, n4, .inl f4))] → va_S A s.heap H locs → N0 ≤ n4 ∧ n4 ≤ NF → k3 I3 n4 f4 x6 → W p l e (headSpec (Cond.code (⟨"NumberDress$FractionDresser", "putLacking", "(LNumberDress$Code;IIILNumberDress$Look;)V"⟩ : MethodName) prog_6_method_8_code 7 none :: zT) { frames := 2, cells := 2 * NF - 2 * N0, slots := 2 * NF - 2 * N0, locals := 62 }).room s m args below meth c H locs (2 * n4 - 2 * N0) (2 * n4 - 2 * N0) (MQ below (va_Qv (fun u : (Nat → Int32) × Nat × (Nat → Int32) => u.2.1 = NF ∧ Z u) (fun (u : (Nat → Int32) × Nat × (Nat → Int32)) t => ∃ (b9 : Nat) (k9 : ClassId), va_P (dC, dI) zCl [(h0, .inr (5, o_FractionDresser J0 a0_0 a0_1)), (h1, .inr (1, o_Code I1 a1_0 a1_2 h2)), (h2, .inl (cA2, n2, .inl f2)), (h3, .inr (6, o_Look u.1 b9)), (b9, .inl (k9, u.2.1, .inl u.2.2))] t.heap ∧ va_K (dC, dI) zCl [(cA2, .int), (k9, .char)] t ∧ va_D A [(h0, .inr (5, o_FractionDresser J0 a0_0 a0_1)), (h1, .inr (1, o_Code I1 a1_0 a1_2 h2)), (h2, .inl (cA2, n2, .inl f2)), (h3, .inr (6, o_Look u.1 b9)), (b9, .inl (k9, u.2.1, .inl u.2.2))]) A) args s (2 * NF - 2 * N0) (2 * NF - 2 * N0) A) (F0 m 3 ls [])) (hl : lv_has ls 7 [(1, .ref h1), (2, .int x2), (3, .int x3), (4, .int x4), (5, .ref h3), (6, .int x6)]) (hK : va_K (dC, dI) zCl [(cA2, .int), (cA4, .char)] s) (hP : va_P (dC, dI) zCl [(h0, .inr (5, o_FractionDresser J0 a0_0 a0_1)), (h1, .inr (1, o_Code I1 a1_0 a1_2 h2)), (h2, .inl (cA2, n2, .inl f2)), (h3, .inr (6, o_Look I3 h4)), (h4, .inl (cA4, n4, .inl f4))] H) (hD : va_D A [(h0, .inr (5, o_FractionDresser J0 a0_0 a0_1)), (h1, .inr (1, o_Code I1 a1_0 a1_2 h2)), (h2, .inl (cA2, n2, .inl f2)), (h3, .inr (6, o_Look I3 h4)), (h4, .inl (cA4, n4, .inl f4))]) (hS : va_S A s.heap H locs) (hN : N0 ≤ n4 ∧ n4 ≤ NF) (hv : v_FractionDresser_putLacking_41 J0 I1 n2 f2 I3 n4 f4 x2 x3 x4 x6 k3 NF Z) : W p l e (headSpec (Cond.code (⟨"NumberDress$FractionDresser", "putLacking", "(LNumberDress$Code;IIILNumberDress$Look;)V"⟩ : MethodName) prog_6_method_8_code 7 none :: zT) { frames := 2, cells := 2 * NF - 2 * N0, slots := 2 * NF - 2 * N0, locals := 62 }).room s m args below meth c H locs (2 * n4 - 2 * N0) (2 * n4 - 2 * N0) (MQ below (va_Qv (fun u : (Nat → Int32) × Nat × (Nat → Int32) => u.2.1 = NF ∧ Z u) (fun (u : (Nat → Int32) × Nat × (Nat → Int32)) t => ∃ (b9 : Nat) (k9 : ClassId), va_P (dC, dI) zCl [(h0, .inr (5, o_FractionDresser J0 a0_0 a0_1)), (h1, .inr (1, o_Code I1 a1_0 a1_2 h2)), (h2, .inl (cA2, n2, .inl f2)), (h3, .inr (6, o_Look u.1 b9)), (b9, .inl (k9, u.2.1, .inl u.2.2))] t.heap ∧ va_K (dC, dI) zCl [(cA2, .int), (k9, .char)] t ∧ va_D A [(h0, .inr (5, o_FractionDresser J0 a0_0 a0_1)), (h1, .inr (1, o_Code I1 a1_0 a1_2 h2)), (h2, .inl (cA2, n2, .inl f2)), (h3, .inr (6, o_Look u.1 b9)), (b9, .inl (k9, u.2.1, .inl u.2.2))]) A) args s (2 * NF - 2 * N0) (2 * NF - 2 * N0) A) (F0 m 41 ls []) := by
  obtain ⟨hx, hb, hr, hml, hown, ht, hlocks⟩ := id hc
  unfold v_FractionDresser_putLacking_41 at hv
  refine lv_iinc (v := (x6 + (1 : Int32))) (lv' := [(6, .int (x6 + (1 : Int32))), (1, .ref h1), (2, .int x2), (3, .int x3), (4, .int x4), (5, .ref h3)]) hx hb d_FractionDresser_putLacking_41 hl (k := 5) rfl rfl (by decide) rfl (fun ls hl => ?_)
  refine lv_goto (tgt := 3) hx hb d_FractionDresser_putLacking_44 (by decide) ?_
  exact hk3 I3 n4 f4 (x6 + (1 : Int32)) _ _ _ _ _ (lv_sub hl [1, 2, 3, 4, 5, 0] rfl) hK hP hD hS hN hv
set_option maxHeartbeats 4000000 in
set_option maxRecDepth 100000 in
theorem b_FractionDresser_putLacking_38 {h0 : Nat} {a0_0 : Nat} {a0_1 : Nat} {h1 : Nat} {a1_0 : Nat} {a1_2 : Nat} {h2 : Nat} {cA2 : ClassId} {h3 : Nat} {h4 : Nat} {cA4 : ClassId} {J0 : Nat → Int64} {I1 : Nat → Int32} {n2 : Nat} {f2 : Nat → Int32} {I3 : Nat → Int32} {n4 : Nat} {f4 : Nat → Int32} {x2 : Int32} {x3 : Int32} {x4 : Int32} {x6 : Int32} {s1 : Int32} {k3 : (Nat → Int32) → Nat → (Nat → Int32) → Int32 → Prop} {N0 NF : Nat} {Z : (Nat → Int32) × Nat × (Nat → Int32) → Prop} {H : Heap} {locs : List Loc} {ls : Array Slot} (hc : zC p s m args meth c prog_6_method_8_code none 7 "NumberDress$FractionDresser") (hA : ∀ q : Nat, s.heap.size ≤ q → A q) (hE : zE gE A s) (hk3 : ∀ (I3 : Nat → Int32) (n4 : Nat) (f4 : Nat → Int32) (x6 : Int32) (H : Heap) (locs : List Loc) (ls : Array Slot) (h4 : Nat) (cA4 : ClassId), lv_has ls 7 [(1, .ref h1), (2, .int x2), (3, .int x3), (4, .int x4), (5, .ref h3), (6, .int x6)] → va_K (dC, dI) zCl [(cA2, .int), (cA4, .char)] s → va_P (dC, dI) zCl [(h0, .inr (5, o_FractionDresser J0 a0_0 a0_1)), (h1, .inr (1, o_Code I1 a1_0 a1_2 h2)), (h2, .inl (cA2, n2, .inl f2)), (h3, .inr (6, o_Look I3 h4)), (h4, .inl (cA4, n4, .inl f4))] H → va_D A [(h0, .inr (5, o_FractionDresser J0 a0_0 a0_1)), (h1, .inr (1, o_Code I1 a1_0 a1_2 h2)), (h2, .inl (cA2, n2, .inl f2)), (h3, .inr (6, o_Look I3 h4)), (h4, .inl (cA4, n4, .inl f4))] → va_S A s.heap H locs → N0 ≤ n4 ∧ n4 ≤ NF → k3 I3 n4 f4 x6 → W p l e (headSpec (Cond.code (⟨"NumberDress$FractionDresser", "putLacking", "(LNumberDress$Code;IIILNumberDress$Look;)V"⟩ : MethodName) prog_6_method_8_code 7 none :: zT) { frames := 2, cells := 2 * NF - 2 * N0, slots := 2 * NF - 2 * N0, locals := 62 }).room s m args below meth c H locs (2 * n4 - 2 * N0) (2 * n4 - 2 * N0) (MQ below (va_Qv (fun u : (Nat → Int32) × Nat × (Nat → Int32) => u.2.1 = NF ∧ Z u) (fun (u : (Nat → Int32) × Nat × (Nat → Int32)) t => ∃ (b9 : Nat) (k9 : ClassId), va_P (dC, dI) zCl [(h0, .inr (5, o_FractionDresser J0 a0_0 a0_1)), (h1, .inr (1, o_Code I1 a1_0 a1_2 h2)), (h2, .inl (cA2, n2, .inl f2)), (h3, .inr (6, o_Look u.1 b9)), (b9, .inl (k9, u.2.1, .inl u.2.2))] t.heap ∧ va_K (dC, dI) zCl [(cA2, .int), (k9, .char)] t ∧ va_D A [(h0, .inr (5, o_FractionDresser J0 a0_0 a0_1)), (h1, .inr (1, o_Code I1 a1_0 a1_2 h2)), (h2, .inl (cA2, n2, .inl f2)), (h3, .inr (6, o_Look u.1 b9)), (b9, .inl (k9, u.2.1, .inl u.2.2))]) A) args s (2 * NF - 2 * N0) (2 * NF - 2 * N0) A) (F0 m 3 ls [])) (hl : lv_has ls 7 [(1, .ref h1), (2, .int x2), (3, .int x3), (4, .int x4), (5, .ref h3), (6, .int x6)]) (hK : va_K (dC, dI) zCl [(cA2, .int), (cA4, .char)] s) (hP : va_P (dC, dI) zCl [(h0, .inr (5, o_FractionDresser J0 a0_0 a0_1)), (h1, .inr (1, o_Code I1 a1_0 a1_2 h2)), (h2, .inl (cA2, n2, .inl f2)), (h3, .inr (6, o_Look I3 h4)), (h4, .inl (cA4, n4, .inl f4))] H) (hD : va_D A [(h0, .inr (5, o_FractionDresser J0 a0_0 a0_1)), (h1, .inr (1, o_Code I1 a1_0 a1_2 h2)), (h2, .inl (cA2, n2, .inl f2)), (h3, .inr (6, o_Look I3 h4)), (h4, .inl (cA4, n4, .inl f4))]) (hS : va_S A s.heap H locs) (hN : N0 ≤ n4 ∧ n4 ≤ NF) (hv : v_FractionDresser_putLacking_38 J0 I1 n2 f2 I3 n4 f4 x2 x3 x4 x6 s1 k3 NF Z) : W p l e (headSpec (Cond.code (⟨"NumberDress$FractionDresser", "putLacking", "(LNumberDress$Code;IIILNumberDress$Look;)V"⟩ : MethodName) prog_6_method_8_code 7 none :: zT) { frames := 2, cells := 2 * NF - 2 * N0, slots := 2 * NF - 2 * N0, locals := 62 }).room s m args below meth c H locs (2 * n4 - 2 * N0) (2 * n4 - 2 * N0) (MQ below (va_Qv (fun u : (Nat → Int32) × Nat × (Nat → Int32) => u.2.1 = NF ∧ Z u) (fun (u : (Nat → Int32) × Nat × (Nat → Int32)) t => ∃ (b9 : Nat) (k9 : ClassId), va_P (dC, dI) zCl [(h0, .inr (5, o_FractionDresser J0 a0_0 a0_1)), (h1, .inr (1, o_Code I1 a1_0 a1_2 h2)), (h2, .inl (cA2, n2, .inl f2)), (h3, .inr (6, o_Look u.1 b9)), (b9, .inl (k9, u.2.1, .inl u.2.2))] t.heap ∧ va_K (dC, dI) zCl [(cA2, .int), (k9, .char)] t ∧ va_D A [(h0, .inr (5, o_FractionDresser J0 a0_0 a0_1)), (h1, .inr (1, o_Code I1 a1_0 a1_2 h2)), (h2, .inl (cA2, n2, .inl f2)), (h3, .inr (6, o_Look u.1 b9)), (b9, .inl (k9, u.2.1, .inl u.2.2))]) A) args s (2 * NF - 2 * N0) (2 * NF - 2 * N0) A) (F0 m 38 ls [.int s1, .ref h3]) := by
  obtain ⟨hx, hb, hr, hml, hown, ht, hlocks⟩ := id hc
  unfold v_FractionDresser_putLacking_38 at hv
  obtain ⟨Nc, hn1, hn2, hv⟩ := hv
  refine z_callvx (wc := [(h3, .inr (6, o_Look I3 h4)), (h4, .inl (cA4, n4, .inl f4))]) (wr := [(h0, .inr (5, o_FractionDresser J0 a0_0 a0_1)), (h1, .inr (1, o_Code I1 a1_0 a1_2 h2)), (h2, .inl (cA2, n2, .inl f2))]) [3, 4] [0, 1, 2] [0] (va_runV (As := [.int s1]) (rest := []) ⟨hx, hb, hml, hown, ht⟩ (m_Look_put l dC dI hn1 hv) ⟨(callB_of 1 ht (zG_in zi_Look_put) rfl rfl rfl (ht _ zw_121) (ht _ zw_1003) zh_Look_put ⟨Nat.le_of_ble_eq_true rfl, Nat.le_of_ble_eq_true rfl⟩), (ht _ zw_865), (ht _ zw_866)⟩ ⟨zPc_blind, va_recv hK hP (ci := 6) (q0 := 3) rfl rfl, zPc_pre hP hK hD hS hA hE [3, 4] [1] rfl rfl (by decide) rfl⟩ rfl rfl hl.1 rfl (lv_room (Nat.le_of_ble_eq_true rfl)) d_FractionDresser_putLacking_38 ⟨by show _ ≤ 2 * NF - 2 * N0; omega, by show _ ≤ 2 * NF - 2 * N0; omega⟩) hK hP hD hS hA rfl rfl rfl (by decide) (by decide) (fun u b kb H locs hv hK hP hD hS => ?_)
  obtain ⟨en, hv⟩ := hv
  have hP : va_P (dC, dI) zCl [(h0, .inr (5, o_FractionDresser J0 a0_0 a0_1)), (h1, .inr (1, o_Code I1 a1_0 a1_2 h2)), (h2, .inl (cA2, n2, .inl f2)), (h3, .inr (6, o_Look u.1 b)), (b, .inl (kb, u.2.1, .inl u.2.2))] H := hP.sub [0, 1, 2, 3, 4] rfl
  have hD : va_D A [(h0, .inr (5, o_FractionDresser J0 a0_0 a0_1)), (h1, .inr (1, o_Code I1 a1_0 a1_2 h2)), (h2, .inl (cA2, n2, .inl f2)), (h3, .inr (6, o_Look u.1 b)), (b, .inl (kb, u.2.1, .inl u.2.2))] := hD.sub [0, 1, 2, 3, 4] (by decide) rfl
  have hK : va_K (dC, dI) zCl [(cA2, .int), (kb, .char)] s := hK.sub [0, 1] rfl
  have hN : N0 ≤ u.2.1 ∧ u.2.1 ≤ NF := by rw [en]; omega
  refine W.widen (k := 2 * u.2.1 - 2 * N0) (n := 2 * u.2.1 - 2 * N0) (by rw [en]; omega) (by rw [en]; omega) ?_
  exact b_FractionDresser_putLacking_41 hc hA hE hk3 (lv_sub hl [0, 1, 2, 3, 4, 5] rfl) hK hP hD hS hN hv
set_option maxHeartbeats 4000000 in
set_option maxRecDepth 100000 in
theorem b_FractionDresser_putLacking_17 {h0 : Nat} {a0_0 : Nat} {a0_1 : Nat} {h1 : Nat} {a1_0 : Nat} {a1_2 : Nat} {h2 : Nat} {cA2 : ClassId} {h3 : Nat} {h4 : Nat} {cA4 : ClassId} {J0 : Nat → Int64} {I1 : Nat → Int32} {n2 : Nat} {f2 : Nat → Int32} {I3 : Nat → Int32} {n4 : Nat} {f4 : Nat → Int32} {x2 : Int32} {x3 : Int32} {x4 : Int32} {x6 : Int32} {s0 : Int32} {k3 : (Nat → Int32) → Nat → (Nat → Int32) → Int32 → Prop} {N0 NF : Nat} {Z : (Nat → Int32) × Nat × (Nat → Int32) → Prop} {H : Heap} {locs : List Loc} {ls : Array Slot} (hc : zC p s m args meth c prog_6_method_8_code none 7 "NumberDress$FractionDresser") (hA : ∀ q : Nat, s.heap.size ≤ q → A q) (hE : zE gE A s) (hk3 : ∀ (I3 : Nat → Int32) (n4 : Nat) (f4 : Nat → Int32) (x6 : Int32) (H : Heap) (locs : List Loc) (ls : Array Slot) (h4 : Nat) (cA4 : ClassId), lv_has ls 7 [(1, .ref h1), (2, .int x2), (3, .int x3), (4, .int x4), (5, .ref h3), (6, .int x6)] → va_K (dC, dI) zCl [(cA2, .int), (cA4, .char)] s → va_P (dC, dI) zCl [(h0, .inr (5, o_FractionDresser J0 a0_0 a0_1)), (h1, .inr (1, o_Code I1 a1_0 a1_2 h2)), (h2, .inl (cA2, n2, .inl f2)), (h3, .inr (6, o_Look I3 h4)), (h4, .inl (cA4, n4, .inl f4))] H → va_D A [(h0, .inr (5, o_FractionDresser J0 a0_0 a0_1)), (h1, .inr (1, o_Code I1 a1_0 a1_2 h2)), (h2, .inl (cA2, n2, .inl f2)), (h3, .inr (6, o_Look I3 h4)), (h4, .inl (cA4, n4, .inl f4))] → va_S A s.heap H locs → N0 ≤ n4 ∧ n4 ≤ NF → k3 I3 n4 f4 x6 → W p l e (headSpec (Cond.code (⟨"NumberDress$FractionDresser", "putLacking", "(LNumberDress$Code;IIILNumberDress$Look;)V"⟩ : MethodName) prog_6_method_8_code 7 none :: zT) { frames := 2, cells := 2 * NF - 2 * N0, slots := 2 * NF - 2 * N0, locals := 62 }).room s m args below meth c H locs (2 * n4 - 2 * N0) (2 * n4 - 2 * N0) (MQ below (va_Qv (fun u : (Nat → Int32) × Nat × (Nat → Int32) => u.2.1 = NF ∧ Z u) (fun (u : (Nat → Int32) × Nat × (Nat → Int32)) t => ∃ (b9 : Nat) (k9 : ClassId), va_P (dC, dI) zCl [(h0, .inr (5, o_FractionDresser J0 a0_0 a0_1)), (h1, .inr (1, o_Code I1 a1_0 a1_2 h2)), (h2, .inl (cA2, n2, .inl f2)), (h3, .inr (6, o_Look u.1 b9)), (b9, .inl (k9, u.2.1, .inl u.2.2))] t.heap ∧ va_K (dC, dI) zCl [(cA2, .int), (k9, .char)] t ∧ va_D A [(h0, .inr (5, o_FractionDresser J0 a0_0 a0_1)), (h1, .inr (1, o_Code I1 a1_0 a1_2 h2)), (h2, .inl (cA2, n2, .inl f2)), (h3, .inr (6, o_Look u.1 b9)), (b9, .inl (k9, u.2.1, .inl u.2.2))]) A) args s (2 * NF - 2 * N0) (2 * NF - 2 * N0) A) (F0 m 3 ls [])) (hl : lv_has ls 7 [(1, .ref h1), (2, .int x2), (3, .int x3), (4, .int x4), (5, .ref h3), (6, .int x6)]) (hK : va_K (dC, dI) zCl [(cA2, .int), (cA4, .char)] s) (hP : va_P (dC, dI) zCl [(h0, .inr (5, o_FractionDresser J0 a0_0 a0_1)), (h1, .inr (1, o_Code I1 a1_0 a1_2 h2)), (h2, .inl (cA2, n2, .inl f2)), (h3, .inr (6, o_Look I3 h4)), (h4, .inl (cA4, n4, .inl f4))] H) (hD : va_D A [(h0, .inr (5, o_FractionDresser J0 a0_0 a0_1)), (h1, .inr (1, o_Code I1 a1_0 a1_2 h2)), (h2, .inl (cA2, n2, .inl f2)), (h3, .inr (6, o_Look I3 h4)), (h4, .inl (cA4, n4, .inl f4))]) (hS : va_S A s.heap H locs) (hN : N0 ≤ n4 ∧ n4 ≤ NF) (hv : v_FractionDresser_putLacking_17 J0 I1 n2 f2 I3 n4 f4 x2 x3 x4 x6 s0 k3 NF Z) : W p l e (headSpec (Cond.code (⟨"NumberDress$FractionDresser", "putLacking", "(LNumberDress$Code;IIILNumberDress$Look;)V"⟩ : MethodName) prog_6_method_8_code 7 none :: zT) { frames := 2, cells := 2 * NF - 2 * N0, slots := 2 * NF - 2 * N0, locals := 62 }).room s m args below meth c H locs (2 * n4 - 2 * N0) (2 * n4 - 2 * N0) (MQ below (va_Qv (fun u : (Nat → Int32) × Nat × (Nat → Int32) => u.2.1 = NF ∧ Z u) (fun (u : (Nat → Int32) × Nat × (Nat → Int32)) t => ∃ (b9 : Nat) (k9 : ClassId), va_P (dC, dI) zCl [(h0, .inr (5, o_FractionDresser J0 a0_0 a0_1)), (h1, .inr (1, o_Code I1 a1_0 a1_2 h2)), (h2, .inl (cA2, n2, .inl f2)), (h3, .inr (6, o_Look u.1 b9)), (b9, .inl (k9, u.2.1, .inl u.2.2))] t.heap ∧ va_K (dC, dI) zCl [(cA2, .int), (k9, .char)] t ∧ va_D A [(h0, .inr (5, o_FractionDresser J0 a0_0 a0_1)), (h1, .inr (1, o_Code I1 a1_0 a1_2 h2)), (h2, .inl (cA2, n2, .inl f2)), (h3, .inr (6, o_Look u.1 b9)), (b9, .inl (k9, u.2.1, .inl u.2.2))]) A) args s (2 * NF - 2 * N0) (2 * NF - 2 * N0) A) (F0 m 17 ls [.int s0]) := by
  obtain ⟨hx, hb, hr, hml, hown, ht, hlocks⟩ := id hc
  unfold v_FractionDresser_putLacking_17 at hv
  refine lv_iload hx hb d_FractionDresser_putLacking_17 (lv_at hl 3 rfl) ?_
  refine lv_icmp_ne (tgt := 41) hx hb d_FractionDresser_putLacking_19 (by decide) (fun c_1 => ?_) (fun c_1 => ?_)
  · have hv := hv.1 c_1
    exact b_FractionDresser_putLacking_41 hc hA hE hk3 (lv_sub hl [0, 1, 2, 3, 4, 5] rfl) hK hP hD hS hN hv
  · have hv := hv.2 c_1
    refine lv_aload hx hb d_FractionDresser_putLacking_22 (lv_at hl 4 rfl) ?_
    refine lv_iload hx hb d_FractionDresser_putLacking_24 (lv_at hl 3 rfl) ?_
    refine lv_bipush (v := (63 : Int32)) hx hb d_FractionDresser_putLacking_26 (by decide) ?_
    refine lv_icmp_ne (tgt := 36) hx hb d_FractionDresser_putLacking_28 (by decide) (fun c_2 => ?_) (fun c_2 => ?_)
    · have hv := hv.1 c_2
      refine lv_iload hx hb d_FractionDresser_putLacking_36 (lv_at hl 3 rfl) ?_
      exact b_FractionDresser_putLacking_38 hc hA hE hk3 (lv_sub hl [0, 1, 2, 3, 4, 5] rfl) hK hP hD hS hN hv
    · have hv := hv.2 c_2
      refine lv_bipush (v := (32 : Int32)) hx hb d_FractionDresser_putLacking_31 (by decide) ?_
      refine lv_goto (tgt := 38) hx hb d_FractionDresser_putLacking_33 (by decide) ?_
      exact b_FractionDresser_putLacking_38 hc hA hE hk3 (lv_sub hl [0, 1, 2, 3, 4, 5] rfl) hK hP hD hS hN hv
set_option maxHeartbeats 4000000 in
set_option maxRecDepth 100000 in
theorem b_FractionDresser_putLacking_3 {h0 : Nat} {a0_0 : Nat} {a0_1 : Nat} {h1 : Nat} {a1_0 : Nat} {a1_2 : Nat} {h2 : Nat} {cA2 : ClassId} {h3 : Nat}   {J0 : Nat → Int64} {I1 : Nat → Int32} {n2 : Nat} {f2 : Nat → Int32} {x2 : Int32} {x3 : Int32} {x4 : Int32}  {N0 NF : Nat} {Z : (Nat → Int32) × Nat × (Nat → Int32) → Prop} (hc : zC p s m args meth c prog_6_method_8_code none 7 "NumberDress$FractionDresser") (hA : ∀ q : Nat, s.heap.size ≤ q → A q) (hE : zE gE A s) : ∀ (N : Nat) (I3 : Nat → Int32) (n4 : Nat) (f4 : Nat → Int32) (x6 : Int32) (H : Heap) (locs : List Loc) (ls : Array Slot) (h4 : Nat) (cA4 : ClassId), lv_has ls 7 [(1, .ref h1), (2, .int x2), (3, .int x3), (4, .int x4), (5, .ref h3), (6, .int x6)] → va_K (dC, dI) zCl [(cA2, .int), (cA4, .char)] s → va_P (dC, dI) zCl [(h0, .inr (5, o_FractionDresser J0 a0_0 a0_1)), (h1, .inr (1, o_Code I1 a1_0 a1_2 h2)), (h2, .inl (cA2, n2, .inl f2)), (h3, .inr (6, o_Look I3 h4)), (h4, .inl (cA4, n4, .inl f4))] H → va_D A [(h0, .inr (5, o_FractionDresser J0 a0_0 a0_1)), (h1, .inr (1, o_Code I1 a1_0 a1_2 h2)), (h2, .inl (cA2, n2, .inl f2)), (h3, .inr (6, o_Look I3 h4)), (h4, .inl (cA4, n4, .inl f4))] → va_S A s.heap H locs → N0 ≤ n4 ∧ n4 ≤ NF → v_FractionDresser_putLacking_3 J0 I1 n2 f2 x2 x3 x4  NF Z N I3 n4 f4 x6 → W p l e (headSpec (Cond.code (⟨"NumberDress$FractionDresser", "putLacking", "(LNumberDress$Code;IIILNumberDress$Look;)V"⟩ : MethodName) prog_6_method_8_code 7 none :: zT) { frames := 2, cells := 2 * NF - 2 * N0, slots := 2 * NF - 2 * N0, locals := 62 }).room s m args below meth c H locs (2 * n4 - 2 * N0) (2 * n4 - 2 * N0) (MQ below (va_Qv (fun u : (Nat → Int32) × Nat × (Nat → Int32) => u.2.1 = NF ∧ Z u) (fun (u : (Nat → Int32) × Nat × (Nat → Int32)) t => ∃ (b9 : Nat) (k9 : ClassId), va_P (dC, dI) zCl [(h0, .inr (5, o_FractionDresser J0 a0_0 a0_1)), (h1, .inr (1, o_Code I1 a1_0 a1_2 h2)), (h2, .inl (cA2, n2, .inl f2)), (h3, .inr (6, o_Look u.1 b9)), (b9, .inl (k9, u.2.1, .inl u.2.2))] t.heap ∧ va_K (dC, dI) zCl [(cA2, .int), (k9, .char)] t ∧ va_D A [(h0, .inr (5, o_FractionDresser J0 a0_0 a0_1)), (h1, .inr (1, o_Code I1 a1_0 a1_2 h2)), (h2, .inl (cA2, n2, .inl f2)), (h3, .inr (6, o_Look u.1 b9)), (b9, .inl (k9, u.2.1, .inl u.2.2))]) A) args s (2 * NF - 2 * N0) (2 * NF - 2 * N0) A) (F0 m 3 ls []) := by
  obtain ⟨hx, hb, hr, hml, hown, ht, hlocks⟩ := id hc
  intro N
  induction N with
  | zero => intro I3 n4 f4 x6 H locs ls h4 cA4 hl hK hP hD hS hN hv; exact hv.elim
  | succ N hk3 =>
    intro I3 n4 f4 x6 H locs ls h4 cA4 hl hK hP hD hS hN hv
    unfold v_FractionDresser_putLacking_3 at hv
    refine lv_iload hx hb d_FractionDresser_putLacking_3 (lv_at hl 5 rfl) ?_
    refine lv_iload_n hx hb d_FractionDresser_putLacking_5 rfl (lv_at hl 1 rfl) ?_
    refine lv_iload_n hx hb d_FractionDresser_putLacking_6 rfl (lv_at hl 2 rfl) ?_
    refine lv_iadd hx hb d_FractionDresser_putLacking_7 ?_
    refine lv_icmp_ge (tgt := 47) hx hb d_FractionDresser_putLacking_8 (by decide) (fun c_1 => ?_) (fun c_1 => ?_)
    · have hv := hv.1 c_1
      obtain ⟨rfl, hz⟩ := hv
      exact W.vret hx hb hr (fun t ht hW => ⟨⟨(I3, n4, f4), rfl, ⟨rfl, hz⟩, ⟨h4, cA4, by rw [ht]; exact hP, va_K.moved hW.alike hK, hD⟩⟩, hS.F ht⟩) hS.2.2 d_FractionDresser_putLacking_47
    · have hv := hv.2 c_1
      refine lv_aload_n hx hb d_FractionDresser_putLacking_11 rfl (lv_at hl 0 rfl) ?_
      refine lv_iload hx hb d_FractionDresser_putLacking_12 (lv_at hl 5 rfl) ?_
      refine z_calli (wc := [(h1, .inr (1, o_Code I1 a1_0 a1_2 h2)), (h2, .inl (cA2, n2, .inl f2))]) (wr := [(h0, .inr (5, o_FractionDresser J0 a0_0 a0_1)), (h3, .inr (6, o_Look I3 h4)), (h4, .inl (cA4, n4, .inl f4))]) [1, 2] [0, 3, 4] (va_runV (As := [.int x6]) (rest := []) ⟨hx, hb, hml, hown, ht⟩ (m_Code_mark l dC dI hv) ⟨(callB_of 1 ht (zG_in zi_Code_mark) rfl rfl rfl (ht _ zw_111) (ht _ zw_1026) zh_Code_mark ⟨Nat.le_of_ble_eq_true rfl, Nat.le_of_ble_eq_true rfl⟩), (ht _ zw_806), (ht _ zw_807)⟩ ⟨zPc_blind, va_recv hK hP (ci := 1) (q0 := 1) rfl rfl, zPc_pre hP hK hD hS hA hE [1, 2] [0] rfl rfl (by decide) rfl⟩ rfl rfl hl.1 rfl (lv_room (Nat.le_of_ble_eq_true rfl)) d_FractionDresser_putLacking_14 ⟨by show _ ≤ 2 * NF - 2 * N0; omega, by show _ ≤ 2 * NF - 2 * N0; omega⟩) hP hD hS hA rfl rfl (by decide) (by decide) (fun r u H locs hv hP hD hS => ?_)
      have hP : va_P (dC, dI) zCl [(h0, .inr (5, o_FractionDresser J0 a0_0 a0_1)), (h1, .inr (1, o_Code I1 a1_0 a1_2 h2)), (h2, .inl (cA2, n2, .inl f2)), (h3, .inr (6, o_Look I3 h4)), (h4, .inl (cA4, n4, .inl f4))] H := hP.sub [0, 3, 4, 1, 2] rfl
      have hD : va_D A [(h0, .inr (5, o_FractionDresser J0 a0_0 a0_1)), (h1, .inr (1, o_Code I1 a1_0 a1_2 h2)), (h2, .inl (cA2, n2, .inl f2)), (h3, .inr (6, o_Look I3 h4)), (h4, .inl (cA4, n4, .inl f4))] := hD.sub [0, 3, 4, 1, 2] (by decide) rfl
      exact b_FractionDresser_putLacking_17 hc hA hE hk3 (lv_sub hl [0, 1, 2, 3, 4, 5] rfl) hK hP hD hS hN hv
set_option maxHeartbeats 4000000 in
set_option maxRecDepth 100000 in
theorem b_FractionDresser_putLacking_0 {h0 : Nat} {a0_0 : Nat} {a0_1 : Nat} {h1 : Nat} {a1_0 : Nat} {a1_2 : Nat} {h2 : Nat} {cA2 : ClassId} {h3 : Nat} {h4 : Nat} {cA4 : ClassId} {J0 : Nat → Int64} {I1 : Nat → Int32} {n2 : Nat} {f2 : Nat → Int32} {I3 : Nat → Int32} {n4 : Nat} {f4 : Nat → Int32} {x2 : Int32} {x3 : Int32} {x4 : Int32}  {N0 NF : Nat} {Z : (Nat → Int32) × Nat × (Nat → Int32) → Prop} {H : Heap} {locs : List Loc} {ls : Array Slot} (hc : zC p s m args meth c prog_6_method_8_code none 7 "NumberDress$FractionDresser") (hA : ∀ q : Nat, s.heap.size ≤ q → A q) (hE : zE gE A s) (hl : lv_has ls 7 [(0, .ref h0), (1, .ref h1), (2, .int x2), (3, .int x3), (4, .int x4), (5, .ref h3)]) (hK : va_K (dC, dI) zCl [(cA2, .int), (cA4, .char)] s) (hP : va_P (dC, dI) zCl [(h0, .inr (5, o_FractionDresser J0 a0_0 a0_1)), (h1, .inr (1, o_Code I1 a1_0 a1_2 h2)), (h2, .inl (cA2, n2, .inl f2)), (h3, .inr (6, o_Look I3 h4)), (h4, .inl (cA4, n4, .inl f4))] H) (hD : va_D A [(h0, .inr (5, o_FractionDresser J0 a0_0 a0_1)), (h1, .inr (1, o_Code I1 a1_0 a1_2 h2)), (h2, .inl (cA2, n2, .inl f2)), (h3, .inr (6, o_Look I3 h4)), (h4, .inl (cA4, n4, .inl f4))]) (hS : va_S A s.heap H locs) (hN : N0 ≤ n4 ∧ n4 ≤ NF) (hv : v_FractionDresser_putLacking_0 J0 I1 n2 f2 I3 n4 f4 x2 x3 x4  NF Z) : W p l e (headSpec (Cond.code (⟨"NumberDress$FractionDresser", "putLacking", "(LNumberDress$Code;IIILNumberDress$Look;)V"⟩ : MethodName) prog_6_method_8_code 7 none :: zT) { frames := 2, cells := 2 * NF - 2 * N0, slots := 2 * NF - 2 * N0, locals := 62 }).room s m args below meth c H locs (2 * n4 - 2 * N0) (2 * n4 - 2 * N0) (MQ below (va_Qv (fun u : (Nat → Int32) × Nat × (Nat → Int32) => u.2.1 = NF ∧ Z u) (fun (u : (Nat → Int32) × Nat × (Nat → Int32)) t => ∃ (b9 : Nat) (k9 : ClassId), va_P (dC, dI) zCl [(h0, .inr (5, o_FractionDresser J0 a0_0 a0_1)), (h1, .inr (1, o_Code I1 a1_0 a1_2 h2)), (h2, .inl (cA2, n2, .inl f2)), (h3, .inr (6, o_Look u.1 b9)), (b9, .inl (k9, u.2.1, .inl u.2.2))] t.heap ∧ va_K (dC, dI) zCl [(cA2, .int), (k9, .char)] t ∧ va_D A [(h0, .inr (5, o_FractionDresser J0 a0_0 a0_1)), (h1, .inr (1, o_Code I1 a1_0 a1_2 h2)), (h2, .inl (cA2, n2, .inl f2)), (h3, .inr (6, o_Look u.1 b9)), (b9, .inl (k9, u.2.1, .inl u.2.2))]) A) args s (2 * NF - 2 * N0) (2 * NF - 2 * N0) A) (F0 m 0 ls []) := by
  obtain ⟨hx, hb, hr, hml, hown, ht, hlocks⟩ := id hc
  unfold v_FractionDresser_putLacking_0 at hv
  refine lv_iload_n hx hb d_FractionDresser_putLacking_0 rfl (lv_at hl 2 rfl) ?_
  refine lv_istore (lv' := [(6, .int x2), (0, .ref h0), (1, .ref h1), (2, .int x2), (3, .int x3), (4, .int x4), (5, .ref h3)]) hx hb d_FractionDresser_putLacking_1 hl (by decide) rfl (fun ls hl => ?_)
  obtain ⟨Nx, hv⟩ := hv
  exact b_FractionDresser_putLacking_3 hc hA hE  Nx I3 n4 f4 x2 _ _ _ _ _ (lv_sub hl [2, 3, 4, 5, 6, 0] rfl) hK hP hD hS hN hv
theorem zi_FractionDresser_putLacking : Cond.code (⟨"NumberDress$FractionDresser", "putLacking", "(LNumberDress$Code;IIILNumberDress$Look;)V"⟩ : MethodName) prog_6_method_8_code 7 none ∈ zT := zw_1039
theorem zh_FractionDresser_putLacking : (((⟨"NumberDress$FractionDresser", "putLacking", "(LNumberDress$Code;IIILNumberDress$Look;)V"⟩ : MethodName)).cls ≠ "java/lang/invoke/MethodHandle" ∧ ((⟨"NumberDress$FractionDresser", "putLacking", "(LNumberDress$Code;IIILNumberDress$Look;)V"⟩ : MethodName)).cls ≠ "java/lang/invoke/VarHandle" ∧ (parseMethodDescriptor ((⟨"NumberDress$FractionDresser", "putLacking", "(LNumberDress$Code;IIILNumberDress$Look;)V"⟩ : MethodName)).desc).map (fun d => d.parameters.length) = some 5) := by decide +kernel
set_option maxHeartbeats 4000000 in
set_option maxRecDepth 100000 in
theorem m_FractionDresser_putLacking (l : Launch) (dC : Nat → ClassId) (dI : Nat → Nat → Nat) {gE : zG} {h0 : Nat} {a0_0 : Nat} {a0_1 : Nat} {h1 : Nat} {a1_0 : Nat} {a1_2 : Nat} {h2 : Nat} {cA2 : ClassId} {h3 : Nat} {h4 : Nat} {cA4 : ClassId} {J0 : Nat → Int64} {I1 : Nat → Int32} {n2 : Nat} {f2 : Nat → Int32} {I3 : Nat → Int32} {n4 : Nat} {f4 : Nat → Int32} {x2 : Int32} {x3 : Int32} {x4 : Int32} {sz : Nat} {Z : (Nat → Int32) × Nat × (Nat → Int32) → Prop} {NF : Nat} (hNF : n4 ≤ NF) (hv : v_FractionDresser_putLacking_0 J0 I1 n2 f2 I3 n4 f4 x2 x3 x4 NF Z) : Met l (⟨"NumberDress$FractionDresser", "putLacking", "(LNumberDress$Code;IIILNumberDress$Look;)V"⟩ : MethodName) (Cond.code (⟨"NumberDress$FractionDresser", "putLacking", "(LNumberDress$Code;IIILNumberDress$Look;)V"⟩ : MethodName) prog_6_method_8_code 7 none :: zT) { frames := 2, cells := 2 * NF - 2 * n4, slots := 2 * NF - 2 * n4, locals := 62 } (zPc gE (dC, dI) zCl [(cA2, .int), (cA4, .char)] [.ref h0, .ref h1, .int x2, .int x3, .int x4, .ref h3] sz [(h0, .inr (5, o_FractionDresser J0 a0_0 a0_1)), (h1, .inr (1, o_Code I1 a1_0 a1_2 h2)), (h2, .inl (cA2, n2, .inl f2)), (h3, .inr (6, o_Look I3 h4)), (h4, .inl (cA4, n4, .inl f4))]) (va_Qv (fun u : (Nat → Int32) × Nat × (Nat → Int32) => u.2.1 = NF ∧ Z u) (fun (u : (Nat → Int32) × Nat × (Nat → Int32)) t => ∃ (b9 : Nat) (k9 : ClassId), va_P (dC, dI) zCl [(h0, .inr (5, o_FractionDresser J0 a0_0 a0_1)), (h1, .inr (1, o_Code I1 a1_0 a1_2 h2)), (h2, .inl (cA2, n2, .inl f2)), (h3, .inr (6, o_Look u.1 b9)), (b9, .inl (k9, u.2.1, .inl u.2.2))] t.heap ∧ va_K (dC, dI) zCl [(cA2, .int), (k9, .char)] t ∧ va_D (va_A [(h0, .inr (5, o_FractionDresser J0 a0_0 a0_1)), (h1, .inr (1, o_Code I1 a1_0 a1_2 h2)), (h2, .inl (cA2, n2, .inl f2)), (h3, .inr (6, o_Look I3 h4)), (h4, .inl (cA4, n4, .inl f4))] sz) [(h0, .inr (5, o_FractionDresser J0 a0_0 a0_1)), (h1, .inr (1, o_Code I1 a1_0 a1_2 h2)), (h2, .inl (cA2, n2, .inl f2)), (h3, .inr (6, o_Look u.1 b9)), (b9, .inl (k9, u.2.1, .inl u.2.2))]) (va_A [(h0, .inr (5, o_FractionDresser J0 a0_0 a0_1)), (h1, .inr (1, o_Code I1 a1_0 a1_2 h2)), (h2, .inl (cA2, n2, .inl f2)), (h3, .inr (6, o_Look I3 h4)), (h4, .inl (cA4, n4, .inl f4))] sz)) (2 * NF - 2 * n4) (2 * NF - 2 * n4) (va_A [(h0, .inr (5, o_FractionDresser J0 a0_0 a0_1)), (h1, .inr (1, o_Code I1 a1_0 a1_2 h2)), (h2, .inl (cA2, n2, .inl f2)), (h3, .inr (6, o_Look I3 h4)), (h4, .inl (cA4, n4, .inl f4))] sz) := by
  refine Met.ofW (cc := prog_6_method_8_code) (maxL := 7) (ret := none) (by decide +kernel) rfl ?_
  intro p e s m args below meth c s₁ B hml hp
  obtain ⟨rfl, hsz, hP, hK, hD0, hE⟩ := hp
  have hts := atoms_spec (ws := (Cond.code (⟨"NumberDress$FractionDresser", "putLacking", "(LNumberDress$Code;IIILNumberDress$Look;)V"⟩ : MethodName) prog_6_method_8_code 7 none :: zT)) B.pre
  have hown : s.vm.findClass "NumberDress$FractionDresser" = some m.cls := findClass_of_methodNamed B.named
  have hc : zC p s m _ meth c prog_6_method_8_code none 7 "NumberDress$FractionDresser" := ⟨B.exec, B.bytes, B.returns, hml, hown, fun w h => hts w (List.mem_cons_of_mem _ h), B.notSynchronized⟩
  subst hsz
  have hD := hD0.self (sz := s.heap.size)
  generalize hAe : va_A [(h0, .inr (5, o_FractionDresser J0 a0_0 a0_1)), (h1, .inr (1, o_Code I1 a1_0 a1_2 h2)), (h2, .inl (cA2, n2, .inl f2)), (h3, .inr (6, o_Look I3 h4)), (h4, .inl (cA4, n4, .inl f4))] s.heap.size = A at hD hE ⊢
  have hA : ∀ q : Nat, s.heap.size ≤ q → A q := fun q h => by rw [← hAe]; exact Or.inr h
  have hl := lv_entry ([.ref h0, .ref h1, .int x2, .int x3, .int x4, .ref h3]) (n := 7) (Nat.le_of_ble_eq_true rfl)
  rw [lg_entry_eq]
  refine W.widen (k := 2 * n4 - 2 * n4) (n := 2 * n4 - 2 * n4) (Nat.zero_le _) (Nat.zero_le _) ?_
  exact b_FractionDresser_putLacking_0 hc hA hE hl hK hP hD va_S.rf ⟨Nat.le_refl _, hNF⟩ hv
theorem d_FractionDresser_putUnder_0 : decode prog_6_method_7_code 0 = .ok (.aload_n 2, 1) := by decide +kernel
theorem d_FractionDresser_putUnder_1 : decode prog_6_method_7_code 1 = .ok (.getfield 83, 3) := by decide +kernel
theorem d_FractionDresser_putUnder_4 : decode prog_6_method_7_code 4 = .ok (.aload_n 0, 1) := by decide +kernel
theorem d_FractionDresser_putUnder_5 : decode prog_6_method_7_code 5 = .ok (.getfield 55, 3) := by decide +kernel
theorem d_FractionDresser_putUnder_8 : decode prog_6_method_7_code 8 = .ok (.invokestatic 127, 3) := by decide +kernel
theorem d_FractionDresser_putUnder_11 : decode prog_6_method_7_code 11 = .ok (.isub, 1) := by decide +kernel
theorem d_FractionDresser_putUnder_12 : decode prog_6_method_7_code 12 = .ok (.istore 5, 2) := by decide +kernel
theorem d_FractionDresser_putUnder_14 : decode prog_6_method_7_code 14 = .ok (.aload_n 0, 1) := by decide +kernel
theorem d_FractionDresser_putUnder_15 : decode prog_6_method_7_code 15 = .ok (.aload_n 1, 1) := by decide +kernel
theorem d_FractionDresser_putUnder_16 : decode prog_6_method_7_code 16 = .ok (.iload_n 3, 1) := by decide +kernel
theorem d_FractionDresser_putUnder_17 : decode prog_6_method_7_code 17 = .ok (.iload 5, 2) := by decide +kernel
theorem d_FractionDresser_putUnder_19 : decode prog_6_method_7_code 19 = .ok (.bipush 48, 2) := by decide +kernel
theorem d_FractionDresser_putUnder_21 : decode prog_6_method_7_code 21 = .ok (.aload 4, 2) := by decide +kernel
theorem d_FractionDresser_putUnder_23 : decode prog_6_method_7_code 23 = .ok (.invokevirtual 131, 3) := by decide +kernel
theorem d_FractionDresser_putUnder_26 : decode prog_6_method_7_code 26 = .ok (.aload 4, 2) := by decide +kernel
theorem d_FractionDresser_putUnder_28 : decode prog_6_method_7_code 28 = .ok (.aload_n 0, 1) := by decide +kernel
theorem d_FractionDresser_putUnder_29 : decode prog_6_method_7_code 29 = .ok (.getfield 55, 3) := by decide +kernel
theorem d_FractionDresser_putUnder_32 : decode prog_6_method_7_code 32 = .ok (.iconst 1, 1) := by decide +kernel
theorem d_FractionDresser_putUnder_33 : decode prog_6_method_7_code 33 = .ok (.invokevirtual 135, 3) := by decide +kernel
theorem d_FractionDresser_putUnder_36 : decode prog_6_method_7_code 36 = .ok (.aload_n 0, 1) := by decide +kernel
theorem d_FractionDresser_putUnder_37 : decode prog_6_method_7_code 37 = .ok (.aload_n 1, 1) := by decide +kernel
theorem d_FractionDresser_putUnder_38 : decode prog_6_method_7_code 38 = .ok (.iload_n 3, 1) := by decide +kernel
theorem d_FractionDresser_putUnder_39 : decode prog_6_method_7_code 39 = .ok (.iload 5, 2) := by decide +kernel
theorem d_FractionDresser_putUnder_41 : decode prog_6_method_7_code 41 = .ok (.bipush 63, 2) := by decide +kernel
theorem d_FractionDresser_putUnder_43 : decode prog_6_method_7_code 43 = .ok (.aload 4, 2) := by decide +kernel
theorem d_FractionDresser_putUnder_45 : decode prog_6_method_7_code 45 = .ok (.invokevirtual 131, 3) := by decide +kernel
theorem d_FractionDresser_putUnder_48 : decode prog_6_method_7_code 48 = .ok (.return_, 1) := by decide +kernel
set_option maxHeartbeats 4000000 in
set_option maxRecDepth 100000 in
theorem b_FractionDresser_putUnder_48 {h0 : Nat} {a0_0 : Nat} {a0_1 : Nat} {h1 : Nat} {h2 : Nat} {a2_0 : Nat} {a2_2 : Nat} {h3 : Nat} {cA3 : ClassId} {h4 : Nat} {h5 : Nat} {cA5 : ClassId} {J0 : Nat → Int64} {I1 : Nat → Int32} {I2 : Nat → Int32} {n3 : Nat} {f3 : Nat → Int32} {I4 : Nat → Int32} {n5 : Nat} {f5 : Nat → Int32}  {N0 NF : Nat} {Z : (Nat → Int32) × Nat × (Nat → Int32) → Prop} {H : Heap} {locs : List Loc} {ls : Array Slot} (hc : zC p s m args meth c prog_6_method_7_code none 6 "NumberDress$FractionDresser") (hA : ∀ q : Nat, s.heap.size ≤ q → A q) (hE : zE gE A s) (hl : lv_has ls 6 []) (hK : va_K (dC, dI) zCl [(cA3, .int), (cA5, .char)] s) (hP : va_P (dC, dI) zCl [(h0, .inr (5, o_FractionDresser J0 a0_0 a0_1)), (h1, .inr (9, o_Section I1)), (h2, .inr (1, o_Code I2 a2_0 a2_2 h3)), (h3, .inl (cA3, n3, .inl f3)), (h4, .inr (6, o_Look I4 h5)), (h5, .inl (cA5, n5, .inl f5))] H) (hD : va_D A [(h0, .inr (5, o_FractionDresser J0 a0_0 a0_1)), (h1, .inr (9, o_Section I1)), (h2, .inr (1, o_Code I2 a2_0 a2_2 h3)), (h3, .inl (cA3, n3, .inl f3)), (h4, .inr (6, o_Look I4 h5)), (h5, .inl (cA5, n5, .inl f5))]) (hS : va_S A s.heap H locs) (hN : N0 ≤ n5 ∧ n5 ≤ NF) (hv : v_FractionDresser_putUnder_48 J0 I1 I2 n3 f3 I4 n5 f5  NF Z) : W p l e (headSpec (Cond.code (⟨"NumberDress$FractionDresser", "putUnder", "(LNumberDress$Code;LNumberDress$Section;ILNumberDress$Look;)V"⟩ : MethodName) prog_6_method_7_code 6 none :: zT) { frames := 3, cells := 2 * NF - 2 * N0, slots := 2 * NF - 2 * N0, locals := 88 }).room s m args below meth c H locs (2 * n5 - 2 * N0) (2 * n5 - 2 * N0) (MQ below (va_Qv (fun u : (Nat → Int32) × Nat × (Nat → Int32) => u.2.1 = NF ∧ Z u) (fun (u : (Nat → Int32) × Nat × (Nat → Int32)) t => ∃ (b9 : Nat) (k9 : ClassId), va_P (dC, dI) zCl [(h0, .inr (5, o_FractionDresser J0 a0_0 a0_1)), (h1, .inr (9, o_Section I1)), (h2, .inr (1, o_Code I2 a2_0 a2_2 h3)), (h3, .inl (cA3, n3, .inl f3)), (h4, .inr (6, o_Look u.1 b9)), (b9, .inl (k9, u.2.1, .inl u.2.2))] t.heap ∧ va_K (dC, dI) zCl [(cA3, .int), (k9, .char)] t ∧ va_D A [(h0, .inr (5, o_FractionDresser J0 a0_0 a0_1)), (h1, .inr (9, o_Section I1)), (h2, .inr (1, o_Code I2 a2_0 a2_2 h3)), (h3, .inl (cA3, n3, .inl f3)), (h4, .inr (6, o_Look u.1 b9)), (b9, .inl (k9, u.2.1, .inl u.2.2))]) A) args s (2 * NF - 2 * N0) (2 * NF - 2 * N0) A) (F0 m 48 ls []) := by
  obtain ⟨hx, hb, hr, hml, hown, ht, hlocks⟩ := id hc
  unfold v_FractionDresser_putUnder_48 at hv
  obtain ⟨rfl, hz⟩ := hv
  exact W.vret hx hb hr (fun t ht hW => ⟨⟨(I4, n5, f5), rfl, ⟨rfl, hz⟩, ⟨h5, cA5, by rw [ht]; exact hP, va_K.moved hW.alike hK, hD⟩⟩, hS.F ht⟩) hS.2.2 d_FractionDresser_putUnder_48
set_option maxHeartbeats 4000000 in
set_option maxRecDepth 100000 in
theorem b_FractionDresser_putUnder_36 {h0 : Nat} {a0_0 : Nat} {a0_1 : Nat} {h1 : Nat} {h2 : Nat} {a2_0 : Nat} {a2_2 : Nat} {h3 : Nat} {cA3 : ClassId} {h4 : Nat} {h5 : Nat} {cA5 : ClassId} {J0 : Nat → Int64} {I1 : Nat → Int32} {I2 : Nat → Int32} {n3 : Nat} {f3 : Nat → Int32} {I4 : Nat → Int32} {n5 : Nat} {f5 : Nat → Int32} {x3 : Int32} {x5 : Int32}  {N0 NF : Nat} {Z : (Nat → Int32) × Nat × (Nat → Int32) → Prop} {H : Heap} {locs : List Loc} {ls : Array Slot} (hc : zC p s m args meth c prog_6_method_7_code none 6 "NumberDress$FractionDresser") (hA : ∀ q : Nat, s.heap.size ≤ q → A q) (hE : zE gE A s) (hl : lv_has ls 6 [(0, .ref h0), (1, .ref h2), (3, .int x3), (4, .ref h4), (5, .int x5)]) (hK : va_K (dC, dI) zCl [(cA3, .int), (cA5, .char)] s) (hP : va_P (dC, dI) zCl [(h0, .inr (5, o_FractionDresser J0 a0_0 a0_1)), (h1, .inr (9, o_Section I1)), (h2, .inr (1, o_Code I2 a2_0 a2_2 h3)), (h3, .inl (cA3, n3, .inl f3)), (h4, .inr (6, o_Look I4 h5)), (h5, .inl (cA5, n5, .inl f5))] H) (hD : va_D A [(h0, .inr (5, o_FractionDresser J0 a0_0 a0_1)), (h1, .inr (9, o_Section I1)), (h2, .inr (1, o_Code I2 a2_0 a2_2 h3)), (h3, .inl (cA3, n3, .inl f3)), (h4, .inr (6, o_Look I4 h5)), (h5, .inl (cA5, n5, .inl f5))]) (hS : va_S A s.heap H locs) (hN : N0 ≤ n5 ∧ n5 ≤ NF) (hv : v_FractionDresser_putUnder_36 J0 I1 I2 n3 f3 I4 n5 f5 x3 x5  NF Z) : W p l e (headSpec (Cond.code (⟨"NumberDress$FractionDresser", "putUnder", "(LNumberDress$Code;LNumberDress$Section;ILNumberDress$Look;)V"⟩ : MethodName) prog_6_method_7_code 6 none :: zT) { frames := 3, cells := 2 * NF - 2 * N0, slots := 2 * NF - 2 * N0, locals := 88 }).room s m args below meth c H locs (2 * n5 - 2 * N0) (2 * n5 - 2 * N0) (MQ below (va_Qv (fun u : (Nat → Int32) × Nat × (Nat → Int32) => u.2.1 = NF ∧ Z u) (fun (u : (Nat → Int32) × Nat × (Nat → Int32)) t => ∃ (b9 : Nat) (k9 : ClassId), va_P (dC, dI) zCl [(h0, .inr (5, o_FractionDresser J0 a0_0 a0_1)), (h1, .inr (9, o_Section I1)), (h2, .inr (1, o_Code I2 a2_0 a2_2 h3)), (h3, .inl (cA3, n3, .inl f3)), (h4, .inr (6, o_Look u.1 b9)), (b9, .inl (k9, u.2.1, .inl u.2.2))] t.heap ∧ va_K (dC, dI) zCl [(cA3, .int), (k9, .char)] t ∧ va_D A [(h0, .inr (5, o_FractionDresser J0 a0_0 a0_1)), (h1, .inr (9, o_Section I1)), (h2, .inr (1, o_Code I2 a2_0 a2_2 h3)), (h3, .inl (cA3, n3, .inl f3)), (h4, .inr (6, o_Look u.1 b9)), (b9, .inl (k9, u.2.1, .inl u.2.2))]) A) args s (2 * NF - 2 * N0) (2 * NF - 2 * N0) A) (F0 m 36 ls []) := by
  obtain ⟨hx, hb, hr, hml, hown, ht, hlocks⟩ := id hc
  unfold v_FractionDresser_putUnder_36 at hv
  refine lv_aload_n hx hb d_FractionDresser_putUnder_36 rfl (lv_at hl 0 rfl) ?_
  refine lv_aload_n hx hb d_FractionDresser_putUnder_37 rfl (lv_at hl 1 rfl) ?_
  refine lv_iload_n hx hb d_FractionDresser_putUnder_38 rfl (lv_at hl 2 rfl) ?_
  refine lv_iload hx hb d_FractionDresser_putUnder_39 (lv_at hl 4 rfl) ?_
  refine lv_bipush (v := (63 : Int32)) hx hb d_FractionDresser_putUnder_41 (by decide) ?_
  refine lv_aload hx hb d_FractionDresser_putUnder_43 (lv_at hl 3 rfl) ?_
  obtain ⟨Nc, hn1, hn2, hv⟩ := hv
  refine z_callvx (wc := [(h0, .inr (5, o_FractionDresser J0 a0_0 a0_1)), (h2, .inr (1, o_Code I2 a2_0 a2_2 h3)), (h3, .inl (cA3, n3, .inl f3)), (h4, .inr (6, o_Look I4 h5)), (h5, .inl (cA5, n5, .inl f5))]) (wr := [(h1, .inr (9, o_Section I1))]) [0, 2, 3, 4, 5] [1] [] (va_runV (As := [.ref h2, .int x3, .int x5, .int (63 : Int32), .ref h4]) (rest := []) ⟨hx, hb, hml, hown, ht⟩ (m_FractionDresser_putLacking l dC dI hn1 hv) ⟨(callB_of 5 ht (zG_in zi_FractionDresser_putLacking) rfl rfl rfl (ht _ zw_118) (ht _ zw_1036) zh_FractionDresser_putLacking ⟨Nat.le_of_ble_eq_true rfl, Nat.le_of_ble_eq_true rfl⟩), (ht _ zw_1038), (ht _ zw_50)⟩ ⟨zPc_blind, va_recv hK hP (ci := 5) (q0 := 0) rfl rfl, zPc_pre hP hK hD hS hA hE [0, 2, 3, 4, 5] [0, 1] rfl rfl (by decide) rfl⟩ rfl rfl hl.1 rfl (lv_room (Nat.le_of_ble_eq_true rfl)) d_FractionDresser_putUnder_45 ⟨by show _ ≤ 2 * NF - 2 * N0; omega, by show _ ≤ 2 * NF - 2 * N0; omega⟩) hK hP hD hS hA rfl rfl rfl (by decide) (by decide) (fun u b kb H locs hv hK hP hD hS => ?_)
  obtain ⟨en, hv⟩ := hv
  have hP : va_P (dC, dI) zCl [(h0, .inr (5, o_FractionDresser J0 a0_0 a0_1)), (h1, .inr (9, o_Section I1)), (h2, .inr (1, o_Code I2 a2_0 a2_2 h3)), (h3, .inl (cA3, n3, .inl f3)), (h4, .inr (6, o_Look u.1 b)), (b, .inl (kb, u.2.1, .inl u.2.2))] H := hP.sub [1, 0, 2, 3, 4, 5] rfl
  have hD : va_D A [(h0, .inr (5, o_FractionDresser J0 a0_0 a0_1)), (h1, .inr (9, o_Section I1)), (h2, .inr (1, o_Code I2 a2_0 a2_2 h3)), (h3, .inl (cA3, n3, .inl f3)), (h4, .inr (6, o_Look u.1 b)), (b, .inl (kb, u.2.1, .inl u.2.2))] := hD.sub [1, 0, 2, 3, 4, 5] (by decide) rfl
  have hK : va_K (dC, dI) zCl [(cA3, .int), (kb, .char)] s := hK.sub [0, 1] rfl
  have hN : N0 ≤ u.2.1 ∧ u.2.1 ≤ NF := by rw [en]; omega
  refine W.widen (k := 2 * u.2.1 - 2 * N0) (n := 2 * u.2.1 - 2 * N0) (by rw [en]; omega) (by rw [en]; omega) ?_
  exact b_FractionDresser_putUnder_48 hc hA hE  (lv_sub hl [] rfl) hK hP hD hS hN hv
set_option maxHeartbeats 4000000 in
set_option maxRecDepth 100000 in
theorem b_FractionDresser_putUnder_26 {h0 : Nat} {a0_0 : Nat} {a0_1 : Nat} {h1 : Nat} {h2 : Nat} {a2_0 : Nat} {a2_2 : Nat} {h3 : Nat} {cA3 : ClassId} {h4 : Nat} {h5 : Nat} {cA5 : ClassId} {J0 : Nat → Int64} {I1 : Nat → Int32} {I2 : Nat → Int32} {n3 : Nat} {f3 : Nat → Int32} {I4 : Nat → Int32} {n5 : Nat} {f5 : Nat → Int32} {x3 : Int32} {x5 : Int32}  {N0 NF : Nat} {Z : (Nat → Int32) × Nat × (Nat → Int32) → Prop} {H : Heap} {locs : List Loc} {ls : Array Slot} (hc : zC p s m args meth c prog_6_method_7_code none 6 "NumberDress$FractionDresser") (hA : ∀ q : Nat, s.heap.size ≤ q → A q) (hE : zE gE A s) (hl : lv_has ls 6 [(0, .ref h0), (1, .ref h2), (3, .int x3), (4, .ref h4), (5, .int x5)]) (hK : va_K (dC, dI) zCl [(cA3, .int), (cA5, .char)] s) (hP : va_P (dC, dI) zCl [(h0, .inr (5, o_FractionDresser J0 a0_0 a0_1)), (h1, .inr (9, o_Section I1)), (h2, .inr (1, o_Code I2 a2_0 a2_2 h3)), (h3, .inl (cA3, n3, .inl f3)), (h4, .inr (6, o_Look I4 h5)), (h5, .inl (cA5, n5, .inl f5))] H) (hD : va_D A [(h0, .inr (5, o_FractionDresser J0 a0_0 a0_1)), (h1, .inr (9, o_Section I1)), (h2, .inr (1, o_Code I2 a2_0 a2_2 h3)), (h3, .inl (cA3, n3, .inl f3)), (h4, .inr (6, o_Look I4 h5)), (h5, .inl (cA5, n5, .inl f5))]) (hS : va_S A s.heap H locs) (hN : N0 ≤ n5 ∧ n5 ≤ NF) (hv : v_FractionDresser_putUnder_26 J0 I1 I2 n3 f3 I4 n5 f5 x3 x5  NF Z) : W p l e (headSpec (Cond.code (⟨"NumberDress$FractionDresser", "putUnder", "(LNumberDress$Code;LNumberDress$Section;ILNumberDress$Look;)V"⟩ : MethodName) prog_6_method_7_code 6 none :: zT) { frames := 3, cells := 2 * NF - 2 * N0, slots := 2 * NF - 2 * N0, locals := 88 }).room s m args below meth c H locs (2 * n5 - 2 * N0) (2 * n5 - 2 * N0) (MQ below (va_Qv (fun u : (Nat → Int32) × Nat × (Nat → Int32) => u.2.1 = NF ∧ Z u) (fun (u : (Nat → Int32) × Nat × (Nat → Int32)) t => ∃ (b9 : Nat) (k9 : ClassId), va_P (dC, dI) zCl [(h0, .inr (5, o_FractionDresser J0 a0_0 a0_1)), (h1, .inr (9, o_Section I1)), (h2, .inr (1, o_Code I2 a2_0 a2_2 h3)), (h3, .inl (cA3, n3, .inl f3)), (h4, .inr (6, o_Look u.1 b9)), (b9, .inl (k9, u.2.1, .inl u.2.2))] t.heap ∧ va_K (dC, dI) zCl [(cA3, .int), (k9, .char)] t ∧ va_D A [(h0, .inr (5, o_FractionDresser J0 a0_0 a0_1)), (h1, .inr (9, o_Section I1)), (h2, .inr (1, o_Code I2 a2_0 a2_2 h3)), (h3, .inl (cA3, n3, .inl f3)), (h4, .inr (6, o_Look u.1 b9)), (b9, .inl (k9, u.2.1, .inl u.2.2))]) A) args s (2 * NF - 2 * N0) (2 * NF - 2 * N0) A) (F0 m 26 ls []) := by
  obtain ⟨hx, hb, hr, hml, hown, ht, hlocks⟩ := id hc
  unfold v_FractionDresser_putUnder_26 at hv
  refine lv_aload hx hb d_FractionDresser_putUnder_26 (lv_at hl 3 rfl) ?_
  refine lv_aload_n hx hb d_FractionDresser_putUnder_28 rfl (lv_at hl 0 rfl) ?_
  refine va_get (D := (dC, dI)) (ci := 5) (v := .long (J0 3)) (C := "NumberDress$FractionDresser") (T := T_FractionDresser) (N := 5) hx hb ht zin_FractionDresser hown hK hP 0 rfl rfl 3 (by decide) (ht _ zw_396) (fun _ h9 => h9) rfl d_FractionDresser_putUnder_29 ?_
  refine lv_iconst (v := (1 : Int32)) hx hb d_FractionDresser_putUnder_32 (by decide) ?_
  obtain ⟨Nc, hn1, hn2, hv⟩ := hv
  refine z_callvx (wc := [(h4, .inr (6, o_Look I4 h5)), (h5, .inl (cA5, n5, .inl f5))]) (wr := [(h0, .inr (5, o_FractionDresser J0 a0_0 a0_1)), (h1, .inr (9, o_Section I1)), (h2, .inr (1, o_Code I2 a2_0 a2_2 h3)), (h3, .inl (cA3, n3, .inl f3))]) [4, 5] [0, 1, 2, 3] [0] (va_runV (As := [.long (J0 3), .int (1 : Int32)]) (rest := []) ⟨hx, hb, hml, hown, ht⟩ (m_Look_putNumber l dC dI hn1 hv) ⟨(callB_of 2 ht (zG_in zi_Look_putNumber) rfl rfl rfl (ht _ zw_121) (ht _ zw_1040) zh_Look_putNumber ⟨Nat.le_of_ble_eq_true rfl, Nat.le_of_ble_eq_true rfl⟩), (ht _ zw_894), (ht _ zw_895)⟩ ⟨zPc_blind, va_recv hK hP (ci := 6) (q0 := 4) rfl rfl, zPc_pre hP hK hD hS hA hE [4, 5] [1] rfl rfl (by decide) rfl⟩ rfl rfl hl.1 rfl (lv_room (Nat.le_of_ble_eq_true rfl)) d_FractionDresser_putUnder_33 ⟨by show _ ≤ 2 * NF - 2 * N0; omega, by show _ ≤ 2 * NF - 2 * N0; omega⟩) hK hP hD hS hA rfl rfl rfl (by decide) (by decide) (fun u b kb H locs hv hK hP hD hS => ?_)
  obtain ⟨en, hv⟩ := hv
  have hP : va_P (dC, dI) zCl [(h0, .inr (5, o_FractionDresser J0 a0_0 a0_1)), (h1, .inr (9, o_Section I1)), (h2, .inr (1, o_Code I2 a2_0 a2_2 h3)), (h3, .inl (cA3, n3, .inl f3)), (h4, .inr (6, o_Look u.1 b)), (b, .inl (kb, u.2.1, .inl u.2.2))] H := hP.sub [0, 1, 2, 3, 4, 5] rfl
  have hD : va_D A [(h0, .inr (5, o_FractionDresser J0 a0_0 a0_1)), (h1, .inr (9, o_Section I1)), (h2, .inr (1, o_Code I2 a2_0 a2_2 h3)), (h3, .inl (cA3, n3, .inl f3)), (h4, .inr (6, o_Look u.1 b)), (b, .inl (kb, u.2.1, .inl u.2.2))] := hD.sub [0, 1, 2, 3, 4, 5] (by decide) rfl
  have hK : va_K (dC, dI) zCl [(cA3, .int), (kb, .char)] s := hK.sub [0, 1] rfl
  have hN : N0 ≤ u.2.1 ∧ u.2.1 ≤ NF := by rw [en]; omega
  refine W.widen (k := 2 * u.2.1 - 2 * N0) (n := 2 * u.2.1 - 2 * N0) (by rw [en]; omega) (by rw [en]; omega) ?_
  exact b_FractionDresser_putUnder_36 hc hA hE  (lv_sub hl [0, 1, 2, 3, 4] rfl) hK hP hD hS hN hv
set_option maxHeartbeats 4000000 in
set_option maxRecDepth 100000 in
theorem b_FractionDresser_putUnder_11 {h0 : Nat} {a0_0 : Nat} {a0_1 : Nat} {h1 : Nat} {h2 : Nat} {a2_0 : Nat} {a2_2 : Nat} {h3 : Nat} {cA3 : ClassId} {h4 : Nat} {h5 : Nat} {cA5 : ClassId} {J0 : Nat → Int64} {I1 : Nat → Int32} {I2 : Nat → Int32} {n3 : Nat} {f3 : Nat → Int32} {I4 : Nat → Int32} {n5 : Nat} {f5 : Nat → Int32} {x3 : Int32} {s0 : Int32} {s1 : Int32}  {N0 NF : Nat} {Z : (Nat → Int32) × Nat × (Nat → Int32) → Prop} {H : Heap} {locs : List Loc} {ls : Array Slot} (hc : zC p s m args meth c prog_6_method_7_code none 6 "NumberDress$FractionDresser") (hA : ∀ q : Nat, s.heap.size ≤ q → A q) (hE : zE gE A s) (hl : lv_has ls 6 [(0, .ref h0), (1, .ref h2), (3, .int x3), (4, .ref h4)]) (hK : va_K (dC, dI) zCl [(cA3, .int), (cA5, .char)] s) (hP : va_P (dC, dI) zCl [(h0, .inr (5, o_FractionDresser J0 a0_0 a0_1)), (h1, .inr (9, o_Section I1)), (h2, .inr (1, o_Code I2 a2_0 a2_2 h3)), (h3, .inl (cA3, n3, .inl f3)), (h4, .inr (6, o_Look I4 h5)), (h5, .inl (cA5, n5, .inl f5))] H) (hD : va_D A [(h0, .inr (5, o_FractionDresser J0 a0_0 a0_1)), (h1, .inr (9, o_Section I1)), (h2, .inr (1, o_Code I2 a2_0 a2_2 h3)), (h3, .inl (cA3, n3, .inl f3)), (h4, .inr (6, o_Look I4 h5)), (h5, .inl (cA5, n5, .inl f5))]) (hS : va_S A s.heap H locs) (hN : N0 ≤ n5 ∧ n5 ≤ NF) (hv : v_FractionDresser_putUnder_11 J0 I1 I2 n3 f3 I4 n5 f5 x3 s0 s1  NF Z) : W p l e (headSpec (Cond.code (⟨"NumberDress$FractionDresser", "putUnder", "(LNumberDress$Code;LNumberDress$Section;ILNumberDress$Look;)V"⟩ : MethodName) prog_6_method_7_code 6 none :: zT) { frames := 3, cells := 2 * NF - 2 * N0, slots := 2 * NF - 2 * N0, locals := 88 }).room s m args below meth c H locs (2 * n5 - 2 * N0) (2 * n5 - 2 * N0) (MQ below (va_Qv (fun u : (Nat → Int32) × Nat × (Nat → Int32) => u.2.1 = NF ∧ Z u) (fun (u : (Nat → Int32) × Nat × (Nat → Int32)) t => ∃ (b9 : Nat) (k9 : ClassId), va_P (dC, dI) zCl [(h0, .inr (5, o_FractionDresser J0 a0_0 a0_1)), (h1, .inr (9, o_Section I1)), (h2, .inr (1, o_Code I2 a2_0 a2_2 h3)), (h3, .inl (cA3, n3, .inl f3)), (h4, .inr (6, o_Look u.1 b9)), (b9, .inl (k9, u.2.1, .inl u.2.2))] t.heap ∧ va_K (dC, dI) zCl [(cA3, .int), (k9, .char)] t ∧ va_D A [(h0, .inr (5, o_FractionDresser J0 a0_0 a0_1)), (h1, .inr (9, o_Section I1)), (h2, .inr (1, o_Code I2 a2_0 a2_2 h3)), (h3, .inl (cA3, n3, .inl f3)), (h4, .inr (6, o_Look u.1 b9)), (b9, .inl (k9, u.2.1, .inl u.2.2))]) A) args s (2 * NF - 2 * N0) (2 * NF - 2 * N0) A) (F0 m 11 ls [.int s1, .int s0]) := by
  obtain ⟨hx, hb, hr, hml, hown, ht, hlocks⟩ := id hc
  unfold v_FractionDresser_putUnder_11 at hv
  refine lv_isub hx hb d_FractionDresser_putUnder_11 ?_
  refine lv_istore (lv' := [(5, .int (s0 - s1)), (0, .ref h0), (1, .ref h2), (3, .int x3), (4, .ref h4)]) hx hb d_FractionDresser_putUnder_12 hl (by decide) rfl (fun ls hl => ?_)
  refine lv_aload_n hx hb d_FractionDresser_putUnder_14 rfl (lv_at hl 1 rfl) ?_
  refine lv_aload_n hx hb d_FractionDresser_putUnder_15 rfl (lv_at hl 2 rfl) ?_
  refine lv_iload_n hx hb d_FractionDresser_putUnder_16 rfl (lv_at hl 3 rfl) ?_
  refine lv_iload hx hb d_FractionDresser_putUnder_17 (lv_at hl 0 rfl) ?_
  refine lv_bipush (v := (48 : Int32)) hx hb d_FractionDresser_putUnder_19 (by decide) ?_
  refine lv_aload hx hb d_FractionDresser_putUnder_21 (lv_at hl 4 rfl) ?_
  obtain ⟨Nc, hn1, hn2, hv⟩ := hv
  refine z_callvx (wc := [(h0, .inr (5, o_FractionDresser J0 a0_0 a0_1)), (h2, .inr (1, o_Code I2 a2_0 a2_2 h3)), (h3, .inl (cA3, n3, .inl f3)), (h4, .inr (6, o_Look I4 h5)), (h5, .inl (cA5, n5, .inl f5))]) (wr := [(h1, .inr (9, o_Section I1))]) [0, 2, 3, 4, 5] [1] [] (va_runV (As := [.ref h2, .int x3, .int (s0 - s1), .int (48 : Int32), .ref h4]) (rest := []) ⟨hx, hb, hml, hown, ht⟩ (m_FractionDresser_putLacking l dC dI hn1 hv) ⟨(callB_of 5 ht (zG_in zi_FractionDresser_putLacking) rfl rfl rfl (ht _ zw_118) (ht _ zw_1036) zh_FractionDresser_putLacking ⟨Nat.le_of_ble_eq_true rfl, Nat.le_of_ble_eq_true rfl⟩), (ht _ zw_1038), (ht _ zw_50)⟩ ⟨zPc_blind, va_recv hK hP (ci := 5) (q0 := 0) rfl rfl, zPc_pre hP hK hD hS hA hE [0, 2, 3, 4, 5] [0, 1] rfl rfl (by decide) rfl⟩ rfl rfl hl.1 rfl (lv_room (Nat.le_of_ble_eq_true rfl)) d_FractionDresser_putUnder_23 ⟨by show _ ≤ 2 * NF - 2 * N0; omega, by show _ ≤ 2 * NF - 2 * N0; omega⟩) hK hP hD hS hA rfl rfl rfl (by decide) (by decide) (fun u b kb H locs hv hK hP hD hS => ?_)
  obtain ⟨en, hv⟩ := hv
  have hP : va_P (dC, dI) zCl [(h0, .inr (5, o_FractionDresser J0 a0_0 a0_1)), (h1, .inr (9, o_Section I1)), (h2, .inr (1, o_Code I2 a2_0 a2_2 h3)), (h3, .inl (cA3, n3, .inl f3)), (h4, .inr (6, o_Look u.1 b)), (b, .inl (kb, u.2.1, .inl u.2.2))] H := hP.sub [1, 0, 2, 3, 4, 5] rfl
  have hD : va_D A [(h0, .inr (5, o_FractionDresser J0 a0_0 a0_1)), (h1, .inr (9, o_Section I1)), (h2, .inr (1, o_Code I2 a2_0 a2_2 h3)), (h3, .inl (cA3, n3, .inl f3)), (h4, .inr (6, o_Look u.1 b)), (b, .inl (kb, u.2.1, .inl u.2.2))] := hD.sub [1, 0, 2, 3, 4, 5] (by decide) rfl
  have hK : va_K (dC, dI) zCl [(cA3, .int), (kb, .char)] s := hK.sub [0, 1] rfl
  have hN : N0 ≤ u.2.1 ∧ u.2.1 ≤ NF := by rw [en]; omega
  refine W.widen (k := 2 * u.2.1 - 2 * N0) (n := 2 * u.2.1 - 2 * N0) (by rw [en]; omega) (by rw [en]; omega) ?_
  exact b_FractionDresser_putUnder_26 hc hA hE  (lv_sub hl [1, 2, 3, 4, 0] rfl) hK hP hD hS hN hv
set_option maxHeartbeats 4000000 in
set_option maxRecDepth 100000 in
theorem b_FractionDresser_putUnder_0 {h0 : Nat} {a0_0 : Nat} {a0_1 : Nat} {h1 : Nat} {h2 : Nat} {a2_0 : Nat} {a2_2 : Nat} {h3 : Nat} {cA3 : ClassId} {h4 : Nat} {h5 : Nat} {cA5 : ClassId} {J0 : Nat → Int64} {I1 : Nat → Int32} {I2 : Nat → Int32} {n3 : Nat} {f3 : Nat → Int32} {I4 : Nat → Int32} {n5 : Nat} {f5 : Nat → Int32} {x3 : Int32}  {N0 NF : Nat} {Z : (Nat → Int32) × Nat × (Nat → Int32) → Prop} {H : Heap} {locs : List Loc} {ls : Array Slot} (hc : zC p s m args meth c prog_6_method_7_code none 6 "NumberDress$FractionDresser") (hA : ∀ q : Nat, s.heap.size ≤ q → A q) (hE : zE gE A s) (hl : lv_has ls 6 [(0, .ref h0), (1, .ref h2), (2, .ref h1), (3, .int x3), (4, .ref h4)]) (hK : va_K (dC, dI) zCl [(cA3, .int), (cA5, .char)] s) (hP : va_P (dC, dI) zCl [(h0, .inr (5, o_FractionDresser J0 a0_0 a0_1)), (h1, .inr (9, o_Section I1)), (h2, .inr (1, o_Code I2 a2_0 a2_2 h3)), (h3, .inl (cA3, n3, .inl f3)), (h4, .inr (6, o_Look I4 h5)), (h5, .inl (cA5, n5, .inl f5))] H) (hD : va_D A [(h0, .inr (5, o_FractionDresser J0 a0_0 a0_1)), (h1, .inr (9, o_Section I1)), (h2, .inr (1, o_Code I2 a2_0 a2_2 h3)), (h3, .inl (cA3, n3, .inl f3)), (h4, .inr (6, o_Look I4 h5)), (h5, .inl (cA5, n5, .inl f5))]) (hS : va_S A s.heap H locs) (hN : N0 ≤ n5 ∧ n5 ≤ NF) (hv : v_FractionDresser_putUnder_0 J0 I1 I2 n3 f3 I4 n5 f5 x3  NF Z) : W p l e (headSpec (Cond.code (⟨"NumberDress$FractionDresser", "putUnder", "(LNumberDress$Code;LNumberDress$Section;ILNumberDress$Look;)V"⟩ : MethodName) prog_6_method_7_code 6 none :: zT) { frames := 3, cells := 2 * NF - 2 * N0, slots := 2 * NF - 2 * N0, locals := 88 }).room s m args below meth c H locs (2 * n5 - 2 * N0) (2 * n5 - 2 * N0) (MQ below (va_Qv (fun u : (Nat → Int32) × Nat × (Nat → Int32) => u.2.1 = NF ∧ Z u) (fun (u : (Nat → Int32) × Nat × (Nat → Int32)) t => ∃ (b9 : Nat) (k9 : ClassId), va_P (dC, dI) zCl [(h0, .inr (5, o_FractionDresser J0 a0_0 a0_1)), (h1, .inr (9, o_Section I1)), (h2, .inr (1, o_Code I2 a2_0 a2_2 h3)), (h3, .inl (cA3, n3, .inl f3)), (h4, .inr (6, o_Look u.1 b9)), (b9, .inl (k9, u.2.1, .inl u.2.2))] t.heap ∧ va_K (dC, dI) zCl [(cA3, .int), (k9, .char)] t ∧ va_D A [(h0, .inr (5, o_FractionDresser J0 a0_0 a0_1)), (h1, .inr (9, o_Section I1)), (h2, .inr (1, o_Code I2 a2_0 a2_2 h3)), (h3, .inl (cA3, n3, .inl f3)), (h4, .inr (6, o_Look u.1 b9)), (b9, .inl (k9, u.2.1, .inl u.2.2))]) A) args s (2 * NF - 2 * N0) (2 * NF - 2 * N0) A) (F0 m 0 ls []) := by
  obtain ⟨hx, hb, hr, hml, hown, ht, hlocks⟩ := id hc
  unfold v_FractionDresser_putUnder_0 at hv
  refine lv_aload_n hx hb d_FractionDresser_putUnder_0 rfl (lv_at hl 2 rfl) ?_
  refine va_get (D := (dC, dI)) (ci := 9) (v := .int (I1 11)) (C := "NumberDress$Section") (T := T_Section) (N := 15) hx hb ht zin_Section hown hK hP 1 rfl rfl 11 (by decide) (ht _ zw_199) (fun _ h9 => h9) rfl d_FractionDresser_putUnder_1 ?_
  refine lv_aload_n hx hb d_FractionDresser_putUnder_4 rfl (lv_at hl 0 rfl) ?_
  refine va_get (D := (dC, dI)) (ci := 5) (v := .long (J0 3)) (C := "NumberDress$FractionDresser") (T := T_FractionDresser) (N := 5) hx hb ht zin_FractionDresser hown hK hP 0 rfl rfl 3 (by decide) (ht _ zw_396) (fun _ h9 => h9) rfl d_FractionDresser_putUnder_5 ?_
  refine z_calli (wc := []) (wr := [(h0, .inr (5, o_FractionDresser J0 a0_0 a0_1)), (h1, .inr (9, o_Section I1)), (h2, .inr (1, o_Code I2 a2_0 a2_2 h3)), (h3, .inl (cA3, n3, .inl f3)), (h4, .inr (6, o_Look I4 h5)), (h5, .inl (cA5, n5, .inl f5))]) [] [0, 1, 2, 3, 4, 5] (va_runSN (As := [.long (J0 3)]) (rest := [.int (I1 11)]) ⟨hx, hb, hml, hown, ht⟩ (m_ND_digitsOf l dC dI hv) ⟨(va_cnB 1 ht (zG_in zi_ND_digitsOf) rfl rfl rfl (hE.nest zn_1035) (ht _ zw_110) zh_ND_digitsOf ⟨Nat.le_of_ble_eq_true rfl, Nat.le_of_ble_eq_true rfl⟩), (ht _ zw_879), trivial⟩ ⟨zPc_blind, zPc_pre hP hK hD hS hA hE [] [] rfl rfl (by decide) rfl⟩ rfl rfl hl.1 rfl (lv_room (Nat.le_of_ble_eq_true rfl)) d_FractionDresser_putUnder_8 ⟨by show _ ≤ 2 * NF - 2 * N0; omega, by show _ ≤ 2 * NF - 2 * N0; omega⟩) hP hD hS hA rfl rfl (by decide) (by decide) (fun r u H locs hv hP hD hS => ?_)
  have hP : va_P (dC, dI) zCl [(h0, .inr (5, o_FractionDresser J0 a0_0 a0_1)), (h1, .inr (9, o_Section I1)), (h2, .inr (1, o_Code I2 a2_0 a2_2 h3)), (h3, .inl (cA3, n3, .inl f3)), (h4, .inr (6, o_Look I4 h5)), (h5, .inl (cA5, n5, .inl f5))] H := hP.sub [0, 1, 2, 3, 4, 5] rfl
  have hD : va_D A [(h0, .inr (5, o_FractionDresser J0 a0_0 a0_1)), (h1, .inr (9, o_Section I1)), (h2, .inr (1, o_Code I2 a2_0 a2_2 h3)), (h3, .inl (cA3, n3, .inl f3)), (h4, .inr (6, o_Look I4 h5)), (h5, .inl (cA5, n5, .inl f5))] := hD.sub [0, 1, 2, 3, 4, 5] (by decide) rfl
  exact b_FractionDresser_putUnder_11 hc hA hE  (lv_sub hl [0, 1, 3, 4] rfl) hK hP hD hS hN hv
theorem zi_FractionDresser_putUnder : Cond.code (⟨"NumberDress$FractionDresser", "putUnder", "(LNumberDress$Code;LNumberDress$Section;ILNumberDress$Look;)V"⟩ : MethodName) prog_6_method_7_code 6 none ∈ zT := zw_1034
theorem zh_FractionDresser_putUnder : (((⟨"NumberDress$FractionDresser", "putUnder", "(LNumberDress$Code;LNumberDress$Section;ILNumberDress$Look;)V"⟩ : MethodName)).cls ≠ "java/lang/invoke/MethodHandle" ∧ ((⟨"NumberDress$FractionDresser", "putUnder", "(LNumberDress$Code;LNumberDress$Section;ILNumberDress$Look;)V"⟩ : MethodName)).cls ≠ "java/lang/invoke/VarHandle" ∧ (parseMethodDescriptor ((⟨"NumberDress$FractionDresser", "putUnder", "(LNumberDress$Code;LNumberDress$Section;ILNumberDress$Look;)V"⟩ : MethodName)).desc).map (fun d => d.parameters.length) = some 4) := by decide +kernel
set_option maxHeartbeats 4000000 in
set_option maxRecDepth 100000 in
theorem m_FractionDresser_putUnder (l : Launch) (dC : Nat → ClassId) (dI : Nat → Nat → Nat) {gE : zG} {h0 : Nat} {a0_0 : Nat} {a0_1 : Nat} {h1 : Nat} {h2 : Nat} {a2_0 : Nat} {a2_2 : Nat} {h3 : Nat} {cA3 : ClassId} {h4 : Nat} {h5 : Nat} {cA5 : ClassId} {J0 : Nat → Int64} {I1 : Nat → Int32} {I2 : Nat → Int32} {n3 : Nat} {f3 : Nat → Int32} {I4 : Nat → Int32} {n5 : Nat} {f5 : Nat → Int32} {x3 : Int32} {sz : Nat} {Z : (Nat → Int32) × Nat × (Nat → Int32) → Prop} {NF : Nat} (hNF : n5 ≤ NF) (hv : v_FractionDresser_putUnder_0 J0 I1 I2 n3 f3 I4 n5 f5 x3 NF Z) : Met l (⟨"NumberDress$FractionDresser", "putUnder", "(LNumberDress$Code;LNumberDress$Section;ILNumberDress$Look;)V"⟩ : MethodName) (Cond.code (⟨"NumberDress$FractionDresser", "putUnder", "(LNumberDress$Code;LNumberDress$Section;ILNumberDress$Look;)V"⟩ : MethodName) prog_6_method_7_code 6 none :: zT) { frames := 3, cells := 2 * NF - 2 * n5, slots := 2 * NF - 2 * n5, locals := 88 } (zPc gE (dC, dI) zCl [(cA3, .int), (cA5, .char)] [.ref h0, .ref h2, .ref h1, .int x3, .ref h4] sz [(h0, .inr (5, o_FractionDresser J0 a0_0 a0_1)), (h1, .inr (9, o_Section I1)), (h2, .inr (1, o_Code I2 a2_0 a2_2 h3)), (h3, .inl (cA3, n3, .inl f3)), (h4, .inr (6, o_Look I4 h5)), (h5, .inl (cA5, n5, .inl f5))]) (va_Qv (fun u : (Nat → Int32) × Nat × (Nat → Int32) => u.2.1 = NF ∧ Z u) (fun (u : (Nat → Int32) × Nat × (Nat → Int32)) t => ∃ (b9 : Nat) (k9 : ClassId), va_P (dC, dI) zCl [(h0, .inr (5, o_FractionDresser J0 a0_0 a0_1)), (h1, .inr (9, o_Section I1)), (h2, .inr (1, o_Code I2 a2_0 a2_2 h3)), (h3, .inl (cA3, n3, .inl f3)), (h4, .inr (6, o_Look u.1 b9)), (b9, .inl (k9, u.2.1, .inl u.2.2))] t.heap ∧ va_K (dC, dI) zCl [(cA3, .int), (k9, .char)] t ∧ va_D (va_A [(h0, .inr (5, o_FractionDresser J0 a0_0 a0_1)), (h1, .inr (9, o_Section I1)), (h2, .inr (1, o_Code I2 a2_0 a2_2 h3)), (h3, .inl (cA3, n3, .inl f3)), (h4, .inr (6, o_Look I4 h5)), (h5, .inl (cA5, n5, .inl f5))] sz) [(h0, .inr (5, o_FractionDresser J0 a0_0 a0_1)), (h1, .inr (9, o_Section I1)), (h2, .inr (1, o_Code I2 a2_0 a2_2 h3)), (h3, .inl (cA3, n3, .inl f3)), (h4, .inr (6, o_Look u.1 b9)), (b9, .inl (k9, u.2.1, .inl u.2.2))]) (va_A [(h0, .inr (5, o_FractionDresser J0 a0_0 a0_1)), (h1, .inr (9, o_Section I1)), (h2, .inr (1, o_Code I2 a2_0 a2_2 h3)), (h3, .inl (cA3, n3, .inl f3)), (h4, .inr (6, o_Look I4 h5)), (h5, .inl (cA5, n5, .inl f5))] sz)) (2 * NF - 2 * n5) (2 * NF - 2 * n5) (va_A [(h0, .inr (5, o_FractionDresser J0 a0_0 a0_1)), (h1, .inr (9, o_Section I1)), (h2, .inr (1, o_Code I2 a2_0 a2_2 h3)), (h3, .inl (cA3, n3, .inl f3)), (h4, .inr (6, o_Look I4 h5)), (h5, .inl (cA5, n5, .inl f5))] sz) := by
  refine Met.ofW (cc := prog_6_method_7_code) (maxL := 6) (ret := none) (by decide +kernel) rfl ?_
  intro p e s m args below meth c s₁ B hml hp
  obtain ⟨rfl, hsz, hP, hK, hD0, hE⟩ := hp
  have hts := atoms_spec (ws := (Cond.code (⟨"NumberDress$FractionDresser", "putUnder", "(LNumberDress$Code;LNumberDress$Section;ILNumberDress$Look;)V"⟩ : MethodName) prog_6_method_7_code 6 none :: zT)) B.pre
  have hown : s.vm.findClass "NumberDress$FractionDresser" = some m.cls := findClass_of_methodNamed B.named
  have hc : zC p s m _ meth c prog_6_method_7_code none 6 "NumberDress$FractionDresser" := ⟨B.exec, B.bytes, B.returns, hml, hown, fun w h => hts w (List.mem_cons_of_mem _ h), B.notSynchronized⟩
  subst hsz
  have hD := hD0.self (sz := s.heap.size)
  generalize hAe : va_A [(h0, .inr (5, o_FractionDresser J0 a0_0 a0_1)), (h1, .inr (9, o_Section I1)), (h2, .inr (1, o_Code I2 a2_0 a2_2 h3)), (h3, .inl (cA3, n3, .inl f3)), (h4, .inr (6, o_Look I4 h5)), (h5, .inl (cA5, n5, .inl f5))] s.heap.size = A at hD hE ⊢
  have hA : ∀ q : Nat, s.heap.size ≤ q → A q := fun q h => by rw [← hAe]; exact Or.inr h
  have hl := lv_entry ([.ref h0, .ref h2, .ref h1, .int x3, .ref h4]) (n := 6) (Nat.le_of_ble_eq_true rfl)
  rw [lg_entry_eq]
  refine W.widen (k := 2 * n5 - 2 * n5) (n := 2 * n5 - 2 * n5) (Nat.zero_le _) (Nat.zero_le _) ?_
  exact b_FractionDresser_putUnder_0 hc hA hE hl hK hP hD va_S.rf ⟨Nat.le_refl _, hNF⟩ hv
theorem d_Digits_digit_0 : decode prog_4_method_6_code 0 = .ok (.iload_n 1, 1) := by decide +kernel
theorem d_Digits_digit_1 : decode prog_4_method_6_code 1 = .ok (.aload_n 0, 1) := by decide +kernel
theorem d_Digits_digit_2 : decode prog_4_method_6_code 2 = .ok (.getfield 26, 3) := by decide +kernel
theorem d_Digits_digit_5 : decode prog_4_method_6_code 5 = .ok (.iadd, 1) := by decide +kernel
theorem d_Digits_digit_6 : decode prog_4_method_6_code 6 = .ok (.aload_n 0, 1) := by decide +kernel
theorem d_Digits_digit_7 : decode prog_4_method_6_code 7 = .ok (.getfield 13, 3) := by decide +kernel
theorem d_Digits_digit_10 : decode prog_4_method_6_code 10 = .ok (.isub, 1) := by decide +kernel
theorem d_Digits_digit_11 : decode prog_4_method_6_code 11 = .ok (.istore_n 2, 1) := by decide +kernel
theorem d_Digits_digit_12 : decode prog_4_method_6_code 12 = .ok (.iload_n 2, 1) := by decide +kernel
theorem d_Digits_digit_13 : decode prog_4_method_6_code 13 = .ok (.ifCond .lt 11, 3) := by decide +kernel
theorem d_Digits_digit_16 : decode prog_4_method_6_code 16 = .ok (.iload_n 2, 1) := by decide +kernel
theorem d_Digits_digit_17 : decode prog_4_method_6_code 17 = .ok (.getstatic 43, 3) := by decide +kernel
theorem d_Digits_digit_20 : decode prog_4_method_6_code 20 = .ok (.arraylength, 1) := by decide +kernel
theorem d_Digits_digit_21 : decode prog_4_method_6_code 21 = .ok (.if_icmp .lt 5, 3) := by decide +kernel
theorem d_Digits_digit_24 : decode prog_4_method_6_code 24 = .ok (.iconst 0, 1) := by decide +kernel
theorem d_Digits_digit_25 : decode prog_4_method_6_code 25 = .ok (.ireturn, 1) := by decide +kernel
theorem d_Digits_digit_26 : decode prog_4_method_6_code 26 = .ok (.aload_n 0, 1) := by decide +kernel
theorem d_Digits_digit_27 : decode prog_4_method_6_code 27 = .ok (.getfield 7, 3) := by decide +kernel
theorem d_Digits_digit_30 : decode prog_4_method_6_code 30 = .ok (.iload_n 2, 1) := by decide +kernel
theorem d_Digits_digit_31 : decode prog_4_method_6_code 31 = .ok (.invokestatic 47, 3) := by decide +kernel
theorem d_Digits_digit_34 : decode prog_4_method_6_code 34 = .ok (.ldiv, 1) := by decide +kernel
theorem d_Digits_digit_35 : decode prog_4_method_6_code 35 = .ok (.ldc2_w 51, 3) := by decide +kernel
theorem d_Digits_digit_38 : decode prog_4_method_6_code 38 = .ok (.lrem, 1) := by decide +kernel
theorem d_Digits_digit_39 : decode prog_4_method_6_code 39 = .ok (.l2i, 1) := by decide +kernel
theorem d_Digits_digit_40 : decode prog_4_method_6_code 40 = .ok (.ireturn, 1) := by decide +kernel
set_option maxHeartbeats 4000000 in
set_option maxRecDepth 100000 in
theorem b_Digits_digit_34 {h0 : Nat} {I0 : Nat → Int32} {J0 : Nat → Int64} {s0 : Int64} {s1 : Int64}  {Z : Int32 → Unit → Prop} {H : Heap} {locs : List Loc} {ls : Array Slot} (hc : zC p s m args meth c prog_4_method_6_code (some .int) 3 "NumberDress$Digits") (hA : ∀ q : Nat, s.heap.size ≤ q → A q) (hE : zE gE A s) (hl : lv_has ls 3 []) (hK : va_K (dC, dI) zCl [] s) (hP : va_P (dC, dI) zCl [(h0, .inr (3, o_Digits I0 J0))] H) (hD : va_D A [(h0, .inr (3, o_Digits I0 J0))]) (hS : va_S A s.heap H locs) (hv : v_Digits_digit_34 I0 J0 s0 s1  Z) : W p l e (headSpec (Cond.code (⟨"NumberDress$Digits", "digit", "(I)I"⟩ : MethodName) prog_4_method_6_code 3 (some .int) :: zT) { frames := 1, cells := 0, slots := 0, locals := 20 }).room s m args below meth c H locs 0 0 (MQ below (va_Qi Z (zB (dC, dI) zCl [] A (fun u : Unit => [(h0, .inr (3, o_Digits I0 J0))])) A) args s 0 0 A) (F0 m 34 ls [.long s1, .long s0]) := by
  obtain ⟨hx, hb, hr, hml, hown, ht, hlocks⟩ := id hc
  unfold v_Digits_digit_34 at hv
  obtain ⟨q_1, hv⟩ := hv
  refine lv_ldiv hx hb d_Digits_digit_34 q_1 ?_
  refine lv_ldc2 (v := (10 : Int64)) hx hb hown (ht _ zw_972) d_Digits_digit_35 ?_
  refine lv_lrem hx hb d_Digits_digit_38 (by decide) ?_
  refine lv_l2i (v := ((s0 / s1) - (s0 / s1) / (10 : Int64) * (10 : Int64)).toInt32) hx hb d_Digits_digit_39 rfl ?_
  exact W.iret (v := ((s0 / s1) - (s0 / s1) / (10 : Int64) * (10 : Int64)).toInt32) hx hb hr (fun t ht hW => ⟨⟨_, (), rfl, hv, ⟨by rw [ht]; exact hP, va_K.moved hW.alike hK, hD⟩⟩, hS.F ht⟩) hS.2.2 d_Digits_digit_40
set_option maxHeartbeats 4000000 in
set_option maxRecDepth 100000 in
theorem b_Digits_digit_0 {h0 : Nat} {I0 : Nat → Int32} {J0 : Nat → Int64} {x1 : Int32}  {Z : Int32 → Unit → Prop} {H : Heap} {locs : List Loc} {ls : Array Slot} (hc : zC p s m args meth c prog_4_method_6_code (some .int) 3 "NumberDress$Digits") (hA : ∀ q : Nat, s.heap.size ≤ q → A q) (hE : zE gE A s) (hl : lv_has ls 3 [(0, .ref h0), (1, .int x1)]) (hK : va_K (dC, dI) zCl [] s) (hP : va_P (dC, dI) zCl [(h0, .inr (3, o_Digits I0 J0))] H) (hD : va_D A [(h0, .inr (3, o_Digits I0 J0))]) (hS : va_S A s.heap H locs) (hv : v_Digits_digit_0 I0 J0 x1  Z) : W p l e (headSpec (Cond.code (⟨"NumberDress$Digits", "digit", "(I)I"⟩ : MethodName) prog_4_method_6_code 3 (some .int) :: zT) { frames := 1, cells := 0, slots := 0, locals := 20 }).room s m args below meth c H locs 0 0 (MQ below (va_Qi Z (zB (dC, dI) zCl [] A (fun u : Unit => [(h0, .inr (3, o_Digits I0 J0))])) A) args s 0 0 A) (F0 m 0 ls []) := by
  obtain ⟨hx, hb, hr, hml, hown, ht, hlocks⟩ := id hc
  unfold v_Digits_digit_0 at hv
  refine lv_iload_n hx hb d_Digits_digit_0 rfl (lv_at hl 1 rfl) ?_
  refine lv_aload_n hx hb d_Digits_digit_1 rfl (lv_at hl 0 rfl) ?_
  refine va_get (D := (dC, dI)) (ci := 3) (v := .int (I0 3)) (C := "NumberDress$Digits") (T := T_Digits) (N := 4) hx hb ht zin_Digits hown hK hP 0 rfl rfl 3 (by decide) (ht _ zw_346) (fun _ h9 => h9) rfl d_Digits_digit_2 ?_
  refine lv_iadd hx hb d_Digits_digit_5 ?_
  refine lv_aload_n hx hb d_Digits_digit_6 rfl (lv_at hl 0 rfl) ?_
  refine va_get (D := (dC, dI)) (ci := 3) (v := .int (I0 1)) (C := "NumberDress$Digits") (T := T_Digits) (N := 4) hx hb ht zin_Digits hown hK hP 0 rfl rfl 1 (by decide) (ht _ zw_344) (fun _ h9 => h9) rfl d_Digits_digit_7 ?_
  refine lv_isub hx hb d_Digits_digit_10 ?_
  refine lv_istore_n (lv' := [(2, .int ((x1 + (I0 3)) - (I0 1))), (0, .ref h0), (1, .int x1)]) hx hb d_Digits_digit_11 rfl hl (by decide) rfl (fun ls hl => ?_)
  refine lv_iload_n hx hb d_Digits_digit_12 rfl (lv_at hl 0 rfl) ?_
  refine lv_if_lt (tgt := 24) hx hb d_Digits_digit_13 (by decide) (fun c_1 => ?_) (fun c_1 => ?_)
  · have hv := hv.1 c_1
    refine lv_iconst (v := (0 : Int32)) hx hb d_Digits_digit_24 (by decide) ?_
    exact W.iret (v := (0 : Int32)) hx hb hr (fun t ht hW => ⟨⟨_, (), rfl, hv, ⟨by rw [ht]; exact hP, va_K.moved hW.alike hK, hD⟩⟩, hS.F ht⟩) hS.2.2 d_Digits_digit_25
  · have hv := hv.2 c_1
    refine lv_iload_n hx hb d_Digits_digit_16 rfl (lv_at hl 0 rfl) ?_
    refine va_getsN hx hb hE.tens.1 hS hown (va_Nw.use rfl (hE.nest zn_970)) (fun _ h9 => h9) d_Digits_digit_17 ?_
    refine va_tlen (v := (19 : Int32)) hx hb hE.tens.2 hS (by decide) d_Digits_digit_20 ?_
    refine lv_icmp_lt (tgt := 26) hx hb d_Digits_digit_21 (by decide) (fun c_2 => ?_) (fun c_2 => ?_)
    · have hv := hv.1 c_2
      refine lv_aload_n hx hb d_Digits_digit_26 rfl (lv_at hl 1 rfl) ?_
      refine va_get (D := (dC, dI)) (ci := 3) (v := .long (J0 0)) (C := "NumberDress$Digits") (T := T_Digits) (N := 4) hx hb ht zin_Digits hown hK hP 0 rfl rfl 0 (by decide) (ht _ zw_343) (fun _ h9 => h9) rfl d_Digits_digit_27 ?_
      refine lv_iload_n hx hb d_Digits_digit_30 rfl (lv_at hl 0 rfl) ?_
      refine z_calll (wc := []) (wr := [(h0, .inr (3, o_Digits I0 J0))]) [] [0] (va_runSN (As := [.int ((x1 + (I0 3)) - (I0 1))]) (rest := [.long (J0 0)]) ⟨hx, hb, hml, hown, ht⟩ (m_ND_tenTo l dC dI hv) ⟨(va_cnB 1 ht (zG_in zi_ND_tenTo) rfl rfl rfl (hE.nest zn_971) (ht _ zw_110) zh_ND_tenTo ⟨Nat.le_of_ble_eq_true rfl, Nat.le_of_ble_eq_true rfl⟩), (ht _ zw_883), trivial⟩ ⟨zPc_blind, zPc_pre hP hK hD hS hA hE [] [] rfl rfl (by decide) rfl⟩ rfl rfl hl.1 rfl (lv_room (Nat.le_of_ble_eq_true rfl)) d_Digits_digit_31 ⟨Nat.le_of_ble_eq_true rfl, Nat.le_of_ble_eq_true rfl⟩) hP hD hS hA rfl rfl (by decide) (by decide) (fun r u H locs hv hP hD hS => ?_)
      have hP : va_P (dC, dI) zCl [(h0, .inr (3, o_Digits I0 J0))] H := hP.sub [0] rfl
      have hD : va_D A [(h0, .inr (3, o_Digits I0 J0))] := hD.sub [0] (by decide) rfl
      exact b_Digits_digit_34 hc hA hE  (lv_sub hl [] rfl) hK hP hD hS hv
    · have hv := hv.2 c_2
      refine lv_iconst (v := (0 : Int32)) hx hb d_Digits_digit_24 (by decide) ?_
      exact W.iret (v := (0 : Int32)) hx hb hr (fun t ht hW => ⟨⟨_, (), rfl, hv, ⟨by rw [ht]; exact hP, va_K.moved hW.alike hK, hD⟩⟩, hS.F ht⟩) hS.2.2 d_Digits_digit_25
theorem zi_Digits_digit : Cond.code (⟨"NumberDress$Digits", "digit", "(I)I"⟩ : MethodName) prog_4_method_6_code 3 (some .int) ∈ zT := zw_969
theorem zh_Digits_digit : (((⟨"NumberDress$Digits", "digit", "(I)I"⟩ : MethodName)).cls ≠ "java/lang/invoke/MethodHandle" ∧ ((⟨"NumberDress$Digits", "digit", "(I)I"⟩ : MethodName)).cls ≠ "java/lang/invoke/VarHandle" ∧ (parseMethodDescriptor ((⟨"NumberDress$Digits", "digit", "(I)I"⟩ : MethodName)).desc).map (fun d => d.parameters.length) = some 1) := by decide +kernel
set_option maxHeartbeats 4000000 in
set_option maxRecDepth 100000 in
theorem m_Digits_digit (l : Launch) (dC : Nat → ClassId) (dI : Nat → Nat → Nat) {gE : zG} {h0 : Nat} {I0 : Nat → Int32} {J0 : Nat → Int64} {x1 : Int32} {sz : Nat} {Z : Int32 → Unit → Prop} (hv : v_Digits_digit_0 I0 J0 x1 Z) : Met l (⟨"NumberDress$Digits", "digit", "(I)I"⟩ : MethodName) (Cond.code (⟨"NumberDress$Digits", "digit", "(I)I"⟩ : MethodName) prog_4_method_6_code 3 (some .int) :: zT) { frames := 1, cells := 0, slots := 0, locals := 20 } (zPc gE (dC, dI) zCl [] [.ref h0, .int x1] sz [(h0, .inr (3, o_Digits I0 J0))]) (va_Qi Z (zB (dC, dI) zCl [] (va_A [(h0, .inr (3, o_Digits I0 J0))] sz) (fun u : Unit => [(h0, .inr (3, o_Digits I0 J0))])) (va_A [(h0, .inr (3, o_Digits I0 J0))] sz)) 0 0 (va_A [(h0, .inr (3, o_Digits I0 J0))] sz) := by
  refine Met.ofW (cc := prog_4_method_6_code) (maxL := 3) (ret := (some .int)) (by decide +kernel) rfl ?_
  intro p e s m args below meth c s₁ B hml hp
  obtain ⟨rfl, hsz, hP, hK, hD0, hE⟩ := hp
  have hts := atoms_spec (ws := (Cond.code (⟨"NumberDress$Digits", "digit", "(I)I"⟩ : MethodName) prog_4_method_6_code 3 (some .int) :: zT)) B.pre
  have hown : s.vm.findClass "NumberDress$Digits" = some m.cls := findClass_of_methodNamed B.named
  have hc : zC p s m _ meth c prog_4_method_6_code (some .int) 3 "NumberDress$Digits" := ⟨B.exec, B.bytes, B.returns, hml, hown, fun w h => hts w (List.mem_cons_of_mem _ h), B.notSynchronized⟩
  subst hsz
  have hD := hD0.self (sz := s.heap.size)
  generalize hAe : va_A [(h0, .inr (3, o_Digits I0 J0))] s.heap.size = A at hD hE ⊢
  have hA : ∀ q : Nat, s.heap.size ≤ q → A q := fun q h => by rw [← hAe]; exact Or.inr h
  have hl := lv_entry ([.ref h0, .int x1]) (n := 3) (Nat.le_of_ble_eq_true rfl)
  rw [lg_entry_eq]
  exact b_Digits_digit_0 hc hA hE hl hK hP hD va_S.rf hv
theorem d_Look_putPlace_0 : decode prog_7_method_8_code 0 = .ok (.aload_n 1, 1) := by decide +kernel
theorem d_Look_putPlace_1 : decode prog_7_method_8_code 1 = .ok (.invokevirtual 50, 3) := by decide +kernel
theorem d_Look_putPlace_4 : decode prog_7_method_8_code 4 = .ok (.istore 6, 2) := by decide +kernel
theorem d_Look_putPlace_6 : decode prog_7_method_8_code 6 = .ok (.iload_n 3, 1) := by decide +kernel
theorem d_Look_putPlace_7 : decode prog_7_method_8_code 7 = .ok (.iload 4, 2) := by decide +kernel
theorem d_Look_putPlace_9 : decode prog_7_method_8_code 9 = .ok (.iconst 1, 1) := by decide +kernel
theorem d_Look_putPlace_10 : decode prog_7_method_8_code 10 = .ok (.isub, 1) := by decide +kernel
theorem d_Look_putPlace_11 : decode prog_7_method_8_code 11 = .ok (.if_icmp .ne 14, 3) := by decide +kernel
theorem d_Look_putPlace_14 : decode prog_7_method_8_code 14 = .ok (.iload 6, 2) := by decide +kernel
theorem d_Look_putPlace_16 : decode prog_7_method_8_code 16 = .ok (.iconst 1, 1) := by decide +kernel
theorem d_Look_putPlace_17 : decode prog_7_method_8_code 17 = .ok (.isub, 1) := by decide +kernel
theorem d_Look_putPlace_18 : decode prog_7_method_8_code 18 = .ok (.iload_n 3, 1) := by decide +kernel
theorem d_Look_putPlace_19 : decode prog_7_method_8_code 19 = .ok (.invokestatic 55, 3) := by decide +kernel
theorem d_Look_putPlace_22 : decode prog_7_method_8_code 22 = .ok (.goto 4, 3) := by decide +kernel
theorem d_Look_putPlace_25 : decode prog_7_method_8_code 25 = .ok (.iload_n 3, 1) := by decide +kernel
theorem d_Look_putPlace_26 : decode prog_7_method_8_code 26 = .ok (.istore 7, 2) := by decide +kernel
theorem d_Look_putPlace_28 : decode prog_7_method_8_code 28 = .ok (.iload 7, 2) := by decide +kernel
theorem d_Look_putPlace_30 : decode prog_7_method_8_code 30 = .ok (.istore 8, 2) := by decide +kernel
theorem d_Look_putPlace_32 : decode prog_7_method_8_code 32 = .ok (.iload 8, 2) := by decide +kernel
theorem d_Look_putPlace_34 : decode prog_7_method_8_code 34 = .ok (.iload_n 3, 1) := by decide +kernel
theorem d_Look_putPlace_35 : decode prog_7_method_8_code 35 = .ok (.if_icmp .lt 90, 3) := by decide +kernel
theorem d_Look_putPlace_38 : decode prog_7_method_8_code 38 = .ok (.iload 8, 2) := by decide +kernel
theorem d_Look_putPlace_40 : decode prog_7_method_8_code 40 = .ok (.iload 6, 2) := by decide +kernel
theorem d_Look_putPlace_42 : decode prog_7_method_8_code 42 = .ok (.if_icmp .lt 9, 3) := by decide +kernel
theorem d_Look_putPlace_45 : decode prog_7_method_8_code 45 = .ok (.iload_n 2, 1) := by decide +kernel
theorem d_Look_putPlace_46 : decode prog_7_method_8_code 46 = .ok (.bipush 48, 2) := by decide +kernel
theorem d_Look_putPlace_48 : decode prog_7_method_8_code 48 = .ok (.if_icmp .ne 7, 3) := by decide +kernel
theorem d_Look_putPlace_51 : decode prog_7_method_8_code 51 = .ok (.iconst 1, 1) := by decide +kernel
theorem d_Look_putPlace_52 : decode prog_7_method_8_code 52 = .ok (.goto 4, 3) := by decide +kernel
theorem d_Look_putPlace_55 : decode prog_7_method_8_code 55 = .ok (.iconst 0, 1) := by decide +kernel
theorem d_Look_putPlace_56 : decode prog_7_method_8_code 56 = .ok (.istore 9, 2) := by decide +kernel
theorem d_Look_putPlace_58 : decode prog_7_method_8_code 58 = .ok (.iload 9, 2) := by decide +kernel
theorem d_Look_putPlace_60 : decode prog_7_method_8_code 60 = .ok (.ifCond .eq 19, 3) := by decide +kernel
theorem d_Look_putPlace_63 : decode prog_7_method_8_code 63 = .ok (.aload_n 0, 1) := by decide +kernel
theorem d_Look_putPlace_64 : decode prog_7_method_8_code 64 = .ok (.bipush 48, 2) := by decide +kernel
theorem d_Look_putPlace_66 : decode prog_7_method_8_code 66 = .ok (.aload_n 1, 1) := by decide +kernel
theorem d_Look_putPlace_67 : decode prog_7_method_8_code 67 = .ok (.iload 8, 2) := by decide +kernel
theorem d_Look_putPlace_69 : decode prog_7_method_8_code 69 = .ok (.invokevirtual 61, 3) := by decide +kernel
theorem d_Look_putPlace_72 : decode prog_7_method_8_code 72 = .ok (.iadd, 1) := by decide +kernel
theorem d_Look_putPlace_73 : decode prog_7_method_8_code 73 = .ok (.invokevirtual 34, 3) := by decide +kernel
theorem d_Look_putPlace_76 : decode prog_7_method_8_code 76 = .ok (.goto 15, 3) := by decide +kernel
theorem d_Look_putPlace_79 : decode prog_7_method_8_code 79 = .ok (.iload_n 2, 1) := by decide +kernel
theorem d_Look_putPlace_80 : decode prog_7_method_8_code 80 = .ok (.bipush 63, 2) := by decide +kernel
theorem d_Look_putPlace_82 : decode prog_7_method_8_code 82 = .ok (.if_icmp .ne 9, 3) := by decide +kernel
theorem d_Look_putPlace_85 : decode prog_7_method_8_code 85 = .ok (.aload_n 0, 1) := by decide +kernel
theorem d_Look_putPlace_86 : decode prog_7_method_8_code 86 = .ok (.bipush 32, 2) := by decide +kernel
theorem d_Look_putPlace_88 : decode prog_7_method_8_code 88 = .ok (.invokevirtual 34, 3) := by decide +kernel
theorem d_Look_putPlace_91 : decode prog_7_method_8_code 91 = .ok (.iload 9, 2) := by decide +kernel
theorem d_Look_putPlace_93 : decode prog_7_method_8_code 93 = .ok (.ifCond .eq 26, 3) := by decide +kernel
theorem d_Look_putPlace_96 : decode prog_7_method_8_code 96 = .ok (.iload 5, 2) := by decide +kernel
theorem d_Look_putPlace_98 : decode prog_7_method_8_code 98 = .ok (.ifCond .eq 21, 3) := by decide +kernel
theorem d_Look_putPlace_101 : decode prog_7_method_8_code 101 = .ok (.iload 8, 2) := by decide +kernel
theorem d_Look_putPlace_103 : decode prog_7_method_8_code 103 = .ok (.ifCond .le 16, 3) := by decide +kernel
theorem d_Look_putPlace_106 : decode prog_7_method_8_code 106 = .ok (.iload 8, 2) := by decide +kernel
theorem d_Look_putPlace_108 : decode prog_7_method_8_code 108 = .ok (.iconst 3, 1) := by decide +kernel
theorem d_Look_putPlace_109 : decode prog_7_method_8_code 109 = .ok (.irem, 1) := by decide +kernel
theorem d_Look_putPlace_110 : decode prog_7_method_8_code 110 = .ok (.ifCond .ne 9, 3) := by decide +kernel
theorem d_Look_putPlace_113 : decode prog_7_method_8_code 113 = .ok (.aload_n 0, 1) := by decide +kernel
theorem d_Look_putPlace_114 : decode prog_7_method_8_code 114 = .ok (.bipush 44, 2) := by decide +kernel
theorem d_Look_putPlace_116 : decode prog_7_method_8_code 116 = .ok (.invokevirtual 34, 3) := by decide +kernel
theorem d_Look_putPlace_119 : decode prog_7_method_8_code 119 = .ok (.iinc 8 (-1), 3) := by decide +kernel
theorem d_Look_putPlace_122 : decode prog_7_method_8_code 122 = .ok (.goto (-90), 3) := by decide +kernel
theorem d_Look_putPlace_125 : decode prog_7_method_8_code 125 = .ok (.return_, 1) := by decide +kernel
set_option maxHeartbeats 4000000 in
set_option maxRecDepth 100000 in
theorem b_Look_putPlace_119 {h0 : Nat} {h1 : Nat} {h2 : Nat} {cA2 : ClassId} {I0 : Nat → Int32} {I1 : Nat → Int32} {J1 : Nat → Int64} {n2 : Nat} {f2 : Nat → Int32} {x2 : Int32} {x3 : Int32} {x5 : Int32} {x6 : Int32} {x8 : Int32} {k32 : (Nat → Int32) → Nat → (Nat → Int32) → Int32 → Prop} {N0 NF : Nat} {Z : (Nat → Int32) × Nat × (Nat → Int32) → Prop} {H : Heap} {locs : List Loc} {ls : Array Slot} (hc : zC p s m args meth c prog_7_method_8_code none 10 "NumberDress$Look") (hA : ∀ q : Nat, s.heap.size ≤ q → A q) (hE : zE gE A s) (hk32 : ∀ (I0 : Nat → Int32) (n2 : Nat) (f2 : Nat → Int32) (x8 : Int32) (H : Heap) (locs : List Loc) (ls : Array Slot) (h2 : Nat) (cA2 : ClassId), lv_has ls 10 [(0, .ref h0), (1, .ref h1), (2, .int x2), (3, .int x3), (5, .int x5), (6, .int x6), (8, .int x8)] → va_K (dC, dI) zCl [(cA2, .char)] s → va_P (dC, dI) zCl [(h0, .inr (6, o_Look I0 h2)), (h1, .inr (3, o_Digits I1 J1)), (h2, .inl (cA2, n2, .inl f2))] H → va_D A [(h0, .inr (6, o_Look I0 h2)), (h1, .inr (3, o_Digits I1 J1)), (h2, .inl (cA2, n2, .inl f2))] → va_S A s.heap H locs → N0 ≤ n2 ∧ n2 ≤ NF → k32 I0 n2 f2 x8 → W p l e (headSpec (Cond.code (⟨"NumberDress$Look", "putPlace", "(LNumberDress$Digits;IIIZ)V"⟩ : MethodName) prog_7_method_8_code 10 none :: zT) { frames := 2, cells := 2 * NF - 2 * N0, slots := 2 * NF - 2 * N0, locals := 62 }).room s m args below meth c H locs (2 * n2 - 2 * N0) (2 * n2 - 2 * N0) (MQ below (va_Qv (fun u : (Nat → Int32) × Nat × (Nat → Int32) => u.2.1 = NF ∧ Z u) (fun (u : (Nat → Int32) × Nat × (Nat → Int32)) t => ∃ (b9 : Nat) (k9 : ClassId), va_P (dC, dI) zCl [(h0, .inr (6, o_Look u.1 b9)), (h1, .inr (3, o_Digits I1 J1)), (b9, .inl (k9, u.2.1, .inl u.2.2))] t.heap ∧ va_K (dC, dI) zCl [(k9, .char)] t ∧ va_D A [(h0, .inr (6, o_Look u.1 b9)), (h1, .inr (3, o_Digits I1 J1)), (b9, .inl (k9, u.2.1, .inl u.2.2))]) A) args s (2 * NF - 2 * N0) (2 * NF - 2 * N0) A) (F0 m 32 ls [])) (hl : lv_has ls 10 [(0, .ref h0), (1, .ref h1), (2, .int x2), (3, .int x3), (5, .int x5), (6, .int x6), (8, .int x8)]) (hK : va_K (dC, dI) zCl [(cA2, .char)] s) (hP : va_P (dC, dI) zCl [(h0, .inr (6, o_Look I0 h2)), (h1, .inr (3, o_Digits I1 J1)), (h2, .inl (cA2, n2, .inl f2))] H) (hD : va_D A [(h0, .inr (6, o_Look I0 h2)), (h1, .inr (3, o_Digits I1 J1)), (h2, .inl (cA2, n2, .inl f2))]) (hS : va_S A s.heap H locs) (hN : N0 ≤ n2 ∧ n2 ≤ NF) (hv : v_Look_putPlace_119 I0 I1 J1 n2 f2 x2 x3 x5 x6 x8 k32 NF Z) : W p l e (headSpec (Cond.code (⟨"NumberDress$Look", "putPlace", "(LNumberDress$Digits;IIIZ)V"⟩ : MethodName) prog_7_method_8_code 10 none :: zT) { frames := 2, cells := 2 * NF - 2 * N0, slots := 2 * NF - 2 * N0, locals := 62 }).room s m args below meth c H locs (2 * n2 - 2 * N0) (2 * n2 - 2 * N0) (MQ below (va_Qv (fun u : (Nat → Int32) × Nat × (Nat → Int32) => u.2.1 = NF ∧ Z u) (fun (u : (Nat → Int32) × Nat × (Nat → Int32)) t => ∃ (b9 : Nat) (k9 : ClassId), va_P (dC, dI) zCl [(h0, .inr (6, o_Look u.1 b9)), (h1, .inr (3, o_Digits I1 J1)), (b9, .inl (k9, u.2.1, .inl u.2.2))] t.heap ∧ va_K (dC, dI) zCl [(k9, .char)] t ∧ va_D A [(h0, .inr (6, o_Look u.1 b9)), (h1, .inr (3, o_Digits I1 J1)), (b9, .inl (k9, u.2.1, .inl u.2.2))]) A) args s (2 * NF - 2 * N0) (2 * NF - 2 * N0) A) (F0 m 119 ls []) := by
  obtain ⟨hx, hb, hr, hml, hown, ht, hlocks⟩ := id hc
  unfold v_Look_putPlace_119 at hv
  refine lv_iinc (v := (x8 + (-1 : Int32))) (lv' := [(8, .int (x8 + (-1 : Int32))), (0, .ref h0), (1, .ref h1), (2, .int x2), (3, .int x3), (5, .int x5), (6, .int x6)]) hx hb d_Look_putPlace_119 hl (k := 6) rfl rfl (by decide) rfl (fun ls hl => ?_)
  refine lv_goto (tgt := 32) hx hb d_Look_putPlace_122 (by decide) ?_
  exact hk32 I0 n2 f2 (x8 + (-1 : Int32)) _ _ _ _ _ (lv_sub hl [1, 2, 3, 4, 5, 6, 0] rfl) hK hP hD hS hN hv
set_option maxHeartbeats 4000000 in
set_option maxRecDepth 100000 in
theorem b_Look_putPlace_91 {h0 : Nat} {h1 : Nat} {h2 : Nat} {cA2 : ClassId} {I0 : Nat → Int32} {I1 : Nat → Int32} {J1 : Nat → Int64} {n2 : Nat} {f2 : Nat → Int32} {x2 : Int32} {x3 : Int32} {x5 : Int32} {x6 : Int32} {x8 : Int32} {x9 : Int32} {k32 : (Nat → Int32) → Nat → (Nat → Int32) → Int32 → Prop} {N0 NF : Nat} {Z : (Nat → Int32) × Nat × (Nat → Int32) → Prop} {H : Heap} {locs : List Loc} {ls : Array Slot} (hc : zC p s m args meth c prog_7_method_8_code none 10 "NumberDress$Look") (hA : ∀ q : Nat, s.heap.size ≤ q → A q) (hE : zE gE A s) (hk32 : ∀ (I0 : Nat → Int32) (n2 : Nat) (f2 : Nat → Int32) (x8 : Int32) (H : Heap) (locs : List Loc) (ls : Array Slot) (h2 : Nat) (cA2 : ClassId), lv_has ls 10 [(0, .ref h0), (1, .ref h1), (2, .int x2), (3, .int x3), (5, .int x5), (6, .int x6), (8, .int x8)] → va_K (dC, dI) zCl [(cA2, .char)] s → va_P (dC, dI) zCl [(h0, .inr (6, o_Look I0 h2)), (h1, .inr (3, o_Digits I1 J1)), (h2, .inl (cA2, n2, .inl f2))] H → va_D A [(h0, .inr (6, o_Look I0 h2)), (h1, .inr (3, o_Digits I1 J1)), (h2, .inl (cA2, n2, .inl f2))] → va_S A s.heap H locs → N0 ≤ n2 ∧ n2 ≤ NF → k32 I0 n2 f2 x8 → W p l e (headSpec (Cond.code (⟨"NumberDress$Look", "putPlace", "(LNumberDress$Digits;IIIZ)V"⟩ : MethodName) prog_7_method_8_code 10 none :: zT) { frames := 2, cells := 2 * NF - 2 * N0, slots := 2 * NF - 2 * N0, locals := 62 }).room s m args below meth c H locs (2 * n2 - 2 * N0) (2 * n2 - 2 * N0) (MQ below (va_Qv (fun u : (Nat → Int32) × Nat × (Nat → Int32) => u.2.1 = NF ∧ Z u) (fun (u : (Nat → Int32) × Nat × (Nat → Int32)) t => ∃ (b9 : Nat) (k9 : ClassId), va_P (dC, dI) zCl [(h0, .inr (6, o_Look u.1 b9)), (h1, .inr (3, o_Digits I1 J1)), (b9, .inl (k9, u.2.1, .inl u.2.2))] t.heap ∧ va_K (dC, dI) zCl [(k9, .char)] t ∧ va_D A [(h0, .inr (6, o_Look u.1 b9)), (h1, .inr (3, o_Digits I1 J1)), (b9, .inl (k9, u.2.1, .inl u.2.2))]) A) args s (2 * NF - 2 * N0) (2 * NF - 2 * N0) A) (F0 m 32 ls [])) (hl : lv_has ls 10 [(0, .ref h0), (1, .ref h1), (2, .int x2), (3, .int x3), (5, .int x5), (6, .int x6), (8, .int x8), (9, .int x9)]) (hK : va_K (dC, dI) zCl [(cA2, .char)] s) (hP : va_P (dC, dI) zCl [(h0, .inr (6, o_Look I0 h2)), (h1, .inr (3, o_Digits I1 J1)), (h2, .inl (cA2, n2, .inl f2))] H) (hD : va_D A [(h0, .inr (6, o_Look I0 h2)), (h1, .inr (3, o_Digits I1 J1)), (h2, .inl (cA2, n2, .inl f2))]) (hS : va_S A s.heap H locs) (hN : N0 ≤ n2 ∧ n2 ≤ NF) (hv : v_Look_putPlace_91 I0 I1 J1 n2 f2 x2 x3 x5 x6 x8 x9 k32 NF Z) : W p l e (headSpec (Cond.code (⟨"NumberDress$Look", "putPlace", "(LNumberDress$Digits;IIIZ)V"⟩ : MethodName) prog_7_method_8_code 10 none :: zT) { frames := 2, cells := 2 * NF - 2 * N0, slots := 2 * NF - 2 * N0, locals := 62 }).room s m args below meth c H locs (2 * n2 - 2 * N0) (2 * n2 - 2 * N0) (MQ below (va_Qv (fun u : (Nat → Int32) × Nat × (Nat → Int32) => u.2.1 = NF ∧ Z u) (fun (u : (Nat → Int32) × Nat × (Nat → Int32)) t => ∃ (b9 : Nat) (k9 : ClassId), va_P (dC, dI) zCl [(h0, .inr (6, o_Look u.1 b9)), (h1, .inr (3, o_Digits I1 J1)), (b9, .inl (k9, u.2.1, .inl u.2.2))] t.heap ∧ va_K (dC, dI) zCl [(k9, .char)] t ∧ va_D A [(h0, .inr (6, o_Look u.1 b9)), (h1, .inr (3, o_Digits I1 J1)), (b9, .inl (k9, u.2.1, .inl u.2.2))]) A) args s (2 * NF - 2 * N0) (2 * NF - 2 * N0) A) (F0 m 91 ls []) := by
  obtain ⟨hx, hb, hr, hml, hown, ht, hlocks⟩ := id hc
  unfold v_Look_putPlace_91 at hv
  refine lv_iload hx hb d_Look_putPlace_91 (lv_at hl 7 rfl) ?_
  refine lv_if_eq (tgt := 119) hx hb d_Look_putPlace_93 (by decide) (fun c_1 => ?_) (fun c_1 => ?_)
  · have hv := hv.1 c_1
    exact b_Look_putPlace_119 hc hA hE hk32 (lv_sub hl [0, 1, 2, 3, 4, 5, 6] rfl) hK hP hD hS hN hv
  · have hv := hv.2 c_1
    refine lv_iload hx hb d_Look_putPlace_96 (lv_at hl 4 rfl) ?_
    refine lv_if_eq (tgt := 119) hx hb d_Look_putPlace_98 (by decide) (fun c_2 => ?_) (fun c_2 => ?_)
    · have hv := hv.1 c_2
      exact b_Look_putPlace_119 hc hA hE hk32 (lv_sub hl [0, 1, 2, 3, 4, 5, 6] rfl) hK hP hD hS hN hv
    · have hv := hv.2 c_2
      refine lv_iload hx hb d_Look_putPlace_101 (lv_at hl 6 rfl) ?_
      refine lv_if_le (tgt := 119) hx hb d_Look_putPlace_103 (by decide) (fun c_3 => ?_) (fun c_3 => ?_)
      · have hv := hv.1 c_3
        exact b_Look_putPlace_119 hc hA hE hk32 (lv_sub hl [0, 1, 2, 3, 4, 5, 6] rfl) hK hP hD hS hN hv
      · have hv := hv.2 c_3
        refine lv_iload hx hb d_Look_putPlace_106 (lv_at hl 6 rfl) ?_
        refine lv_iconst (v := (3 : Int32)) hx hb d_Look_putPlace_108 (by decide) ?_
        refine lv_irem hx hb d_Look_putPlace_109 (by decide) ?_
        refine lv_if_ne (tgt := 119) hx hb d_Look_putPlace_110 (by decide) (fun c_4 => ?_) (fun c_4 => ?_)
        · have hv := hv.1 c_4
          exact b_Look_putPlace_119 hc hA hE hk32 (lv_sub hl [0, 1, 2, 3, 4, 5, 6] rfl) hK hP hD hS hN hv
        · have hv := hv.2 c_4
          refine lv_aload_n hx hb d_Look_putPlace_113 rfl (lv_at hl 0 rfl) ?_
          refine lv_bipush (v := (44 : Int32)) hx hb d_Look_putPlace_114 (by decide) ?_
          obtain ⟨Nc, hn1, hn2, hv⟩ := hv
          refine z_callvx (wc := [(h0, .inr (6, o_Look I0 h2)), (h2, .inl (cA2, n2, .inl f2))]) (wr := [(h1, .inr (3, o_Digits I1 J1))]) [0, 2] [1] [] (va_runV (As := [.int (44 : Int32)]) (rest := []) ⟨hx, hb, hml, hown, ht⟩ (m_Look_put l dC dI hn1 hv) ⟨(callB_of 1 ht (zG_in zi_Look_put) rfl rfl rfl (ht _ zw_121) (ht _ zw_901) zh_Look_put ⟨Nat.le_of_ble_eq_true rfl, Nat.le_of_ble_eq_true rfl⟩), (ht _ zw_865), (ht _ zw_866)⟩ ⟨zPc_blind, va_recv hK hP (ci := 6) (q0 := 0) rfl rfl, zPc_pre hP hK hD hS hA hE [0, 2] [0] rfl rfl (by decide) rfl⟩ rfl rfl hl.1 rfl (lv_room (Nat.le_of_ble_eq_true rfl)) d_Look_putPlace_116 ⟨by show _ ≤ 2 * NF - 2 * N0; omega, by show _ ≤ 2 * NF - 2 * N0; omega⟩) hK hP hD hS hA rfl rfl rfl (by decide) (by decide) (fun u b kb H locs hv hK hP hD hS => ?_)
          obtain ⟨en, hv⟩ := hv
          have hP : va_P (dC, dI) zCl [(h0, .inr (6, o_Look u.1 b)), (h1, .inr (3, o_Digits I1 J1)), (b, .inl (kb, u.2.1, .inl u.2.2))] H := hP.sub [1, 0, 2] rfl
          have hD : va_D A [(h0, .inr (6, o_Look u.1 b)), (h1, .inr (3, o_Digits I1 J1)), (b, .inl (kb, u.2.1, .inl u.2.2))] := hD.sub [1, 0, 2] (by decide) rfl
          have hK : va_K (dC, dI) zCl [(kb, .char)] s := hK.sub [0] rfl
          have hN : N0 ≤ u.2.1 ∧ u.2.1 ≤ NF := by rw [en]; omega
          refine W.widen (k := 2 * u.2.1 - 2 * N0) (n := 2 * u.2.1 - 2 * N0) (by rw [en]; omega) (by rw [en]; omega) ?_
          exact b_Look_putPlace_119 hc hA hE hk32 (lv_sub hl [0, 1, 2, 3, 4, 5, 6] rfl) hK hP hD hS hN hv
set_option maxHeartbeats 4000000 in
set_option maxRecDepth 100000 in
theorem b_Look_putPlace_76 {h0 : Nat} {h1 : Nat} {h2 : Nat} {cA2 : ClassId} {I0 : Nat → Int32} {I1 : Nat → Int32} {J1 : Nat → Int64} {n2 : Nat} {f2 : Nat → Int32} {x2 : Int32} {x3 : Int32} {x5 : Int32} {x6 : Int32} {x8 : Int32} {x9 : Int32} {k32 : (Nat → Int32) → Nat → (Nat → Int32) → Int32 → Prop} {N0 NF : Nat} {Z : (Nat → Int32) × Nat × (Nat → Int32) → Prop} {H : Heap} {locs : List Loc} {ls : Array Slot} (hc : zC p s m args meth c prog_7_method_8_code none 10 "NumberDress$Look") (hA : ∀ q : Nat, s.heap.size ≤ q → A q) (hE : zE gE A s) (hk32 : ∀ (I0 : Nat → Int32) (n2 : Nat) (f2 : Nat → Int32) (x8 : Int32) (H : Heap) (locs : List Loc) (ls : Array Slot) (h2 : Nat) (cA2 : ClassId), lv_has ls 10 [(0, .ref h0), (1, .ref h1), (2, .int x2), (3, .int x3), (5, .int x5), (6, .int x6), (8, .int x8)] → va_K (dC, dI) zCl [(cA2, .char)] s → va_P (dC, dI) zCl [(h0, .inr (6, o_Look I0 h2)), (h1, .inr (3, o_Digits I1 J1)), (h2, .inl (cA2, n2, .inl f2))] H → va_D A [(h0, .inr (6, o_Look I0 h2)), (h1, .inr (3, o_Digits I1 J1)), (h2, .inl (cA2, n2, .inl f2))] → va_S A s.heap H locs → N0 ≤ n2 ∧ n2 ≤ NF → k32 I0 n2 f2 x8 → W p l e (headSpec (Cond.code (⟨"NumberDress$Look", "putPlace", "(LNumberDress$Digits;IIIZ)V"⟩ : MethodName) prog_7_method_8_code 10 none :: zT) { frames := 2, cells := 2 * NF - 2 * N0, slots := 2 * NF - 2 * N0, locals := 62 }).room s m args below meth c H locs (2 * n2 - 2 * N0) (2 * n2 - 2 * N0) (MQ below (va_Qv (fun u : (Nat → Int32) × Nat × (Nat → Int32) => u.2.1 = NF ∧ Z u) (fun (u : (Nat → Int32) × Nat × (Nat → Int32)) t => ∃ (b9 : Nat) (k9 : ClassId), va_P (dC, dI) zCl [(h0, .inr (6, o_Look u.1 b9)), (h1, .inr (3, o_Digits I1 J1)), (b9, .inl (k9, u.2.1, .inl u.2.2))] t.heap ∧ va_K (dC, dI) zCl [(k9, .char)] t ∧ va_D A [(h0, .inr (6, o_Look u.1 b9)), (h1, .inr (3, o_Digits I1 J1)), (b9, .inl (k9, u.2.1, .inl u.2.2))]) A) args s (2 * NF - 2 * N0) (2 * NF - 2 * N0) A) (F0 m 32 ls [])) (hl : lv_has ls 10 [(0, .ref h0), (1, .ref h1), (2, .int x2), (3, .int x3), (5, .int x5), (6, .int x6), (8, .int x8), (9, .int x9)]) (hK : va_K (dC, dI) zCl [(cA2, .char)] s) (hP : va_P (dC, dI) zCl [(h0, .inr (6, o_Look I0 h2)), (h1, .inr (3, o_Digits I1 J1)), (h2, .inl (cA2, n2, .inl f2))] H) (hD : va_D A [(h0, .inr (6, o_Look I0 h2)), (h1, .inr (3, o_Digits I1 J1)), (h2, .inl (cA2, n2, .inl f2))]) (hS : va_S A s.heap H locs) (hN : N0 ≤ n2 ∧ n2 ≤ NF) (hv : v_Look_putPlace_76 I0 I1 J1 n2 f2 x2 x3 x5 x6 x8 x9 k32 NF Z) : W p l e (headSpec (Cond.code (⟨"NumberDress$Look", "putPlace", "(LNumberDress$Digits;IIIZ)V"⟩ : MethodName) prog_7_method_8_code 10 none :: zT) { frames := 2, cells := 2 * NF - 2 * N0, slots := 2 * NF - 2 * N0, locals := 62 }).room s m args below meth c H locs (2 * n2 - 2 * N0) (2 * n2 - 2 * N0) (MQ below (va_Qv (fun u : (Nat → Int32) × Nat × (Nat → Int32) => u.2.1 = NF ∧ Z u) (fun (u : (Nat → Int32) × Nat × (Nat → Int32)) t => ∃ (b9 : Nat) (k9 : ClassId), va_P (dC, dI) zCl [(h0, .inr (6, o_Look u.1 b9)), (h1, .inr (3, o_Digits I1 J1)), (b9, .inl (k9, u.2.1, .inl u.2.2))] t.heap ∧ va_K (dC, dI) zCl [(k9, .char)] t ∧ va_D A [(h0, .inr (6, o_Look u.1 b9)), (h1, .inr (3, o_Digits I1 J1)), (b9, .inl (k9, u.2.1, .inl u.2.2))]) A) args s (2 * NF - 2 * N0) (2 * NF - 2 * N0) A) (F0 m 76 ls []) := by
  obtain ⟨hx, hb, hr, hml, hown, ht, hlocks⟩ := id hc
  unfold v_Look_putPlace_76 at hv
  refine lv_goto (tgt := 91) hx hb d_Look_putPlace_76 (by decide) ?_
  exact b_Look_putPlace_91 hc hA hE hk32 (lv_sub hl [0, 1, 2, 3, 4, 5, 6, 7] rfl) hK hP hD hS hN hv
set_option maxHeartbeats 4000000 in
set_option maxRecDepth 100000 in
theorem b_Look_putPlace_72 {h0 : Nat} {h1 : Nat} {h2 : Nat} {cA2 : ClassId} {I0 : Nat → Int32} {I1 : Nat → Int32} {J1 : Nat → Int64} {n2 : Nat} {f2 : Nat → Int32} {x2 : Int32} {x3 : Int32} {x5 : Int32} {x6 : Int32} {x8 : Int32} {x9 : Int32} {s1 : Int32} {s2 : Int32} {k32 : (Nat → Int32) → Nat → (Nat → Int32) → Int32 → Prop} {N0 NF : Nat} {Z : (Nat → Int32) × Nat × (Nat → Int32) → Prop} {H : Heap} {locs : List Loc} {ls : Array Slot} (hc : zC p s m args meth c prog_7_method_8_code none 10 "NumberDress$Look") (hA : ∀ q : Nat, s.heap.size ≤ q → A q) (hE : zE gE A s) (hk32 : ∀ (I0 : Nat → Int32) (n2 : Nat) (f2 : Nat → Int32) (x8 : Int32) (H : Heap) (locs : List Loc) (ls : Array Slot) (h2 : Nat) (cA2 : ClassId), lv_has ls 10 [(0, .ref h0), (1, .ref h1), (2, .int x2), (3, .int x3), (5, .int x5), (6, .int x6), (8, .int x8)] → va_K (dC, dI) zCl [(cA2, .char)] s → va_P (dC, dI) zCl [(h0, .inr (6, o_Look I0 h2)), (h1, .inr (3, o_Digits I1 J1)), (h2, .inl (cA2, n2, .inl f2))] H → va_D A [(h0, .inr (6, o_Look I0 h2)), (h1, .inr (3, o_Digits I1 J1)), (h2, .inl (cA2, n2, .inl f2))] → va_S A s.heap H locs → N0 ≤ n2 ∧ n2 ≤ NF → k32 I0 n2 f2 x8 → W p l e (headSpec (Cond.code (⟨"NumberDress$Look", "putPlace", "(LNumberDress$Digits;IIIZ)V"⟩ : MethodName) prog_7_method_8_code 10 none :: zT) { frames := 2, cells := 2 * NF - 2 * N0, slots := 2 * NF - 2 * N0, locals := 62 }).room s m args below meth c H locs (2 * n2 - 2 * N0) (2 * n2 - 2 * N0) (MQ below (va_Qv (fun u : (Nat → Int32) × Nat × (Nat → Int32) => u.2.1 = NF ∧ Z u) (fun (u : (Nat → Int32) × Nat × (Nat → Int32)) t => ∃ (b9 : Nat) (k9 : ClassId), va_P (dC, dI) zCl [(h0, .inr (6, o_Look u.1 b9)), (h1, .inr (3, o_Digits I1 J1)), (b9, .inl (k9, u.2.1, .inl u.2.2))] t.heap ∧ va_K (dC, dI) zCl [(k9, .char)] t ∧ va_D A [(h0, .inr (6, o_Look u.1 b9)), (h1, .inr (3, o_Digits I1 J1)), (b9, .inl (k9, u.2.1, .inl u.2.2))]) A) args s (2 * NF - 2 * N0) (2 * NF - 2 * N0) A) (F0 m 32 ls [])) (hl : lv_has ls 10 [(0, .ref h0), (1, .ref h1), (2, .int x2), (3, .int x3), (5, .int x5), (6, .int x6), (8, .int x8), (9, .int x9)]) (hK : va_K (dC, dI) zCl [(cA2, .char)] s) (hP : va_P (dC, dI) zCl [(h0, .inr (6, o_Look I0 h2)), (h1, .inr (3, o_Digits I1 J1)), (h2, .inl (cA2, n2, .inl f2))] H) (hD : va_D A [(h0, .inr (6, o_Look I0 h2)), (h1, .inr (3, o_Digits I1 J1)), (h2, .inl (cA2, n2, .inl f2))]) (hS : va_S A s.heap H locs) (hN : N0 ≤ n2 ∧ n2 ≤ NF) (hv : v_Look_putPlace_72 I0 I1 J1 n2 f2 x2 x3 x5 x6 x8 x9 s1 s2 k32 NF Z) : W p l e (headSpec (Cond.code (⟨"NumberDress$Look", "putPlace", "(LNumberDress$Digits;IIIZ)V"⟩ : MethodName) prog_7_method_8_code 10 none :: zT) { frames := 2, cells := 2 * NF - 2 * N0, slots := 2 * NF - 2 * N0, locals := 62 }).room s m args below meth c H locs (2 * n2 - 2 * N0) (2 * n2 - 2 * N0) (MQ below (va_Qv (fun u : (Nat → Int32) × Nat × (Nat → Int32) => u.2.1 = NF ∧ Z u) (fun (u : (Nat → Int32) × Nat × (Nat → Int32)) t => ∃ (b9 : Nat) (k9 : ClassId), va_P (dC, dI) zCl [(h0, .inr (6, o_Look u.1 b9)), (h1, .inr (3, o_Digits I1 J1)), (b9, .inl (k9, u.2.1, .inl u.2.2))] t.heap ∧ va_K (dC, dI) zCl [(k9, .char)] t ∧ va_D A [(h0, .inr (6, o_Look u.1 b9)), (h1, .inr (3, o_Digits I1 J1)), (b9, .inl (k9, u.2.1, .inl u.2.2))]) A) args s (2 * NF - 2 * N0) (2 * NF - 2 * N0) A) (F0 m 72 ls [.int s2, .int s1, .ref h0]) := by
  obtain ⟨hx, hb, hr, hml, hown, ht, hlocks⟩ := id hc
  unfold v_Look_putPlace_72 at hv
  refine lv_iadd hx hb d_Look_putPlace_72 ?_
  obtain ⟨Nc, hn1, hn2, hv⟩ := hv
  refine z_callvx (wc := [(h0, .inr (6, o_Look I0 h2)), (h2, .inl (cA2, n2, .inl f2))]) (wr := [(h1, .inr (3, o_Digits I1 J1))]) [0, 2] [1] [] (va_runV (As := [.int (s1 + s2)]) (rest := []) ⟨hx, hb, hml, hown, ht⟩ (m_Look_put l dC dI hn1 hv) ⟨(callB_of 1 ht (zG_in zi_Look_put) rfl rfl rfl (ht _ zw_121) (ht _ zw_901) zh_Look_put ⟨Nat.le_of_ble_eq_true rfl, Nat.le_of_ble_eq_true rfl⟩), (ht _ zw_865), (ht _ zw_866)⟩ ⟨zPc_blind, va_recv hK hP (ci := 6) (q0 := 0) rfl rfl, zPc_pre hP hK hD hS hA hE [0, 2] [0] rfl rfl (by decide) rfl⟩ rfl rfl hl.1 rfl (lv_room (Nat.le_of_ble_eq_true rfl)) d_Look_putPlace_73 ⟨by show _ ≤ 2 * NF - 2 * N0; omega, by show _ ≤ 2 * NF - 2 * N0; omega⟩) hK hP hD hS hA rfl rfl rfl (by decide) (by decide) (fun u b kb H locs hv hK hP hD hS => ?_)
  obtain ⟨en, hv⟩ := hv
  have hP : va_P (dC, dI) zCl [(h0, .inr (6, o_Look u.1 b)), (h1, .inr (3, o_Digits I1 J1)), (b, .inl (kb, u.2.1, .inl u.2.2))] H := hP.sub [1, 0, 2] rfl
  have hD : va_D A [(h0, .inr (6, o_Look u.1 b)), (h1, .inr (3, o_Digits I1 J1)), (b, .inl (kb, u.2.1, .inl u.2.2))] := hD.sub [1, 0, 2] (by decide) rfl
  have hK : va_K (dC, dI) zCl [(kb, .char)] s := hK.sub [0] rfl
  have hN : N0 ≤ u.2.1 ∧ u.2.1 ≤ NF := by rw [en]; omega
  refine W.widen (k := 2 * u.2.1 - 2 * N0) (n := 2 * u.2.1 - 2 * N0) (by rw [en]; omega) (by rw [en]; omega) ?_
  exact b_Look_putPlace_76 hc hA hE hk32 (lv_sub hl [0, 1, 2, 3, 4, 5, 6, 7] rfl) hK hP hD hS hN hv
set_option maxHeartbeats 4000000 in
set_option maxRecDepth 100000 in
theorem b_Look_putPlace_56 {h0 : Nat} {h1 : Nat} {h2 : Nat} {cA2 : ClassId} {I0 : Nat → Int32} {I1 : Nat → Int32} {J1 : Nat → Int64} {n2 : Nat} {f2 : Nat → Int32} {x2 : Int32} {x3 : Int32} {x5 : Int32} {x6 : Int32} {x8 : Int32} {s0 : Int32} {k32 : (Nat → Int32) → Nat → (Nat → Int32) → Int32 → Prop} {N0 NF : Nat} {Z : (Nat → Int32) × Nat × (Nat → Int32) → Prop} {H : Heap} {locs : List Loc} {ls : Array Slot} (hc : zC p s m args meth c prog_7_method_8_code none 10 "NumberDress$Look") (hA : ∀ q : Nat, s.heap.size ≤ q → A q) (hE : zE gE A s) (hk32 : ∀ (I0 : Nat → Int32) (n2 : Nat) (f2 : Nat → Int32) (x8 : Int32) (H : Heap) (locs : List Loc) (ls : Array Slot) (h2 : Nat) (cA2 : ClassId), lv_has ls 10 [(0, .ref h0), (1, .ref h1), (2, .int x2), (3, .int x3), (5, .int x5), (6, .int x6), (8, .int x8)] → va_K (dC, dI) zCl [(cA2, .char)] s → va_P (dC, dI) zCl [(h0, .inr (6, o_Look I0 h2)), (h1, .inr (3, o_Digits I1 J1)), (h2, .inl (cA2, n2, .inl f2))] H → va_D A [(h0, .inr (6, o_Look I0 h2)), (h1, .inr (3, o_Digits I1 J1)), (h2, .inl (cA2, n2, .inl f2))] → va_S A s.heap H locs → N0 ≤ n2 ∧ n2 ≤ NF → k32 I0 n2 f2 x8 → W p l e (headSpec (Cond.code (⟨"NumberDress$Look", "putPlace", "(LNumberDress$Digits;IIIZ)V"⟩ : MethodName) prog_7_method_8_code 10 none :: zT) { frames := 2, cells := 2 * NF - 2 * N0, slots := 2 * NF - 2 * N0, locals := 62 }).room s m args below meth c H locs (2 * n2 - 2 * N0) (2 * n2 - 2 * N0) (MQ below (va_Qv (fun u : (Nat → Int32) × Nat × (Nat → Int32) => u.2.1 = NF ∧ Z u) (fun (u : (Nat → Int32) × Nat × (Nat → Int32)) t => ∃ (b9 : Nat) (k9 : ClassId), va_P (dC, dI) zCl [(h0, .inr (6, o_Look u.1 b9)), (h1, .inr (3, o_Digits I1 J1)), (b9, .inl (k9, u.2.1, .inl u.2.2))] t.heap ∧ va_K (dC, dI) zCl [(k9, .char)] t ∧ va_D A [(h0, .inr (6, o_Look u.1 b9)), (h1, .inr (3, o_Digits I1 J1)), (b9, .inl (k9, u.2.1, .inl u.2.2))]) A) args s (2 * NF - 2 * N0) (2 * NF - 2 * N0) A) (F0 m 32 ls [])) (hl : lv_has ls 10 [(0, .ref h0), (1, .ref h1), (2, .int x2), (3, .int x3), (5, .int x5), (6, .int x6), (8, .int x8)]) (hK : va_K (dC, dI) zCl [(cA2, .char)] s) (hP : va_P (dC, dI) zCl [(h0, .inr (6, o_Look I0 h2)), (h1, .inr (3, o_Digits I1 J1)), (h2, .inl (cA2, n2, .inl f2))] H) (hD : va_D A [(h0, .inr (6, o_Look I0 h2)), (h1, .inr (3, o_Digits I1 J1)), (h2, .inl (cA2, n2, .inl f2))]) (hS : va_S A s.heap H locs) (hN : N0 ≤ n2 ∧ n2 ≤ NF) (hv : v_Look_putPlace_56 I0 I1 J1 n2 f2 x2 x3 x5 x6 x8 s0 k32 NF Z) : W p l e (headSpec (Cond.code (⟨"NumberDress$Look", "putPlace", "(LNumberDress$Digits;IIIZ)V"⟩ : MethodName) prog_7_method_8_code 10 none :: zT) { frames := 2, cells := 2 * NF - 2 * N0, slots := 2 * NF - 2 * N0, locals := 62 }).room s m args below meth c H locs (2 * n2 - 2 * N0) (2 * n2 - 2 * N0) (MQ below (va_Qv (fun u : (Nat → Int32) × Nat × (Nat → Int32) => u.2.1 = NF ∧ Z u) (fun (u : (Nat → Int32) × Nat × (Nat → Int32)) t => ∃ (b9 : Nat) (k9 : ClassId), va_P (dC, dI) zCl [(h0, .inr (6, o_Look u.1 b9)), (h1, .inr (3, o_Digits I1 J1)), (b9, .inl (k9, u.2.1, .inl u.2.2))] t.heap ∧ va_K (dC, dI) zCl [(k9, .char)] t ∧ va_D A [(h0, .inr (6, o_Look u.1 b9)), (h1, .inr (3, o_Digits I1 J1)), (b9, .inl (k9, u.2.1, .inl u.2.2))]) A) args s (2 * NF - 2 * N0) (2 * NF - 2 * N0) A) (F0 m 56 ls [.int s0]) := by
  obtain ⟨hx, hb, hr, hml, hown, ht, hlocks⟩ := id hc
  unfold v_Look_putPlace_56 at hv
  refine lv_istore (lv' := [(9, .int s0), (0, .ref h0), (1, .ref h1), (2, .int x2), (3, .int x3), (5, .int x5), (6, .int x6), (8, .int x8)]) hx hb d_Look_putPlace_56 hl (by decide) rfl (fun ls hl => ?_)
  refine lv_iload hx hb d_Look_putPlace_58 (lv_at hl 0 rfl) ?_
  refine lv_if_eq (tgt := 79) hx hb d_Look_putPlace_60 (by decide) (fun c_1 => ?_) (fun c_1 => ?_)
  · have hv := hv.1 c_1
    refine lv_iload_n hx hb d_Look_putPlace_79 rfl (lv_at hl 3 rfl) ?_
    refine lv_bipush (v := (63 : Int32)) hx hb d_Look_putPlace_80 (by decide) ?_
    refine lv_icmp_ne (tgt := 91) hx hb d_Look_putPlace_82 (by decide) (fun c_2 => ?_) (fun c_2 => ?_)
    · have hv := hv.1 c_2
      exact b_Look_putPlace_91 hc hA hE hk32 (lv_sub hl [1, 2, 3, 4, 5, 6, 7, 0] rfl) hK hP hD hS hN hv
    · have hv := hv.2 c_2
      refine lv_aload_n hx hb d_Look_putPlace_85 rfl (lv_at hl 1 rfl) ?_
      refine lv_bipush (v := (32 : Int32)) hx hb d_Look_putPlace_86 (by decide) ?_
      obtain ⟨Nc, hn1, hn2, hv⟩ := hv
      refine z_callvx (wc := [(h0, .inr (6, o_Look I0 h2)), (h2, .inl (cA2, n2, .inl f2))]) (wr := [(h1, .inr (3, o_Digits I1 J1))]) [0, 2] [1] [] (va_runV (As := [.int (32 : Int32)]) (rest := []) ⟨hx, hb, hml, hown, ht⟩ (m_Look_put l dC dI hn1 hv) ⟨(callB_of 1 ht (zG_in zi_Look_put) rfl rfl rfl (ht _ zw_121) (ht _ zw_901) zh_Look_put ⟨Nat.le_of_ble_eq_true rfl, Nat.le_of_ble_eq_true rfl⟩), (ht _ zw_865), (ht _ zw_866)⟩ ⟨zPc_blind, va_recv hK hP (ci := 6) (q0 := 0) rfl rfl, zPc_pre hP hK hD hS hA hE [0, 2] [0] rfl rfl (by decide) rfl⟩ rfl rfl hl.1 rfl (lv_room (Nat.le_of_ble_eq_true rfl)) d_Look_putPlace_88 ⟨by show _ ≤ 2 * NF - 2 * N0; omega, by show _ ≤ 2 * NF - 2 * N0; omega⟩) hK hP hD hS hA rfl rfl rfl (by decide) (by decide) (fun u b kb H locs hv hK hP hD hS => ?_)
      obtain ⟨en, hv⟩ := hv
      have hP : va_P (dC, dI) zCl [(h0, .inr (6, o_Look u.1 b)), (h1, .inr (3, o_Digits I1 J1)), (b, .inl (kb, u.2.1, .inl u.2.2))] H := hP.sub [1, 0, 2] rfl
      have hD : va_D A [(h0, .inr (6, o_Look u.1 b)), (h1, .inr (3, o_Digits I1 J1)), (b, .inl (kb, u.2.1, .inl u.2.2))] := hD.sub [1, 0, 2] (by decide) rfl
      have hK : va_K (dC, dI) zCl [(kb, .char)] s := hK.sub [0] rfl
      have hN : N0 ≤ u.2.1 ∧ u.2.1 ≤ NF := by rw [en]; omega
      refine W.widen (k := 2 * u.2.1 - 2 * N0) (n := 2 * u.2.1 - 2 * N0) (by rw [en]; omega) (by rw [en]; omega) ?_
      exact b_Look_putPlace_91 hc hA hE hk32 (lv_sub hl [1, 2, 3, 4, 5, 6, 7, 0] rfl) hK hP hD hS hN hv
  · have hv := hv.2 c_1
    refine lv_aload_n hx hb d_Look_putPlace_63 rfl (lv_at hl 1 rfl) ?_
    refine lv_bipush (v := (48 : Int32)) hx hb d_Look_putPlace_64 (by decide) ?_
    refine lv_aload_n hx hb d_Look_putPlace_66 rfl (lv_at hl 2 rfl) ?_
    refine lv_iload hx hb d_Look_putPlace_67 (lv_at hl 7 rfl) ?_
    refine z_calli (wc := [(h1, .inr (3, o_Digits I1 J1))]) (wr := [(h0, .inr (6, o_Look I0 h2)), (h2, .inl (cA2, n2, .inl f2))]) [1] [0, 2] (va_runV (As := [.int x8]) (rest := [.int (48 : Int32), .ref h0]) ⟨hx, hb, hml, hown, ht⟩ (m_Digits_digit l dC dI hv) ⟨(callB_of 1 ht (zG_in zi_Digits_digit) rfl rfl rfl (ht _ zw_117) (ht _ zw_966) zh_Digits_digit ⟨Nat.le_of_ble_eq_true rfl, Nat.le_of_ble_eq_true rfl⟩), (ht _ zw_967), (ht _ zw_968)⟩ ⟨zPc_blind, va_recv hK hP (ci := 3) (q0 := 1) rfl rfl, zPc_pre hP hK hD hS hA hE [1] [] rfl rfl (by decide) rfl⟩ rfl rfl hl.1 rfl (lv_room (Nat.le_of_ble_eq_true rfl)) d_Look_putPlace_69 ⟨by show _ ≤ 2 * NF - 2 * N0; omega, by show _ ≤ 2 * NF - 2 * N0; omega⟩) hP hD hS hA rfl rfl (by decide) (by decide) (fun r u H locs hv hP hD hS => ?_)
    have hP : va_P (dC, dI) zCl [(h0, .inr (6, o_Look I0 h2)), (h1, .inr (3, o_Digits I1 J1)), (h2, .inl (cA2, n2, .inl f2))] H := hP.sub [0, 2, 1] rfl
    have hD : va_D A [(h0, .inr (6, o_Look I0 h2)), (h1, .inr (3, o_Digits I1 J1)), (h2, .inl (cA2, n2, .inl f2))] := hD.sub [0, 2, 1] (by decide) rfl
    exact b_Look_putPlace_72 hc hA hE hk32 (lv_sub hl [1, 2, 3, 4, 5, 6, 7, 0] rfl) hK hP hD hS hN hv
set_option maxHeartbeats 4000000 in
set_option maxRecDepth 100000 in
theorem b_Look_putPlace_51 {h0 : Nat} {h1 : Nat} {h2 : Nat} {cA2 : ClassId} {I0 : Nat → Int32} {I1 : Nat → Int32} {J1 : Nat → Int64} {n2 : Nat} {f2 : Nat → Int32} {x2 : Int32} {x3 : Int32} {x5 : Int32} {x6 : Int32} {x8 : Int32} {k32 : (Nat → Int32) → Nat → (Nat → Int32) → Int32 → Prop} {N0 NF : Nat} {Z : (Nat → Int32) × Nat × (Nat → Int32) → Prop} {H : Heap} {locs : List Loc} {ls : Array Slot} (hc : zC p s m args meth c prog_7_method_8_code none 10 "NumberDress$Look") (hA : ∀ q : Nat, s.heap.size ≤ q → A q) (hE : zE gE A s) (hk32 : ∀ (I0 : Nat → Int32) (n2 : Nat) (f2 : Nat → Int32) (x8 : Int32) (H : Heap) (locs : List Loc) (ls : Array Slot) (h2 : Nat) (cA2 : ClassId), lv_has ls 10 [(0, .ref h0), (1, .ref h1), (2, .int x2), (3, .int x3), (5, .int x5), (6, .int x6), (8, .int x8)] → va_K (dC, dI) zCl [(cA2, .char)] s → va_P (dC, dI) zCl [(h0, .inr (6, o_Look I0 h2)), (h1, .inr (3, o_Digits I1 J1)), (h2, .inl (cA2, n2, .inl f2))] H → va_D A [(h0, .inr (6, o_Look I0 h2)), (h1, .inr (3, o_Digits I1 J1)), (h2, .inl (cA2, n2, .inl f2))] → va_S A s.heap H locs → N0 ≤ n2 ∧ n2 ≤ NF → k32 I0 n2 f2 x8 → W p l e (headSpec (Cond.code (⟨"NumberDress$Look", "putPlace", "(LNumberDress$Digits;IIIZ)V"⟩ : MethodName) prog_7_method_8_code 10 none :: zT) { frames := 2, cells := 2 * NF - 2 * N0, slots := 2 * NF - 2 * N0, locals := 62 }).room s m args below meth c H locs (2 * n2 - 2 * N0) (2 * n2 - 2 * N0) (MQ below (va_Qv (fun u : (Nat → Int32) × Nat × (Nat → Int32) => u.2.1 = NF ∧ Z u) (fun (u : (Nat → Int32) × Nat × (Nat → Int32)) t => ∃ (b9 : Nat) (k9 : ClassId), va_P (dC, dI) zCl [(h0, .inr (6, o_Look u.1 b9)), (h1, .inr (3, o_Digits I1 J1)), (b9, .inl (k9, u.2.1, .inl u.2.2))] t.heap ∧ va_K (dC, dI) zCl [(k9, .char)] t ∧ va_D A [(h0, .inr (6, o_Look u.1 b9)), (h1, .inr (3, o_Digits I1 J1)), (b9, .inl (k9, u.2.1, .inl u.2.2))]) A) args s (2 * NF - 2 * N0) (2 * NF - 2 * N0) A) (F0 m 32 ls [])) (hl : lv_has ls 10 [(0, .ref h0), (1, .ref h1), (2, .int x2), (3, .int x3), (5, .int x5), (6, .int x6), (8, .int x8)]) (hK : va_K (dC, dI) zCl [(cA2, .char)] s) (hP : va_P (dC, dI) zCl [(h0, .inr (6, o_Look I0 h2)), (h1, .inr (3, o_Digits I1 J1)), (h2, .inl (cA2, n2, .inl f2))] H) (hD : va_D A [(h0, .inr (6, o_Look I0 h2)), (h1, .inr (3, o_Digits I1 J1)), (h2, .inl (cA2, n2, .inl f2))]) (hS : va_S A s.heap H locs) (hN : N0 ≤ n2 ∧ n2 ≤ NF) (hv : v_Look_putPlace_51 I0 I1 J1 n2 f2 x2 x3 x5 x6 x8 k32 NF Z) : W p l e (headSpec (Cond.code (⟨"NumberDress$Look", "putPlace", "(LNumberDress$Digits;IIIZ)V"⟩ : MethodName) prog_7_method_8_code 10 none :: zT) { frames := 2, cells := 2 * NF - 2 * N0, slots := 2 * NF - 2 * N0, locals := 62 }).room s m args below meth c H locs (2 * n2 - 2 * N0) (2 * n2 - 2 * N0) (MQ below (va_Qv (fun u : (Nat → Int32) × Nat × (Nat → Int32) => u.2.1 = NF ∧ Z u) (fun (u : (Nat → Int32) × Nat × (Nat → Int32)) t => ∃ (b9 : Nat) (k9 : ClassId), va_P (dC, dI) zCl [(h0, .inr (6, o_Look u.1 b9)), (h1, .inr (3, o_Digits I1 J1)), (b9, .inl (k9, u.2.1, .inl u.2.2))] t.heap ∧ va_K (dC, dI) zCl [(k9, .char)] t ∧ va_D A [(h0, .inr (6, o_Look u.1 b9)), (h1, .inr (3, o_Digits I1 J1)), (b9, .inl (k9, u.2.1, .inl u.2.2))]) A) args s (2 * NF - 2 * N0) (2 * NF - 2 * N0) A) (F0 m 51 ls []) := by
  obtain ⟨hx, hb, hr, hml, hown, ht, hlocks⟩ := id hc
  unfold v_Look_putPlace_51 at hv
  refine lv_iconst (v := (1 : Int32)) hx hb d_Look_putPlace_51 (by decide) ?_
  refine lv_goto (tgt := 56) hx hb d_Look_putPlace_52 (by decide) ?_
  exact b_Look_putPlace_56 hc hA hE hk32 (lv_sub hl [0, 1, 2, 3, 4, 5, 6] rfl) hK hP hD hS hN hv
set_option maxHeartbeats 4000000 in
set_option maxRecDepth 100000 in
theorem b_Look_putPlace_32 {h0 : Nat} {h1 : Nat}   {I1 : Nat → Int32} {J1 : Nat → Int64} {x2 : Int32} {x3 : Int32} {x5 : Int32} {x6 : Int32}  {N0 NF : Nat} {Z : (Nat → Int32) × Nat × (Nat → Int32) → Prop} (hc : zC p s m args meth c prog_7_method_8_code none 10 "NumberDress$Look") (hA : ∀ q : Nat, s.heap.size ≤ q → A q) (hE : zE gE A s) : ∀ (N : Nat) (I0 : Nat → Int32) (n2 : Nat) (f2 : Nat → Int32) (x8 : Int32) (H : Heap) (locs : List Loc) (ls : Array Slot) (h2 : Nat) (cA2 : ClassId), lv_has ls 10 [(0, .ref h0), (1, .ref h1), (2, .int x2), (3, .int x3), (5, .int x5), (6, .int x6), (8, .int x8)] → va_K (dC, dI) zCl [(cA2, .char)] s → va_P (dC, dI) zCl [(h0, .inr (6, o_Look I0 h2)), (h1, .inr (3, o_Digits I1 J1)), (h2, .inl (cA2, n2, .inl f2))] H → va_D A [(h0, .inr (6, o_Look I0 h2)), (h1, .inr (3, o_Digits I1 J1)), (h2, .inl (cA2, n2, .inl f2))] → va_S A s.heap H locs → N0 ≤ n2 ∧ n2 ≤ NF → v_Look_putPlace_32 I1 J1 x2 x3 x5 x6  NF Z N I0 n2 f2 x8 → W p l e (headSpec (Cond.code (⟨"NumberDress$Look", "putPlace", "(LNumberDress$Digits;IIIZ)V"⟩ : MethodName) prog_7_method_8_code 10 none :: zT) { frames := 2, cells := 2 * NF - 2 * N0, slots := 2 * NF - 2 * N0, locals := 62 }).room s m args below meth c H locs (2 * n2 - 2 * N0) (2 * n2 - 2 * N0) (MQ below (va_Qv (fun u : (Nat → Int32) × Nat × (Nat → Int32) => u.2.1 = NF ∧ Z u) (fun (u : (Nat → Int32) × Nat × (Nat → Int32)) t => ∃ (b9 : Nat) (k9 : ClassId), va_P (dC, dI) zCl [(h0, .inr (6, o_Look u.1 b9)), (h1, .inr (3, o_Digits I1 J1)), (b9, .inl (k9, u.2.1, .inl u.2.2))] t.heap ∧ va_K (dC, dI) zCl [(k9, .char)] t ∧ va_D A [(h0, .inr (6, o_Look u.1 b9)), (h1, .inr (3, o_Digits I1 J1)), (b9, .inl (k9, u.2.1, .inl u.2.2))]) A) args s (2 * NF - 2 * N0) (2 * NF - 2 * N0) A) (F0 m 32 ls []) := by
  obtain ⟨hx, hb, hr, hml, hown, ht, hlocks⟩ := id hc
  intro N
  induction N with
  | zero => intro I0 n2 f2 x8 H locs ls h2 cA2 hl hK hP hD hS hN hv; exact hv.elim
  | succ N hk32 =>
    intro I0 n2 f2 x8 H locs ls h2 cA2 hl hK hP hD hS hN hv
    unfold v_Look_putPlace_32 at hv
    refine lv_iload hx hb d_Look_putPlace_32 (lv_at hl 6 rfl) ?_
    refine lv_iload_n hx hb d_Look_putPlace_34 rfl (lv_at hl 3 rfl) ?_
    refine lv_icmp_lt (tgt := 125) hx hb d_Look_putPlace_35 (by decide) (fun c_1 => ?_) (fun c_1 => ?_)
    · have hv := hv.1 c_1
      obtain ⟨rfl, hz⟩ := hv
      exact W.vret hx hb hr (fun t ht hW => ⟨⟨(I0, n2, f2), rfl, ⟨rfl, hz⟩, ⟨h2, cA2, by rw [ht]; exact hP, va_K.moved hW.alike hK, hD⟩⟩, hS.F ht⟩) hS.2.2 d_Look_putPlace_125
    · have hv := hv.2 c_1
      refine lv_iload hx hb d_Look_putPlace_38 (lv_at hl 6 rfl) ?_
      refine lv_iload hx hb d_Look_putPlace_40 (lv_at hl 5 rfl) ?_
      refine lv_icmp_lt (tgt := 51) hx hb d_Look_putPlace_42 (by decide) (fun c_2 => ?_) (fun c_2 => ?_)
      · have hv := hv.1 c_2
        exact b_Look_putPlace_51 hc hA hE hk32 (lv_sub hl [0, 1, 2, 3, 4, 5, 6] rfl) hK hP hD hS hN hv
      · have hv := hv.2 c_2
        refine lv_iload_n hx hb d_Look_putPlace_45 rfl (lv_at hl 2 rfl) ?_
        refine lv_bipush (v := (48 : Int32)) hx hb d_Look_putPlace_46 (by decide) ?_
        refine lv_icmp_ne (tgt := 55) hx hb d_Look_putPlace_48 (by decide) (fun c_3 => ?_) (fun c_3 => ?_)
        · have hv := hv.1 c_3
          refine lv_iconst (v := (0 : Int32)) hx hb d_Look_putPlace_55 (by decide) ?_
          exact b_Look_putPlace_56 hc hA hE hk32 (lv_sub hl [0, 1, 2, 3, 4, 5, 6] rfl) hK hP hD hS hN hv
        · have hv := hv.2 c_3
          exact b_Look_putPlace_51 hc hA hE hk32 (lv_sub hl [0, 1, 2, 3, 4, 5, 6] rfl) hK hP hD hS hN hv
set_option maxHeartbeats 4000000 in
set_option maxRecDepth 100000 in
theorem b_Look_putPlace_26 {h0 : Nat} {h1 : Nat} {h2 : Nat} {cA2 : ClassId} {I0 : Nat → Int32} {I1 : Nat → Int32} {J1 : Nat → Int64} {n2 : Nat} {f2 : Nat → Int32} {x2 : Int32} {x3 : Int32} {x5 : Int32} {x6 : Int32} {s0 : Int32}  {N0 NF : Nat} {Z : (Nat → Int32) × Nat × (Nat → Int32) → Prop} {H : Heap} {locs : List Loc} {ls : Array Slot} (hc : zC p s m args meth c prog_7_method_8_code none 10 "NumberDress$Look") (hA : ∀ q : Nat, s.heap.size ≤ q → A q) (hE : zE gE A s) (hl : lv_has ls 10 [(0, .ref h0), (1, .ref h1), (2, .int x2), (3, .int x3), (5, .int x5), (6, .int x6)]) (hK : va_K (dC, dI) zCl [(cA2, .char)] s) (hP : va_P (dC, dI) zCl [(h0, .inr (6, o_Look I0 h2)), (h1, .inr (3, o_Digits I1 J1)), (h2, .inl (cA2, n2, .inl f2))] H) (hD : va_D A [(h0, .inr (6, o_Look I0 h2)), (h1, .inr (3, o_Digits I1 J1)), (h2, .inl (cA2, n2, .inl f2))]) (hS : va_S A s.heap H locs) (hN : N0 ≤ n2 ∧ n2 ≤ NF) (hv : v_Look_putPlace_26 I0 I1 J1 n2 f2 x2 x3 x5 x6 s0  NF Z) : W p l e (headSpec (Cond.code (⟨"NumberDress$Look", "putPlace", "(LNumberDress$Digits;IIIZ)V"⟩ : MethodName) prog_7_method_8_code 10 none :: zT) { frames := 2, cells := 2 * NF - 2 * N0, slots := 2 * NF - 2 * N0, locals := 62 }).room s m args below meth c H locs (2 * n2 - 2 * N0) (2 * n2 - 2 * N0) (MQ below (va_Qv (fun u : (Nat → Int32) × Nat × (Nat → Int32) => u.2.1 = NF ∧ Z u) (fun (u : (Nat → Int32) × Nat × (Nat → Int32)) t => ∃ (b9 : Nat) (k9 : ClassId), va_P (dC, dI) zCl [(h0, .inr (6, o_Look u.1 b9)), (h1, .inr (3, o_Digits I1 J1)), (b9, .inl (k9, u.2.1, .inl u.2.2))] t.heap ∧ va_K (dC, dI) zCl [(k9, .char)] t ∧ va_D A [(h0, .inr (6, o_Look u.1 b9)), (h1, .inr (3, o_Digits I1 J1)), (b9, .inl (k9, u.2.1, .inl u.2.2))]) A) args s (2 * NF - 2 * N0) (2 * NF - 2 * N0) A) (F0 m 26 ls [.int s0]) := by
  obtain ⟨hx, hb, hr, hml, hown, ht, hlocks⟩ := id hc
  unfold v_Look_putPlace_26 at hv
  refine lv_istore (lv' := [(7, .int s0), (0, .ref h0), (1, .ref h1), (2, .int x2), (3, .int x3), (5, .int x5), (6, .int x6)]) hx hb d_Look_putPlace_26 hl (by decide) rfl (fun ls hl => ?_)
  refine lv_iload hx hb d_Look_putPlace_28 (lv_at hl 0 rfl) ?_
  refine lv_istore (lv' := [(8, .int s0), (7, .int s0), (0, .ref h0), (1, .ref h1), (2, .int x2), (3, .int x3), (5, .int x5), (6, .int x6)]) hx hb d_Look_putPlace_30 hl (by decide) rfl (fun ls hl => ?_)
  obtain ⟨Nx, hv⟩ := hv
  exact b_Look_putPlace_32 hc hA hE  Nx I0 n2 f2 s0 _ _ _ _ _ (lv_sub hl [2, 3, 4, 5, 6, 7, 0] rfl) hK hP hD hS hN hv
set_option maxHeartbeats 4000000 in
set_option maxRecDepth 100000 in
theorem b_Look_putPlace_4 {h0 : Nat} {h1 : Nat} {h2 : Nat} {cA2 : ClassId} {I0 : Nat → Int32} {I1 : Nat → Int32} {J1 : Nat → Int64} {n2 : Nat} {f2 : Nat → Int32} {x2 : Int32} {x3 : Int32} {x4 : Int32} {x5 : Int32} {s0 : Int32}  {N0 NF : Nat} {Z : (Nat → Int32) × Nat × (Nat → Int32) → Prop} {H : Heap} {locs : List Loc} {ls : Array Slot} (hc : zC p s m args meth c prog_7_method_8_code none 10 "NumberDress$Look") (hA : ∀ q : Nat, s.heap.size ≤ q → A q) (hE : zE gE A s) (hl : lv_has ls 10 [(0, .ref h0), (1, .ref h1), (2, .int x2), (3, .int x3), (4, .int x4), (5, .int x5)]) (hK : va_K (dC, dI) zCl [(cA2, .char)] s) (hP : va_P (dC, dI) zCl [(h0, .inr (6, o_Look I0 h2)), (h1, .inr (3, o_Digits I1 J1)), (h2, .inl (cA2, n2, .inl f2))] H) (hD : va_D A [(h0, .inr (6, o_Look I0 h2)), (h1, .inr (3, o_Digits I1 J1)), (h2, .inl (cA2, n2, .inl f2))]) (hS : va_S A s.heap H locs) (hN : N0 ≤ n2 ∧ n2 ≤ NF) (hv : v_Look_putPlace_4 I0 I1 J1 n2 f2 x2 x3 x4 x5 s0  NF Z) : W p l e (headSpec (Cond.code (⟨"NumberDress$Look", "putPlace", "(LNumberDress$Digits;IIIZ)V"⟩ : MethodName) prog_7_method_8_code 10 none :: zT) { frames := 2, cells := 2 * NF - 2 * N0, slots := 2 * NF - 2 * N0, locals := 62 }).room s m args below meth c H locs (2 * n2 - 2 * N0) (2 * n2 - 2 * N0) (MQ below (va_Qv (fun u : (Nat → Int32) × Nat × (Nat → Int32) => u.2.1 = NF ∧ Z u) (fun (u : (Nat → Int32) × Nat × (Nat → Int32)) t => ∃ (b9 : Nat) (k9 : ClassId), va_P (dC, dI) zCl [(h0, .inr (6, o_Look u.1 b9)), (h1, .inr (3, o_Digits I1 J1)), (b9, .inl (k9, u.2.1, .inl u.2.2))] t.heap ∧ va_K (dC, dI) zCl [(k9, .char)] t ∧ va_D A [(h0, .inr (6, o_Look u.1 b9)), (h1, .inr (3, o_Digits I1 J1)), (b9, .inl (k9, u.2.1, .inl u.2.2))]) A) args s (2 * NF - 2 * N0) (2 * NF - 2 * N0) A) (F0 m 4 ls [.int s0]) := by
  obtain ⟨hx, hb, hr, hml, hown, ht, hlocks⟩ := id hc
  unfold v_Look_putPlace_4 at hv
  refine lv_istore (lv' := [(6, .int s0), (0, .ref h0), (1, .ref h1), (2, .int x2), (3, .int x3), (4, .int x4), (5, .int x5)]) hx hb d_Look_putPlace_4 hl (by decide) rfl (fun ls hl => ?_)
  refine lv_iload_n hx hb d_Look_putPlace_6 rfl (lv_at hl 4 rfl) ?_
  refine lv_iload hx hb d_Look_putPlace_7 (lv_at hl 5 rfl) ?_
  refine lv_iconst (v := (1 : Int32)) hx hb d_Look_putPlace_9 (by decide) ?_
  refine lv_isub hx hb d_Look_putPlace_10 ?_
  refine lv_icmp_ne (tgt := 25) hx hb d_Look_putPlace_11 (by decide) (fun c_1 => ?_) (fun c_1 => ?_)
  · have hv := hv.1 c_1
    refine lv_iload_n hx hb d_Look_putPlace_25 rfl (lv_at hl 4 rfl) ?_
    exact b_Look_putPlace_26 hc hA hE  (lv_sub hl [1, 2, 3, 4, 6, 0] rfl) hK hP hD hS hN hv
  · have hv := hv.2 c_1
    refine lv_iload hx hb d_Look_putPlace_14 (lv_at hl 0 rfl) ?_
    refine lv_iconst (v := (1 : Int32)) hx hb d_Look_putPlace_16 (by decide) ?_
    refine lv_isub hx hb d_Look_putPlace_17 ?_
    refine lv_iload_n hx hb d_Look_putPlace_18 rfl (lv_at hl 4 rfl) ?_
    refine z_mmax hx hb (hml.trans hl.1.symm) hown (ht _ zw_965) (ht _ zw_615) (ht _ zw_128) (ht _ zw_616) (Nat.le_of_ble_eq_true rfl) (Nat.le_of_ble_eq_true rfl) (by show _ ≤ 2 * NF - 2 * N0; omega) (by show _ ≤ 2 * NF - 2 * N0; omega) d_Look_putPlace_19 ?_
    refine lv_goto (tgt := 26) hx hb d_Look_putPlace_22 (by decide) ?_
    exact b_Look_putPlace_26 hc hA hE  (lv_sub hl [1, 2, 3, 4, 6, 0] rfl) hK hP hD hS hN hv
set_option maxHeartbeats 4000000 in
set_option maxRecDepth 100000 in
theorem b_Look_putPlace_0 {h0 : Nat} {h1 : Nat} {h2 : Nat} {cA2 : ClassId} {I0 : Nat → Int32} {I1 : Nat → Int32} {J1 : Nat → Int64} {n2 : Nat} {f2 : Nat → Int32} {x2 : Int32} {x3 : Int32} {x4 : Int32} {x5 : Int32}  {N0 NF : Nat} {Z : (Nat → Int32) × Nat × (Nat → Int32) → Prop} {H : Heap} {locs : List Loc} {ls : Array Slot} (hc : zC p s m args meth c prog_7_method_8_code none 10 "NumberDress$Look") (hA : ∀ q : Nat, s.heap.size ≤ q → A q) (hE : zE gE A s) (hl : lv_has ls 10 [(0, .ref h0), (1, .ref h1), (2, .int x2), (3, .int x3), (4, .int x4), (5, .int x5)]) (hK : va_K (dC, dI) zCl [(cA2, .char)] s) (hP : va_P (dC, dI) zCl [(h0, .inr (6, o_Look I0 h2)), (h1, .inr (3, o_Digits I1 J1)), (h2, .inl (cA2, n2, .inl f2))] H) (hD : va_D A [(h0, .inr (6, o_Look I0 h2)), (h1, .inr (3, o_Digits I1 J1)), (h2, .inl (cA2, n2, .inl f2))]) (hS : va_S A s.heap H locs) (hN : N0 ≤ n2 ∧ n2 ≤ NF) (hv : v_Look_putPlace_0 I0 I1 J1 n2 f2 x2 x3 x4 x5  NF Z) : W p l e (headSpec (Cond.code (⟨"NumberDress$Look", "putPlace", "(LNumberDress$Digits;IIIZ)V"⟩ : MethodName) prog_7_method_8_code 10 none :: zT) { frames := 2, cells := 2 * NF - 2 * N0, slots := 2 * NF - 2 * N0, locals := 62 }).room s m args below meth c H locs (2 * n2 - 2 * N0) (2 * n2 - 2 * N0) (MQ below (va_Qv (fun u : (Nat → Int32) × Nat × (Nat → Int32) => u.2.1 = NF ∧ Z u) (fun (u : (Nat → Int32) × Nat × (Nat → Int32)) t => ∃ (b9 : Nat) (k9 : ClassId), va_P (dC, dI) zCl [(h0, .inr (6, o_Look u.1 b9)), (h1, .inr (3, o_Digits I1 J1)), (b9, .inl (k9, u.2.1, .inl u.2.2))] t.heap ∧ va_K (dC, dI) zCl [(k9, .char)] t ∧ va_D A [(h0, .inr (6, o_Look u.1 b9)), (h1, .inr (3, o_Digits I1 J1)), (b9, .inl (k9, u.2.1, .inl u.2.2))]) A) args s (2 * NF - 2 * N0) (2 * NF - 2 * N0) A) (F0 m 0 ls []) := by
  obtain ⟨hx, hb, hr, hml, hown, ht, hlocks⟩ := id hc
  unfold v_Look_putPlace_0 at hv
  refine lv_aload_n hx hb d_Look_putPlace_0 rfl (lv_at hl 1 rfl) ?_
  refine z_calli (wc := [(h1, .inr (3, o_Digits I1 J1))]) (wr := [(h0, .inr (6, o_Look I0 h2)), (h2, .inl (cA2, n2, .inl f2))]) [1] [0, 2] (va_runV (As := []) (rest := []) ⟨hx, hb, hml, hown, ht⟩ (m_Digits_wholes l dC dI hv) ⟨(callB_of 0 ht (zG_in zi_Digits_wholes) rfl rfl rfl (ht _ zw_117) (ht _ zw_964) zh_Digits_wholes ⟨Nat.le_of_ble_eq_true rfl, Nat.le_of_ble_eq_true rfl⟩), (ht _ zw_943), (ht _ zw_944)⟩ ⟨zPc_blind, va_recv hK hP (ci := 3) (q0 := 1) rfl rfl, zPc_pre hP hK hD hS hA hE [1] [] rfl rfl (by decide) rfl⟩ rfl rfl hl.1 rfl (lv_room (Nat.le_of_ble_eq_true rfl)) d_Look_putPlace_1 ⟨by show _ ≤ 2 * NF - 2 * N0; omega, by show _ ≤ 2 * NF - 2 * N0; omega⟩) hP hD hS hA rfl rfl (by decide) (by decide) (fun r u H locs hv hP hD hS => ?_)
  have hP : va_P (dC, dI) zCl [(h0, .inr (6, o_Look I0 h2)), (h1, .inr (3, o_Digits I1 J1)), (h2, .inl (cA2, n2, .inl f2))] H := hP.sub [0, 2, 1] rfl
  have hD : va_D A [(h0, .inr (6, o_Look I0 h2)), (h1, .inr (3, o_Digits I1 J1)), (h2, .inl (cA2, n2, .inl f2))] := hD.sub [0, 2, 1] (by decide) rfl
  exact b_Look_putPlace_4 hc hA hE  (lv_sub hl [0, 1, 2, 3, 4, 5] rfl) hK hP hD hS hN hv
theorem zi_Look_putPlace : Cond.code (⟨"NumberDress$Look", "putPlace", "(LNumberDress$Digits;IIIZ)V"⟩ : MethodName) prog_7_method_8_code 10 none ∈ zT := zw_963
theorem zh_Look_putPlace : (((⟨"NumberDress$Look", "putPlace", "(LNumberDress$Digits;IIIZ)V"⟩ : MethodName)).cls ≠ "java/lang/invoke/MethodHandle" ∧ ((⟨"NumberDress$Look", "putPlace", "(LNumberDress$Digits;IIIZ)V"⟩ : MethodName)).cls ≠ "java/lang/invoke/VarHandle" ∧ (parseMethodDescriptor ((⟨"NumberDress$Look", "putPlace", "(LNumberDress$Digits;IIIZ)V"⟩ : MethodName)).desc).map (fun d => d.parameters.length) = some 5) := by decide +kernel
set_option maxHeartbeats 4000000 in
set_option maxRecDepth 100000 in
theorem m_Look_putPlace (l : Launch) (dC : Nat → ClassId) (dI : Nat → Nat → Nat) {gE : zG} {h0 : Nat} {h1 : Nat} {h2 : Nat} {cA2 : ClassId} {I0 : Nat → Int32} {I1 : Nat → Int32} {J1 : Nat → Int64} {n2 : Nat} {f2 : Nat → Int32} {x2 : Int32} {x3 : Int32} {x4 : Int32} {x5 : Int32} {sz : Nat} {Z : (Nat → Int32) × Nat × (Nat → Int32) → Prop} {NF : Nat} (hNF : n2 ≤ NF) (hv : v_Look_putPlace_0 I0 I1 J1 n2 f2 x2 x3 x4 x5 NF Z) : Met l (⟨"NumberDress$Look", "putPlace", "(LNumberDress$Digits;IIIZ)V"⟩ : MethodName) (Cond.code (⟨"NumberDress$Look", "putPlace", "(LNumberDress$Digits;IIIZ)V"⟩ : MethodName) prog_7_method_8_code 10 none :: zT) { frames := 2, cells := 2 * NF - 2 * n2, slots := 2 * NF - 2 * n2, locals := 62 } (zPc gE (dC, dI) zCl [(cA2, .char)] [.ref h0, .ref h1, .int x2, .int x3, .int x4, .int x5] sz [(h0, .inr (6, o_Look I0 h2)), (h1, .inr (3, o_Digits I1 J1)), (h2, .inl (cA2, n2, .inl f2))]) (va_Qv (fun u : (Nat → Int32) × Nat × (Nat → Int32) => u.2.1 = NF ∧ Z u) (fun (u : (Nat → Int32) × Nat × (Nat → Int32)) t => ∃ (b9 : Nat) (k9 : ClassId), va_P (dC, dI) zCl [(h0, .inr (6, o_Look u.1 b9)), (h1, .inr (3, o_Digits I1 J1)), (b9, .inl (k9, u.2.1, .inl u.2.2))] t.heap ∧ va_K (dC, dI) zCl [(k9, .char)] t ∧ va_D (va_A [(h0, .inr (6, o_Look I0 h2)), (h1, .inr (3, o_Digits I1 J1)), (h2, .inl (cA2, n2, .inl f2))] sz) [(h0, .inr (6, o_Look u.1 b9)), (h1, .inr (3, o_Digits I1 J1)), (b9, .inl (k9, u.2.1, .inl u.2.2))]) (va_A [(h0, .inr (6, o_Look I0 h2)), (h1, .inr (3, o_Digits I1 J1)), (h2, .inl (cA2, n2, .inl f2))] sz)) (2 * NF - 2 * n2) (2 * NF - 2 * n2) (va_A [(h0, .inr (6, o_Look I0 h2)), (h1, .inr (3, o_Digits I1 J1)), (h2, .inl (cA2, n2, .inl f2))] sz) := by
  refine Met.ofW (cc := prog_7_method_8_code) (maxL := 10) (ret := none) (by decide +kernel) rfl ?_
  intro p e s m args below meth c s₁ B hml hp
  obtain ⟨rfl, hsz, hP, hK, hD0, hE⟩ := hp
  have hts := atoms_spec (ws := (Cond.code (⟨"NumberDress$Look", "putPlace", "(LNumberDress$Digits;IIIZ)V"⟩ : MethodName) prog_7_method_8_code 10 none :: zT)) B.pre
  have hown : s.vm.findClass "NumberDress$Look" = some m.cls := findClass_of_methodNamed B.named
  have hc : zC p s m _ meth c prog_7_method_8_code none 10 "NumberDress$Look" := ⟨B.exec, B.bytes, B.returns, hml, hown, fun w h => hts w (List.mem_cons_of_mem _ h), B.notSynchronized⟩
  subst hsz
  have hD := hD0.self (sz := s.heap.size)
  generalize hAe : va_A [(h0, .inr (6, o_Look I0 h2)), (h1, .inr (3, o_Digits I1 J1)), (h2, .inl (cA2, n2, .inl f2))] s.heap.size = A at hD hE ⊢
  have hA : ∀ q : Nat, s.heap.size ≤ q → A q := fun q h => by rw [← hAe]; exact Or.inr h
  have hl := lv_entry ([.ref h0, .ref h1, .int x2, .int x3, .int x4, .int x5]) (n := 10) (Nat.le_of_ble_eq_true rfl)
  rw [lg_entry_eq]
  refine W.widen (k := 2 * n2 - 2 * n2) (n := 2 * n2 - 2 * n2) (Nat.zero_le _) (Nat.zero_le _) ?_
  exact b_Look_putPlace_0 hc hA hE hl hK hP hD va_S.rf ⟨Nat.le_refl _, hNF⟩ hv
end
