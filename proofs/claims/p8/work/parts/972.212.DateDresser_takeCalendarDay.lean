section
variable {p : Program} {l : Launch} {e : Env} {s : State} {m : MethodId} {args : Array Value} {below : List Frame} {meth : Method} {c : Code} {dC : Nat → ClassId} {dI : Nat → Nat → Nat} {A : Nat → Prop} {gE : zG}
theorem d_DateDresser_takeCalendarDay_0 : decode prog_3_method_6_code 0 = .ok (.iload_n 1, 1) := by decide +kernel
theorem d_DateDresser_takeCalendarDay_1 : decode prog_3_method_6_code 1 = .ok (.ldc 125, 2) := by decide +kernel
theorem d_DateDresser_takeCalendarDay_3 : decode prog_3_method_6_code 3 = .ok (.idiv, 1) := by decide +kernel
theorem d_DateDresser_takeCalendarDay_4 : decode prog_3_method_6_code 4 = .ok (.istore_n 2, 1) := by decide +kernel
theorem d_DateDresser_takeCalendarDay_5 : decode prog_3_method_6_code 5 = .ok (.iload_n 1, 1) := by decide +kernel
theorem d_DateDresser_takeCalendarDay_6 : decode prog_3_method_6_code 6 = .ok (.ldc 125, 2) := by decide +kernel
theorem d_DateDresser_takeCalendarDay_8 : decode prog_3_method_6_code 8 = .ok (.irem, 1) := by decide +kernel
theorem d_DateDresser_takeCalendarDay_9 : decode prog_3_method_6_code 9 = .ok (.istore_n 3, 1) := by decide +kernel
theorem d_DateDresser_takeCalendarDay_10 : decode prog_3_method_6_code 10 = .ok (.iload_n 3, 1) := by decide +kernel
theorem d_DateDresser_takeCalendarDay_11 : decode prog_3_method_6_code 11 = .ok (.iload_n 3, 1) := by decide +kernel
theorem d_DateDresser_takeCalendarDay_12 : decode prog_3_method_6_code 12 = .ok (.sipush 1460, 3) := by decide +kernel
theorem d_DateDresser_takeCalendarDay_15 : decode prog_3_method_6_code 15 = .ok (.idiv, 1) := by decide +kernel
theorem d_DateDresser_takeCalendarDay_16 : decode prog_3_method_6_code 16 = .ok (.isub, 1) := by decide +kernel
theorem d_DateDresser_takeCalendarDay_17 : decode prog_3_method_6_code 17 = .ok (.iload_n 3, 1) := by decide +kernel
theorem d_DateDresser_takeCalendarDay_18 : decode prog_3_method_6_code 18 = .ok (.ldc 126, 2) := by decide +kernel
theorem d_DateDresser_takeCalendarDay_20 : decode prog_3_method_6_code 20 = .ok (.idiv, 1) := by decide +kernel
theorem d_DateDresser_takeCalendarDay_21 : decode prog_3_method_6_code 21 = .ok (.iadd, 1) := by decide +kernel
theorem d_DateDresser_takeCalendarDay_22 : decode prog_3_method_6_code 22 = .ok (.iload_n 3, 1) := by decide +kernel
theorem d_DateDresser_takeCalendarDay_23 : decode prog_3_method_6_code 23 = .ok (.ldc 127, 2) := by decide +kernel
theorem d_DateDresser_takeCalendarDay_25 : decode prog_3_method_6_code 25 = .ok (.idiv, 1) := by decide +kernel
theorem d_DateDresser_takeCalendarDay_26 : decode prog_3_method_6_code 26 = .ok (.isub, 1) := by decide +kernel
theorem d_DateDresser_takeCalendarDay_27 : decode prog_3_method_6_code 27 = .ok (.sipush 365, 3) := by decide +kernel
theorem d_DateDresser_takeCalendarDay_30 : decode prog_3_method_6_code 30 = .ok (.idiv, 1) := by decide +kernel
theorem d_DateDresser_takeCalendarDay_31 : decode prog_3_method_6_code 31 = .ok (.istore 4, 2) := by decide +kernel
theorem d_DateDresser_takeCalendarDay_33 : decode prog_3_method_6_code 33 = .ok (.iload_n 3, 1) := by decide +kernel
theorem d_DateDresser_takeCalendarDay_34 : decode prog_3_method_6_code 34 = .ok (.sipush 365, 3) := by decide +kernel
theorem d_DateDresser_takeCalendarDay_37 : decode prog_3_method_6_code 37 = .ok (.iload 4, 2) := by decide +kernel
theorem d_DateDresser_takeCalendarDay_39 : decode prog_3_method_6_code 39 = .ok (.imul, 1) := by decide +kernel
theorem d_DateDresser_takeCalendarDay_40 : decode prog_3_method_6_code 40 = .ok (.iload 4, 2) := by decide +kernel
theorem d_DateDresser_takeCalendarDay_42 : decode prog_3_method_6_code 42 = .ok (.iconst 4, 1) := by decide +kernel
theorem d_DateDresser_takeCalendarDay_43 : decode prog_3_method_6_code 43 = .ok (.idiv, 1) := by decide +kernel
theorem d_DateDresser_takeCalendarDay_44 : decode prog_3_method_6_code 44 = .ok (.iadd, 1) := by decide +kernel
theorem d_DateDresser_takeCalendarDay_45 : decode prog_3_method_6_code 45 = .ok (.iload 4, 2) := by decide +kernel
theorem d_DateDresser_takeCalendarDay_47 : decode prog_3_method_6_code 47 = .ok (.bipush 100, 2) := by decide +kernel
theorem d_DateDresser_takeCalendarDay_49 : decode prog_3_method_6_code 49 = .ok (.idiv, 1) := by decide +kernel
theorem d_DateDresser_takeCalendarDay_50 : decode prog_3_method_6_code 50 = .ok (.isub, 1) := by decide +kernel
theorem d_DateDresser_takeCalendarDay_51 : decode prog_3_method_6_code 51 = .ok (.isub, 1) := by decide +kernel
theorem d_DateDresser_takeCalendarDay_52 : decode prog_3_method_6_code 52 = .ok (.istore 5, 2) := by decide +kernel
theorem d_DateDresser_takeCalendarDay_54 : decode prog_3_method_6_code 54 = .ok (.iconst 5, 1) := by decide +kernel
theorem d_DateDresser_takeCalendarDay_55 : decode prog_3_method_6_code 55 = .ok (.iload 5, 2) := by decide +kernel
theorem d_DateDresser_takeCalendarDay_57 : decode prog_3_method_6_code 57 = .ok (.imul, 1) := by decide +kernel
theorem d_DateDresser_takeCalendarDay_58 : decode prog_3_method_6_code 58 = .ok (.iconst 2, 1) := by decide +kernel
theorem d_DateDresser_takeCalendarDay_59 : decode prog_3_method_6_code 59 = .ok (.iadd, 1) := by decide +kernel
theorem d_DateDresser_takeCalendarDay_60 : decode prog_3_method_6_code 60 = .ok (.sipush 153, 3) := by decide +kernel
theorem d_DateDresser_takeCalendarDay_63 : decode prog_3_method_6_code 63 = .ok (.idiv, 1) := by decide +kernel
theorem d_DateDresser_takeCalendarDay_64 : decode prog_3_method_6_code 64 = .ok (.istore 6, 2) := by decide +kernel
theorem d_DateDresser_takeCalendarDay_66 : decode prog_3_method_6_code 66 = .ok (.aload_n 0, 1) := by decide +kernel
theorem d_DateDresser_takeCalendarDay_67 : decode prog_3_method_6_code 67 = .ok (.iload 5, 2) := by decide +kernel
theorem d_DateDresser_takeCalendarDay_69 : decode prog_3_method_6_code 69 = .ok (.sipush 153, 3) := by decide +kernel
theorem d_DateDresser_takeCalendarDay_72 : decode prog_3_method_6_code 72 = .ok (.iload 6, 2) := by decide +kernel
theorem d_DateDresser_takeCalendarDay_74 : decode prog_3_method_6_code 74 = .ok (.imul, 1) := by decide +kernel
theorem d_DateDresser_takeCalendarDay_75 : decode prog_3_method_6_code 75 = .ok (.iconst 2, 1) := by decide +kernel
theorem d_DateDresser_takeCalendarDay_76 : decode prog_3_method_6_code 76 = .ok (.iadd, 1) := by decide +kernel
theorem d_DateDresser_takeCalendarDay_77 : decode prog_3_method_6_code 77 = .ok (.iconst 5, 1) := by decide +kernel
theorem d_DateDresser_takeCalendarDay_78 : decode prog_3_method_6_code 78 = .ok (.idiv, 1) := by decide +kernel
theorem d_DateDresser_takeCalendarDay_79 : decode prog_3_method_6_code 79 = .ok (.isub, 1) := by decide +kernel
theorem d_DateDresser_takeCalendarDay_80 : decode prog_3_method_6_code 80 = .ok (.iconst 1, 1) := by decide +kernel
theorem d_DateDresser_takeCalendarDay_81 : decode prog_3_method_6_code 81 = .ok (.iadd, 1) := by decide +kernel
theorem d_DateDresser_takeCalendarDay_82 : decode prog_3_method_6_code 82 = .ok (.putfield 122, 3) := by decide +kernel
theorem d_DateDresser_takeCalendarDay_85 : decode prog_3_method_6_code 85 = .ok (.aload_n 0, 1) := by decide +kernel
theorem d_DateDresser_takeCalendarDay_86 : decode prog_3_method_6_code 86 = .ok (.iload 6, 2) := by decide +kernel
theorem d_DateDresser_takeCalendarDay_88 : decode prog_3_method_6_code 88 = .ok (.bipush 10, 2) := by decide +kernel
theorem d_DateDresser_takeCalendarDay_90 : decode prog_3_method_6_code 90 = .ok (.if_icmp .ge 10, 3) := by decide +kernel
theorem d_DateDresser_takeCalendarDay_93 : decode prog_3_method_6_code 93 = .ok (.iload 6, 2) := by decide +kernel
theorem d_DateDresser_takeCalendarDay_95 : decode prog_3_method_6_code 95 = .ok (.iconst 3, 1) := by decide +kernel
theorem d_DateDresser_takeCalendarDay_96 : decode prog_3_method_6_code 96 = .ok (.iadd, 1) := by decide +kernel
theorem d_DateDresser_takeCalendarDay_97 : decode prog_3_method_6_code 97 = .ok (.goto 8, 3) := by decide +kernel
theorem d_DateDresser_takeCalendarDay_100 : decode prog_3_method_6_code 100 = .ok (.iload 6, 2) := by decide +kernel
theorem d_DateDresser_takeCalendarDay_102 : decode prog_3_method_6_code 102 = .ok (.bipush 9, 2) := by decide +kernel
theorem d_DateDresser_takeCalendarDay_104 : decode prog_3_method_6_code 104 = .ok (.isub, 1) := by decide +kernel
theorem d_DateDresser_takeCalendarDay_105 : decode prog_3_method_6_code 105 = .ok (.putfield 119, 3) := by decide +kernel
theorem d_DateDresser_takeCalendarDay_108 : decode prog_3_method_6_code 108 = .ok (.aload_n 0, 1) := by decide +kernel
theorem d_DateDresser_takeCalendarDay_109 : decode prog_3_method_6_code 109 = .ok (.sipush 1600, 3) := by decide +kernel
theorem d_DateDresser_takeCalendarDay_112 : decode prog_3_method_6_code 112 = .ok (.sipush 400, 3) := by decide +kernel
theorem d_DateDresser_takeCalendarDay_115 : decode prog_3_method_6_code 115 = .ok (.iload_n 2, 1) := by decide +kernel
theorem d_DateDresser_takeCalendarDay_116 : decode prog_3_method_6_code 116 = .ok (.imul, 1) := by decide +kernel
theorem d_DateDresser_takeCalendarDay_117 : decode prog_3_method_6_code 117 = .ok (.iadd, 1) := by decide +kernel
theorem d_DateDresser_takeCalendarDay_118 : decode prog_3_method_6_code 118 = .ok (.iload 4, 2) := by decide +kernel
theorem d_DateDresser_takeCalendarDay_120 : decode prog_3_method_6_code 120 = .ok (.iadd, 1) := by decide +kernel
theorem d_DateDresser_takeCalendarDay_121 : decode prog_3_method_6_code 121 = .ok (.aload_n 0, 1) := by decide +kernel
theorem d_DateDresser_takeCalendarDay_122 : decode prog_3_method_6_code 122 = .ok (.getfield 119, 3) := by decide +kernel
theorem d_DateDresser_takeCalendarDay_125 : decode prog_3_method_6_code 125 = .ok (.iconst 2, 1) := by decide +kernel
theorem d_DateDresser_takeCalendarDay_126 : decode prog_3_method_6_code 126 = .ok (.if_icmp .gt 7, 3) := by decide +kernel
theorem d_DateDresser_takeCalendarDay_129 : decode prog_3_method_6_code 129 = .ok (.iconst 1, 1) := by decide +kernel
theorem d_DateDresser_takeCalendarDay_130 : decode prog_3_method_6_code 130 = .ok (.goto 4, 3) := by decide +kernel
theorem d_DateDresser_takeCalendarDay_133 : decode prog_3_method_6_code 133 = .ok (.iconst 0, 1) := by decide +kernel
theorem d_DateDresser_takeCalendarDay_134 : decode prog_3_method_6_code 134 = .ok (.iadd, 1) := by decide +kernel
theorem d_DateDresser_takeCalendarDay_135 : decode prog_3_method_6_code 135 = .ok (.putfield 116, 3) := by decide +kernel
theorem d_DateDresser_takeCalendarDay_138 : decode prog_3_method_6_code 138 = .ok (.return_, 1) := by decide +kernel
set_option maxHeartbeats 4000000 in
set_option maxRecDepth 100000 in
theorem b_DateDresser_takeCalendarDay_134 {h0 : Nat} {a0_0 : Nat} {I0 : Nat → Int32} {J0 : Nat → Int64} {s1 : Int32} {s2 : Int32}  {Z : (Nat → Int32) → Prop} {H : Heap} {locs : List Loc} {ls : Array Slot} (hc : zC p s m args meth c prog_3_method_6_code none 7 "NumberDress$DateDresser") (hA : ∀ q : Nat, s.heap.size ≤ q → A q) (hE : zE gE A s) (hl : lv_has ls 7 []) (hK : va_K (dC, dI) zCl [] s) (hP : va_P (dC, dI) zCl [(h0, .inr (2, o_DateDresser I0 J0 a0_0))] H) (hD : va_D A [(h0, .inr (2, o_DateDresser I0 J0 a0_0))]) (hS : va_S A s.heap H locs) (hv : v_DateDresser_takeCalendarDay_134 I0 J0 s1 s2  Z) : W p l e (headSpec (Cond.code (⟨"NumberDress$DateDresser", "takeCalendarDay", "(I)V"⟩ : MethodName) prog_3_method_6_code 7 none :: zT) { frames := 0, cells := 0, slots := 0, locals := 0 }).room s m args below meth c H locs 0 0 (MQ below (va_Qv Z (zB (dC, dI) zCl [] A (fun u : (Nat → Int32) => [(h0, .inr (2, o_DateDresser u J0 a0_0))])) A) args s 0 0 A) (F0 m 134 ls [.int s2, .int s1, .ref h0]) := by
  obtain ⟨hx, hb, hr, hml, hown, ht, hlocks⟩ := id hc
  unfold v_DateDresser_takeCalendarDay_134 at hv
  refine lv_iadd hx hb d_DateDresser_takeCalendarDay_134 ?_
  refine va_put (D := (dC, dI)) (ci := 2) (v := .int (s1 + s2)) (ty := .int) (C := "NumberDress$DateDresser") (T := T_DateDresser) (N := 7) hx hb ht zin_DateDresser ty_DateDresser tyok_DateDresser nm_DateDresser hown hK hP hD hS 0 rfl rfl 4 (by decide) (ht _ zw_421) (fun _ h9 => h9) rfl (by decide +kernel) rfl rfl (Nat.le_of_ble_eq_true rfl) d_DateDresser_takeCalendarDay_135 (fun H locs hP hD hS => ?_)
  have hP : va_P (dC, dI) zCl [(h0, .inr (2, o_DateDresser (zu I0 4 (s1 + s2)) J0 a0_0))] H := hP
  have hD : va_D A [(h0, .inr (2, o_DateDresser (zu I0 4 (s1 + s2)) J0 a0_0))] := hD
  exact W.vret hx hb hr (fun t ht hW => ⟨⟨((zu I0 4 (s1 + s2))), rfl, hv, ⟨by rw [ht]; exact hP, va_K.moved hW.alike hK, hD⟩⟩, hS.F ht⟩) hS.2.2 d_DateDresser_takeCalendarDay_138
set_option maxHeartbeats 4000000 in
set_option maxRecDepth 100000 in
theorem b_DateDresser_takeCalendarDay_105 {h0 : Nat} {a0_0 : Nat} {I0 : Nat → Int32} {J0 : Nat → Int64} {x2 : Int32} {x4 : Int32} {s1 : Int32}  {Z : (Nat → Int32) → Prop} {H : Heap} {locs : List Loc} {ls : Array Slot} (hc : zC p s m args meth c prog_3_method_6_code none 7 "NumberDress$DateDresser") (hA : ∀ q : Nat, s.heap.size ≤ q → A q) (hE : zE gE A s) (hl : lv_has ls 7 [(0, .ref h0), (2, .int x2), (4, .int x4)]) (hK : va_K (dC, dI) zCl [] s) (hP : va_P (dC, dI) zCl [(h0, .inr (2, o_DateDresser I0 J0 a0_0))] H) (hD : va_D A [(h0, .inr (2, o_DateDresser I0 J0 a0_0))]) (hS : va_S A s.heap H locs) (hv : v_DateDresser_takeCalendarDay_105 I0 J0 x2 x4 s1  Z) : W p l e (headSpec (Cond.code (⟨"NumberDress$DateDresser", "takeCalendarDay", "(I)V"⟩ : MethodName) prog_3_method_6_code 7 none :: zT) { frames := 0, cells := 0, slots := 0, locals := 0 }).room s m args below meth c H locs 0 0 (MQ below (va_Qv Z (zB (dC, dI) zCl [] A (fun u : (Nat → Int32) => [(h0, .inr (2, o_DateDresser u J0 a0_0))])) A) args s 0 0 A) (F0 m 105 ls [.int s1, .ref h0]) := by
  obtain ⟨hx, hb, hr, hml, hown, ht, hlocks⟩ := id hc
  unfold v_DateDresser_takeCalendarDay_105 at hv
  refine va_put (D := (dC, dI)) (ci := 2) (v := .int s1) (ty := .int) (C := "NumberDress$DateDresser") (T := T_DateDresser) (N := 7) hx hb ht zin_DateDresser ty_DateDresser tyok_DateDresser nm_DateDresser hown hK hP hD hS 0 rfl rfl 5 (by decide) (ht _ zw_422) (fun _ h9 => h9) rfl (by decide +kernel) rfl rfl (Nat.le_of_ble_eq_true rfl) d_DateDresser_takeCalendarDay_105 (fun H locs hP hD hS => ?_)
  have hP : va_P (dC, dI) zCl [(h0, .inr (2, o_DateDresser (zu I0 5 s1) J0 a0_0))] H := hP
  have hD : va_D A [(h0, .inr (2, o_DateDresser (zu I0 5 s1) J0 a0_0))] := hD
  refine lv_aload_n hx hb d_DateDresser_takeCalendarDay_108 rfl (lv_at hl 0 rfl) ?_
  refine lv_sipush (v := (1600 : Int32)) hx hb d_DateDresser_takeCalendarDay_109 (by decide) ?_
  refine lv_sipush (v := (400 : Int32)) hx hb d_DateDresser_takeCalendarDay_112 (by decide) ?_
  refine lv_iload_n hx hb d_DateDresser_takeCalendarDay_115 rfl (lv_at hl 1 rfl) ?_
  refine lv_imul hx hb d_DateDresser_takeCalendarDay_116 ?_
  refine lv_iadd hx hb d_DateDresser_takeCalendarDay_117 ?_
  refine lv_iload hx hb d_DateDresser_takeCalendarDay_118 (lv_at hl 2 rfl) ?_
  refine lv_iadd hx hb d_DateDresser_takeCalendarDay_120 ?_
  refine lv_aload_n hx hb d_DateDresser_takeCalendarDay_121 rfl (lv_at hl 0 rfl) ?_
  refine va_get (D := (dC, dI)) (ci := 2) (v := .int s1) (C := "NumberDress$DateDresser") (T := T_DateDresser) (N := 7) hx hb ht zin_DateDresser hown hK hP 0 rfl rfl 5 (by decide) (ht _ zw_422) (fun _ h9 => h9) rfl d_DateDresser_takeCalendarDay_122 ?_
  refine lv_iconst (v := (2 : Int32)) hx hb d_DateDresser_takeCalendarDay_125 (by decide) ?_
  refine lv_icmp_gt (tgt := 133) hx hb d_DateDresser_takeCalendarDay_126 (by decide) (fun c_1 => ?_) (fun c_1 => ?_)
  · have hv := hv.1 c_1
    refine lv_iconst (v := (0 : Int32)) hx hb d_DateDresser_takeCalendarDay_133 (by decide) ?_
    exact b_DateDresser_takeCalendarDay_134 hc hA hE  (lv_sub hl [] rfl) hK hP hD hS hv
  · have hv := hv.2 c_1
    refine lv_iconst (v := (1 : Int32)) hx hb d_DateDresser_takeCalendarDay_129 (by decide) ?_
    refine lv_goto (tgt := 134) hx hb d_DateDresser_takeCalendarDay_130 (by decide) ?_
    exact b_DateDresser_takeCalendarDay_134 hc hA hE  (lv_sub hl [] rfl) hK hP hD hS hv
set_option maxHeartbeats 4000000 in
set_option maxRecDepth 100000 in
theorem b_DateDresser_takeCalendarDay_0 {h0 : Nat} {a0_0 : Nat} {I0 : Nat → Int32} {J0 : Nat → Int64} {x1 : Int32}  {Z : (Nat → Int32) → Prop} {H : Heap} {locs : List Loc} {ls : Array Slot} (hc : zC p s m args meth c prog_3_method_6_code none 7 "NumberDress$DateDresser") (hA : ∀ q : Nat, s.heap.size ≤ q → A q) (hE : zE gE A s) (hl : lv_has ls 7 [(0, .ref h0), (1, .int x1)]) (hK : va_K (dC, dI) zCl [] s) (hP : va_P (dC, dI) zCl [(h0, .inr (2, o_DateDresser I0 J0 a0_0))] H) (hD : va_D A [(h0, .inr (2, o_DateDresser I0 J0 a0_0))]) (hS : va_S A s.heap H locs) (hv : v_DateDresser_takeCalendarDay_0 I0 J0 x1  Z) : W p l e (headSpec (Cond.code (⟨"NumberDress$DateDresser", "takeCalendarDay", "(I)V"⟩ : MethodName) prog_3_method_6_code 7 none :: zT) { frames := 0, cells := 0, slots := 0, locals := 0 }).room s m args below meth c H locs 0 0 (MQ below (va_Qv Z (zB (dC, dI) zCl [] A (fun u : (Nat → Int32) => [(h0, .inr (2, o_DateDresser u J0 a0_0))])) A) args s 0 0 A) (F0 m 0 ls []) := by
  obtain ⟨hx, hb, hr, hml, hown, ht, hlocks⟩ := id hc
  unfold v_DateDresser_takeCalendarDay_0 at hv
  refine lv_iload_n hx hb d_DateDresser_takeCalendarDay_0 rfl (lv_at hl 1 rfl) ?_
  refine lv_ldc (v := (146097 : Int32)) hx hb hown (ht _ zw_1072) d_DateDresser_takeCalendarDay_1 ?_
  refine lv_idiv hx hb d_DateDresser_takeCalendarDay_3 (by decide) ?_
  refine lv_istore_n (lv' := [(2, .int (x1 / (146097 : Int32))), (0, .ref h0), (1, .int x1)]) hx hb d_DateDresser_takeCalendarDay_4 rfl hl (by decide) rfl (fun ls hl => ?_)
  refine lv_iload_n hx hb d_DateDresser_takeCalendarDay_5 rfl (lv_at hl 2 rfl) ?_
  refine lv_ldc (v := (146097 : Int32)) hx hb hown (ht _ zw_1072) d_DateDresser_takeCalendarDay_6 ?_
  refine lv_irem hx hb d_DateDresser_takeCalendarDay_8 (by decide) ?_
  refine lv_topi (fun y_1 ey_1 => ?_)
  have hv := hv y_1 ey_1
  refine lv_istore_n (lv' := [(3, .int y_1), (2, .int (x1 / (146097 : Int32))), (0, .ref h0), (1, .int x1)]) hx hb d_DateDresser_takeCalendarDay_9 rfl hl (by decide) rfl (fun ls hl => ?_)
  refine lv_iload_n hx hb d_DateDresser_takeCalendarDay_10 rfl (lv_at hl 0 rfl) ?_
  refine lv_iload_n hx hb d_DateDresser_takeCalendarDay_11 rfl (lv_at hl 0 rfl) ?_
  refine lv_sipush (v := (1460 : Int32)) hx hb d_DateDresser_takeCalendarDay_12 (by decide) ?_
  refine lv_idiv hx hb d_DateDresser_takeCalendarDay_15 (by decide) ?_
  refine lv_isub hx hb d_DateDresser_takeCalendarDay_16 ?_
  refine lv_iload_n hx hb d_DateDresser_takeCalendarDay_17 rfl (lv_at hl 0 rfl) ?_
  refine lv_ldc (v := (36524 : Int32)) hx hb hown (ht _ zw_1073) d_DateDresser_takeCalendarDay_18 ?_
  refine lv_idiv hx hb d_DateDresser_takeCalendarDay_20 (by decide) ?_
  refine lv_iadd hx hb d_DateDresser_takeCalendarDay_21 ?_
  refine lv_iload_n hx hb d_DateDresser_takeCalendarDay_22 rfl (lv_at hl 0 rfl) ?_
  refine lv_ldc (v := (146096 : Int32)) hx hb hown (ht _ zw_1074) d_DateDresser_takeCalendarDay_23 ?_
  refine lv_idiv hx hb d_DateDresser_takeCalendarDay_25 (by decide) ?_
  refine lv_isub hx hb d_DateDresser_takeCalendarDay_26 ?_
  refine lv_sipush (v := (365 : Int32)) hx hb d_DateDresser_takeCalendarDay_27 (by decide) ?_
  refine lv_idiv hx hb d_DateDresser_takeCalendarDay_30 (by decide) ?_
  refine lv_topi (fun y_2 ey_2 => ?_)
  have hv := hv y_2 ey_2
  refine lv_istore (lv' := [(4, .int y_2), (3, .int y_1), (2, .int (x1 / (146097 : Int32))), (0, .ref h0), (1, .int x1)]) hx hb d_DateDresser_takeCalendarDay_31 hl (by decide) rfl (fun ls hl => ?_)
  refine lv_iload_n hx hb d_DateDresser_takeCalendarDay_33 rfl (lv_at hl 1 rfl) ?_
  refine lv_sipush (v := (365 : Int32)) hx hb d_DateDresser_takeCalendarDay_34 (by decide) ?_
  refine lv_iload hx hb d_DateDresser_takeCalendarDay_37 (lv_at hl 0 rfl) ?_
  refine lv_imul hx hb d_DateDresser_takeCalendarDay_39 ?_
  refine lv_iload hx hb d_DateDresser_takeCalendarDay_40 (lv_at hl 0 rfl) ?_
  refine lv_iconst (v := (4 : Int32)) hx hb d_DateDresser_takeCalendarDay_42 (by decide) ?_
  refine lv_idiv hx hb d_DateDresser_takeCalendarDay_43 (by decide) ?_
  refine lv_iadd hx hb d_DateDresser_takeCalendarDay_44 ?_
  refine lv_iload hx hb d_DateDresser_takeCalendarDay_45 (lv_at hl 0 rfl) ?_
  refine lv_bipush (v := (100 : Int32)) hx hb d_DateDresser_takeCalendarDay_47 (by decide) ?_
  refine lv_idiv hx hb d_DateDresser_takeCalendarDay_49 (by decide) ?_
  refine lv_isub hx hb d_DateDresser_takeCalendarDay_50 ?_
  refine lv_isub hx hb d_DateDresser_takeCalendarDay_51 ?_
  refine lv_topi (fun y_3 ey_3 => ?_)
  have hv := hv y_3 ey_3
  refine lv_istore (lv' := [(5, .int y_3), (4, .int y_2), (3, .int y_1), (2, .int (x1 / (146097 : Int32))), (0, .ref h0), (1, .int x1)]) hx hb d_DateDresser_takeCalendarDay_52 hl (by decide) rfl (fun ls hl => ?_)
  refine lv_iconst (v := (5 : Int32)) hx hb d_DateDresser_takeCalendarDay_54 (by decide) ?_
  refine lv_iload hx hb d_DateDresser_takeCalendarDay_55 (lv_at hl 0 rfl) ?_
  refine lv_imul hx hb d_DateDresser_takeCalendarDay_57 ?_
  refine lv_iconst (v := (2 : Int32)) hx hb d_DateDresser_takeCalendarDay_58 (by decide) ?_
  refine lv_iadd hx hb d_DateDresser_takeCalendarDay_59 ?_
  refine lv_sipush (v := (153 : Int32)) hx hb d_DateDresser_takeCalendarDay_60 (by decide) ?_
  refine lv_idiv hx hb d_DateDresser_takeCalendarDay_63 (by decide) ?_
  refine lv_topi (fun y_4 ey_4 => ?_)
  have hv := hv y_4 ey_4
  refine lv_istore (lv' := [(6, .int y_4), (5, .int y_3), (4, .int y_2), (3, .int y_1), (2, .int (x1 / (146097 : Int32))), (0, .ref h0), (1, .int x1)]) hx hb d_DateDresser_takeCalendarDay_64 hl (by decide) rfl (fun ls hl => ?_)
  refine lv_aload_n hx hb d_DateDresser_takeCalendarDay_66 rfl (lv_at hl 5 rfl) ?_
  refine lv_iload hx hb d_DateDresser_takeCalendarDay_67 (lv_at hl 1 rfl) ?_
  refine lv_sipush (v := (153 : Int32)) hx hb d_DateDresser_takeCalendarDay_69 (by decide) ?_
  refine lv_iload hx hb d_DateDresser_takeCalendarDay_72 (lv_at hl 0 rfl) ?_
  refine lv_imul hx hb d_DateDresser_takeCalendarDay_74 ?_
  refine lv_iconst (v := (2 : Int32)) hx hb d_DateDresser_takeCalendarDay_75 (by decide) ?_
  refine lv_iadd hx hb d_DateDresser_takeCalendarDay_76 ?_
  refine lv_iconst (v := (5 : Int32)) hx hb d_DateDresser_takeCalendarDay_77 (by decide) ?_
  refine lv_idiv hx hb d_DateDresser_takeCalendarDay_78 (by decide) ?_
  refine lv_isub hx hb d_DateDresser_takeCalendarDay_79 ?_
  refine lv_iconst (v := (1 : Int32)) hx hb d_DateDresser_takeCalendarDay_80 (by decide) ?_
  refine lv_iadd hx hb d_DateDresser_takeCalendarDay_81 ?_
  refine lv_topi (fun y_5 ey_5 => ?_)
  have hv := hv y_5 ey_5
  refine va_put (D := (dC, dI)) (ci := 2) (v := .int y_5) (ty := .int) (C := "NumberDress$DateDresser") (T := T_DateDresser) (N := 7) hx hb ht zin_DateDresser ty_DateDresser tyok_DateDresser nm_DateDresser hown hK hP hD hS 0 rfl rfl 6 (by decide) (ht _ zw_423) (fun _ h9 => h9) rfl (by decide +kernel) rfl rfl (Nat.le_of_ble_eq_true rfl) d_DateDresser_takeCalendarDay_82 (fun H locs hP hD hS => ?_)
  have hP : va_P (dC, dI) zCl [(h0, .inr (2, o_DateDresser (zu I0 6 y_5) J0 a0_0))] H := hP
  have hD : va_D A [(h0, .inr (2, o_DateDresser (zu I0 6 y_5) J0 a0_0))] := hD
  refine lv_aload_n hx hb d_DateDresser_takeCalendarDay_85 rfl (lv_at hl 5 rfl) ?_
  refine lv_iload hx hb d_DateDresser_takeCalendarDay_86 (lv_at hl 0 rfl) ?_
  refine lv_bipush (v := (10 : Int32)) hx hb d_DateDresser_takeCalendarDay_88 (by decide) ?_
  refine lv_icmp_ge (tgt := 100) hx hb d_DateDresser_takeCalendarDay_90 (by decide) (fun c_6 => ?_) (fun c_6 => ?_)
  · have hv := hv.1 c_6
    refine lv_iload hx hb d_DateDresser_takeCalendarDay_100 (lv_at hl 0 rfl) ?_
    refine lv_bipush (v := (9 : Int32)) hx hb d_DateDresser_takeCalendarDay_102 (by decide) ?_
    refine lv_isub hx hb d_DateDresser_takeCalendarDay_104 ?_
    exact b_DateDresser_takeCalendarDay_105 hc hA hE  (lv_sub hl [5, 4, 2] rfl) hK hP hD hS hv
  · have hv := hv.2 c_6
    refine lv_iload hx hb d_DateDresser_takeCalendarDay_93 (lv_at hl 0 rfl) ?_
    refine lv_iconst (v := (3 : Int32)) hx hb d_DateDresser_takeCalendarDay_95 (by decide) ?_
    refine lv_iadd hx hb d_DateDresser_takeCalendarDay_96 ?_
    refine lv_goto (tgt := 105) hx hb d_DateDresser_takeCalendarDay_97 (by decide) ?_
    exact b_DateDresser_takeCalendarDay_105 hc hA hE  (lv_sub hl [5, 4, 2] rfl) hK hP hD hS hv
theorem zi_DateDresser_takeCalendarDay : Cond.code (⟨"NumberDress$DateDresser", "takeCalendarDay", "(I)V"⟩ : MethodName) prog_3_method_6_code 7 none ∈ zT := zw_1071
theorem zh_DateDresser_takeCalendarDay : (((⟨"NumberDress$DateDresser", "takeCalendarDay", "(I)V"⟩ : MethodName)).cls ≠ "java/lang/invoke/MethodHandle" ∧ ((⟨"NumberDress$DateDresser", "takeCalendarDay", "(I)V"⟩ : MethodName)).cls ≠ "java/lang/invoke/VarHandle" ∧ (parseMethodDescriptor ((⟨"NumberDress$DateDresser", "takeCalendarDay", "(I)V"⟩ : MethodName)).desc).map (fun d => d.parameters.length) = some 1) := by decide +kernel
set_option maxHeartbeats 4000000 in
set_option maxRecDepth 100000 in
theorem m_DateDresser_takeCalendarDay (l : Launch) (dC : Nat → ClassId) (dI : Nat → Nat → Nat) {gE : zG} {h0 : Nat} {a0_0 : Nat} {I0 : Nat → Int32} {J0 : Nat → Int64} {x1 : Int32} {sz : Nat} {Z : (Nat → Int32) → Prop} (hv : v_DateDresser_takeCalendarDay_0 I0 J0 x1 Z) : Met l (⟨"NumberDress$DateDresser", "takeCalendarDay", "(I)V"⟩ : MethodName) (Cond.code (⟨"NumberDress$DateDresser", "takeCalendarDay", "(I)V"⟩ : MethodName) prog_3_method_6_code 7 none :: zT) { frames := 0, cells := 0, slots := 0, locals := 0 } (zPc gE (dC, dI) zCl [] [.ref h0, .int x1] sz [(h0, .inr (2, o_DateDresser I0 J0 a0_0))]) (va_Qv Z (zB (dC, dI) zCl [] (va_A [(h0, .inr (2, o_DateDresser I0 J0 a0_0))] sz) (fun u : (Nat → Int32) => [(h0, .inr (2, o_DateDresser u J0 a0_0))])) (va_A [(h0, .inr (2, o_DateDresser I0 J0 a0_0))] sz)) 0 0 (va_A [(h0, .inr (2, o_DateDresser I0 J0 a0_0))] sz) := by
  refine Met.ofW (cc := prog_3_method_6_code) (maxL := 7) (ret := none) (by decide +kernel) rfl ?_
  intro p e s m args below meth c s₁ B hml hp
  obtain ⟨rfl, hsz, hP, hK, hD0, hE⟩ := hp
  have hts := atoms_spec (ws := (Cond.code (⟨"NumberDress$DateDresser", "takeCalendarDay", "(I)V"⟩ : MethodName) prog_3_method_6_code 7 none :: zT)) B.pre
  have hown : s.vm.findClass "NumberDress$DateDresser" = some m.cls := findClass_of_methodNamed B.named
  have hc : zC p s m _ meth c prog_3_method_6_code none 7 "NumberDress$DateDresser" := ⟨B.exec, B.bytes, B.returns, hml, hown, fun w h => hts w (List.mem_cons_of_mem _ h), B.notSynchronized⟩
  subst hsz
  have hD := hD0.self (sz := s.heap.size)
  generalize hAe : va_A [(h0, .inr (2, o_DateDresser I0 J0 a0_0))] s.heap.size = A at hD hE ⊢
  have hA : ∀ q : Nat, s.heap.size ≤ q → A q := fun q h => by rw [← hAe]; exact Or.inr h
  have hl := lv_entry ([.ref h0, .int x1]) (n := 7) (Nat.le_of_ble_eq_true rfl)
  rw [lg_entry_eq]
  exact b_DateDresser_takeCalendarDay_0 hc hA hE hl hK hP hD va_S.rf hv
theorem d_DateDresser_takeDay_0 : decode prog_3_method_5_code 0 = .ok (.iload_n 1, 1) := by decide +kernel
theorem d_DateDresser_takeDay_1 : decode prog_3_method_5_code 1 = .ok (.bipush 61, 2) := by decide +kernel
theorem d_DateDresser_takeDay_3 : decode prog_3_method_5_code 3 = .ok (.if_icmp .lt 15, 3) := by decide +kernel
theorem d_DateDresser_takeDay_6 : decode prog_3_method_5_code 6 = .ok (.aload_n 0, 1) := by decide +kernel
theorem d_DateDresser_takeDay_7 : decode prog_3_method_5_code 7 = .ok (.iload_n 1, 1) := by decide +kernel
theorem d_DateDresser_takeDay_8 : decode prog_3_method_5_code 8 = .ok (.bipush 61, 2) := by decide +kernel
theorem d_DateDresser_takeDay_10 : decode prog_3_method_5_code 10 = .ok (.isub, 1) := by decide +kernel
theorem d_DateDresser_takeDay_11 : decode prog_3_method_5_code 11 = .ok (.ldc 112, 2) := by decide +kernel
theorem d_DateDresser_takeDay_13 : decode prog_3_method_5_code 13 = .ok (.iadd, 1) := by decide +kernel
theorem d_DateDresser_takeDay_14 : decode prog_3_method_5_code 14 = .ok (.invokevirtual 113, 3) := by decide +kernel
theorem d_DateDresser_takeDay_17 : decode prog_3_method_5_code 17 = .ok (.return_, 1) := by decide +kernel
theorem d_DateDresser_takeDay_18 : decode prog_3_method_5_code 18 = .ok (.aload_n 0, 1) := by decide +kernel
theorem d_DateDresser_takeDay_19 : decode prog_3_method_5_code 19 = .ok (.sipush 1900, 3) := by decide +kernel
theorem d_DateDresser_takeDay_22 : decode prog_3_method_5_code 22 = .ok (.putfield 116, 3) := by decide +kernel
theorem d_DateDresser_takeDay_25 : decode prog_3_method_5_code 25 = .ok (.aload_n 0, 1) := by decide +kernel
theorem d_DateDresser_takeDay_26 : decode prog_3_method_5_code 26 = .ok (.iload_n 1, 1) := by decide +kernel
theorem d_DateDresser_takeDay_27 : decode prog_3_method_5_code 27 = .ok (.bipush 31, 2) := by decide +kernel
theorem d_DateDresser_takeDay_29 : decode prog_3_method_5_code 29 = .ok (.if_icmp .gt 7, 3) := by decide +kernel
theorem d_DateDresser_takeDay_32 : decode prog_3_method_5_code 32 = .ok (.iconst 1, 1) := by decide +kernel
theorem d_DateDresser_takeDay_33 : decode prog_3_method_5_code 33 = .ok (.goto 4, 3) := by decide +kernel
theorem d_DateDresser_takeDay_36 : decode prog_3_method_5_code 36 = .ok (.iconst 2, 1) := by decide +kernel
theorem d_DateDresser_takeDay_37 : decode prog_3_method_5_code 37 = .ok (.putfield 119, 3) := by decide +kernel
theorem d_DateDresser_takeDay_40 : decode prog_3_method_5_code 40 = .ok (.aload_n 0, 1) := by decide +kernel
theorem d_DateDresser_takeDay_41 : decode prog_3_method_5_code 41 = .ok (.iload_n 1, 1) := by decide +kernel
theorem d_DateDresser_takeDay_42 : decode prog_3_method_5_code 42 = .ok (.bipush 31, 2) := by decide +kernel
theorem d_DateDresser_takeDay_44 : decode prog_3_method_5_code 44 = .ok (.if_icmp .gt 7, 3) := by decide +kernel
theorem d_DateDresser_takeDay_47 : decode prog_3_method_5_code 47 = .ok (.iload_n 1, 1) := by decide +kernel
theorem d_DateDresser_takeDay_48 : decode prog_3_method_5_code 48 = .ok (.goto 7, 3) := by decide +kernel
theorem d_DateDresser_takeDay_51 : decode prog_3_method_5_code 51 = .ok (.iload_n 1, 1) := by decide +kernel
theorem d_DateDresser_takeDay_52 : decode prog_3_method_5_code 52 = .ok (.bipush 31, 2) := by decide +kernel
theorem d_DateDresser_takeDay_54 : decode prog_3_method_5_code 54 = .ok (.isub, 1) := by decide +kernel
theorem d_DateDresser_takeDay_55 : decode prog_3_method_5_code 55 = .ok (.putfield 122, 3) := by decide +kernel
theorem d_DateDresser_takeDay_58 : decode prog_3_method_5_code 58 = .ok (.return_, 1) := by decide +kernel
set_option maxHeartbeats 4000000 in
set_option maxRecDepth 100000 in
theorem b_DateDresser_takeDay_17 {h0 : Nat} {a0_0 : Nat} {I0 : Nat → Int32} {J0 : Nat → Int64}  {Z : (Nat → Int32) → Prop} {H : Heap} {locs : List Loc} {ls : Array Slot} (hc : zC p s m args meth c prog_3_method_5_code none 2 "NumberDress$DateDresser") (hA : ∀ q : Nat, s.heap.size ≤ q → A q) (hE : zE gE A s) (hl : lv_has ls 2 []) (hK : va_K (dC, dI) zCl [] s) (hP : va_P (dC, dI) zCl [(h0, .inr (2, o_DateDresser I0 J0 a0_0))] H) (hD : va_D A [(h0, .inr (2, o_DateDresser I0 J0 a0_0))]) (hS : va_S A s.heap H locs) (hv : v_DateDresser_takeDay_17 I0 J0  Z) : W p l e (headSpec (Cond.code (⟨"NumberDress$DateDresser", "takeDay", "(I)V"⟩ : MethodName) prog_3_method_5_code 2 none :: zT) { frames := 1, cells := 0, slots := 0, locals := 26 }).room s m args below meth c H locs 0 0 (MQ below (va_Qv Z (zB (dC, dI) zCl [] A (fun u : (Nat → Int32) => [(h0, .inr (2, o_DateDresser u J0 a0_0))])) A) args s 0 0 A) (F0 m 17 ls []) := by
  obtain ⟨hx, hb, hr, hml, hown, ht, hlocks⟩ := id hc
  unfold v_DateDresser_takeDay_17 at hv
  exact W.vret hx hb hr (fun t ht hW => ⟨⟨(I0), rfl, hv, ⟨by rw [ht]; exact hP, va_K.moved hW.alike hK, hD⟩⟩, hS.F ht⟩) hS.2.2 d_DateDresser_takeDay_17
set_option maxHeartbeats 4000000 in
set_option maxRecDepth 100000 in
theorem b_DateDresser_takeDay_55 {h0 : Nat} {a0_0 : Nat} {I0 : Nat → Int32} {J0 : Nat → Int64} {s1 : Int32}  {Z : (Nat → Int32) → Prop} {H : Heap} {locs : List Loc} {ls : Array Slot} (hc : zC p s m args meth c prog_3_method_5_code none 2 "NumberDress$DateDresser") (hA : ∀ q : Nat, s.heap.size ≤ q → A q) (hE : zE gE A s) (hl : lv_has ls 2 []) (hK : va_K (dC, dI) zCl [] s) (hP : va_P (dC, dI) zCl [(h0, .inr (2, o_DateDresser I0 J0 a0_0))] H) (hD : va_D A [(h0, .inr (2, o_DateDresser I0 J0 a0_0))]) (hS : va_S A s.heap H locs) (hv : v_DateDresser_takeDay_55 I0 J0 s1  Z) : W p l e (headSpec (Cond.code (⟨"NumberDress$DateDresser", "takeDay", "(I)V"⟩ : MethodName) prog_3_method_5_code 2 none :: zT) { frames := 1, cells := 0, slots := 0, locals := 26 }).room s m args below meth c H locs 0 0 (MQ below (va_Qv Z (zB (dC, dI) zCl [] A (fun u : (Nat → Int32) => [(h0, .inr (2, o_DateDresser u J0 a0_0))])) A) args s 0 0 A) (F0 m 55 ls [.int s1, .ref h0]) := by
  obtain ⟨hx, hb, hr, hml, hown, ht, hlocks⟩ := id hc
  unfold v_DateDresser_takeDay_55 at hv
  refine va_put (D := (dC, dI)) (ci := 2) (v := .int s1) (ty := .int) (C := "NumberDress$DateDresser") (T := T_DateDresser) (N := 7) hx hb ht zin_DateDresser ty_DateDresser tyok_DateDresser nm_DateDresser hown hK hP hD hS 0 rfl rfl 6 (by decide) (ht _ zw_423) (fun _ h9 => h9) rfl (by decide +kernel) rfl rfl (Nat.le_of_ble_eq_true rfl) d_DateDresser_takeDay_55 (fun H locs hP hD hS => ?_)
  have hP : va_P (dC, dI) zCl [(h0, .inr (2, o_DateDresser (zu I0 6 s1) J0 a0_0))] H := hP
  have hD : va_D A [(h0, .inr (2, o_DateDresser (zu I0 6 s1) J0 a0_0))] := hD
  exact W.vret hx hb hr (fun t ht hW => ⟨⟨((zu I0 6 s1)), rfl, hv, ⟨by rw [ht]; exact hP, va_K.moved hW.alike hK, hD⟩⟩, hS.F ht⟩) hS.2.2 d_DateDresser_takeDay_58
set_option maxHeartbeats 4000000 in
set_option maxRecDepth 100000 in
theorem b_DateDresser_takeDay_37 {h0 : Nat} {a0_0 : Nat} {I0 : Nat → Int32} {J0 : Nat → Int64} {x1 : Int32} {s1 : Int32}  {Z : (Nat → Int32) → Prop} {H : Heap} {locs : List Loc} {ls : Array Slot} (hc : zC p s m args meth c prog_3_method_5_code none 2 "NumberDress$DateDresser") (hA : ∀ q : Nat, s.heap.size ≤ q → A q) (hE : zE gE A s) (hl : lv_has ls 2 [(0, .ref h0), (1, .int x1)]) (hK : va_K (dC, dI) zCl [] s) (hP : va_P (dC, dI) zCl [(h0, .inr (2, o_DateDresser I0 J0 a0_0))] H) (hD : va_D A [(h0, .inr (2, o_DateDresser I0 J0 a0_0))]) (hS : va_S A s.heap H locs) (hv : v_DateDresser_takeDay_37 I0 J0 x1 s1  Z) : W p l e (headSpec (Cond.code (⟨"NumberDress$DateDresser", "takeDay", "(I)V"⟩ : MethodName) prog_3_method_5_code 2 none :: zT) { frames := 1, cells := 0, slots := 0, locals := 26 }).room s m args below meth c H locs 0 0 (MQ below (va_Qv Z (zB (dC, dI) zCl [] A (fun u : (Nat → Int32) => [(h0, .inr (2, o_DateDresser u J0 a0_0))])) A) args s 0 0 A) (F0 m 37 ls [.int s1, .ref h0]) := by
  obtain ⟨hx, hb, hr, hml, hown, ht, hlocks⟩ := id hc
  unfold v_DateDresser_takeDay_37 at hv
  refine va_put (D := (dC, dI)) (ci := 2) (v := .int s1) (ty := .int) (C := "NumberDress$DateDresser") (T := T_DateDresser) (N := 7) hx hb ht zin_DateDresser ty_DateDresser tyok_DateDresser nm_DateDresser hown hK hP hD hS 0 rfl rfl 5 (by decide) (ht _ zw_422) (fun _ h9 => h9) rfl (by decide +kernel) rfl rfl (Nat.le_of_ble_eq_true rfl) d_DateDresser_takeDay_37 (fun H locs hP hD hS => ?_)
  have hP : va_P (dC, dI) zCl [(h0, .inr (2, o_DateDresser (zu I0 5 s1) J0 a0_0))] H := hP
  have hD : va_D A [(h0, .inr (2, o_DateDresser (zu I0 5 s1) J0 a0_0))] := hD
  refine lv_aload_n hx hb d_DateDresser_takeDay_40 rfl (lv_at hl 0 rfl) ?_
  refine lv_iload_n hx hb d_DateDresser_takeDay_41 rfl (lv_at hl 1 rfl) ?_
  refine lv_bipush (v := (31 : Int32)) hx hb d_DateDresser_takeDay_42 (by decide) ?_
  refine lv_icmp_gt (tgt := 51) hx hb d_DateDresser_takeDay_44 (by decide) (fun c_1 => ?_) (fun c_1 => ?_)
  · have hv := hv.1 c_1
    refine lv_iload_n hx hb d_DateDresser_takeDay_51 rfl (lv_at hl 1 rfl) ?_
    refine lv_bipush (v := (31 : Int32)) hx hb d_DateDresser_takeDay_52 (by decide) ?_
    refine lv_isub hx hb d_DateDresser_takeDay_54 ?_
    exact b_DateDresser_takeDay_55 hc hA hE  (lv_sub hl [] rfl) hK hP hD hS hv
  · have hv := hv.2 c_1
    refine lv_iload_n hx hb d_DateDresser_takeDay_47 rfl (lv_at hl 1 rfl) ?_
    refine lv_goto (tgt := 55) hx hb d_DateDresser_takeDay_48 (by decide) ?_
    exact b_DateDresser_takeDay_55 hc hA hE  (lv_sub hl [] rfl) hK hP hD hS hv
set_option maxHeartbeats 4000000 in
set_option maxRecDepth 100000 in
theorem b_DateDresser_takeDay_0 {h0 : Nat} {a0_0 : Nat} {I0 : Nat → Int32} {J0 : Nat → Int64} {x1 : Int32}  {Z : (Nat → Int32) → Prop} {H : Heap} {locs : List Loc} {ls : Array Slot} (hc : zC p s m args meth c prog_3_method_5_code none 2 "NumberDress$DateDresser") (hA : ∀ q : Nat, s.heap.size ≤ q → A q) (hE : zE gE A s) (hl : lv_has ls 2 [(0, .ref h0), (1, .int x1)]) (hK : va_K (dC, dI) zCl [] s) (hP : va_P (dC, dI) zCl [(h0, .inr (2, o_DateDresser I0 J0 a0_0))] H) (hD : va_D A [(h0, .inr (2, o_DateDresser I0 J0 a0_0))]) (hS : va_S A s.heap H locs) (hv : v_DateDresser_takeDay_0 I0 J0 x1  Z) : W p l e (headSpec (Cond.code (⟨"NumberDress$DateDresser", "takeDay", "(I)V"⟩ : MethodName) prog_3_method_5_code 2 none :: zT) { frames := 1, cells := 0, slots := 0, locals := 26 }).room s m args below meth c H locs 0 0 (MQ below (va_Qv Z (zB (dC, dI) zCl [] A (fun u : (Nat → Int32) => [(h0, .inr (2, o_DateDresser u J0 a0_0))])) A) args s 0 0 A) (F0 m 0 ls []) := by
  obtain ⟨hx, hb, hr, hml, hown, ht, hlocks⟩ := id hc
  unfold v_DateDresser_takeDay_0 at hv
  refine lv_iload_n hx hb d_DateDresser_takeDay_0 rfl (lv_at hl 1 rfl) ?_
  refine lv_bipush (v := (61 : Int32)) hx hb d_DateDresser_takeDay_1 (by decide) ?_
  refine lv_icmp_lt (tgt := 18) hx hb d_DateDresser_takeDay_3 (by decide) (fun c_1 => ?_) (fun c_1 => ?_)
  · have hv := hv.1 c_1
    refine lv_aload_n hx hb d_DateDresser_takeDay_18 rfl (lv_at hl 0 rfl) ?_
    refine lv_sipush (v := (1900 : Int32)) hx hb d_DateDresser_takeDay_19 (by decide) ?_
    refine va_put (D := (dC, dI)) (ci := 2) (v := .int (1900 : Int32)) (ty := .int) (C := "NumberDress$DateDresser") (T := T_DateDresser) (N := 7) hx hb ht zin_DateDresser ty_DateDresser tyok_DateDresser nm_DateDresser hown hK hP hD hS 0 rfl rfl 4 (by decide) (ht _ zw_421) (fun _ h9 => h9) rfl (by decide +kernel) rfl rfl (Nat.le_of_ble_eq_true rfl) d_DateDresser_takeDay_22 (fun H locs hP hD hS => ?_)
    have hP : va_P (dC, dI) zCl [(h0, .inr (2, o_DateDresser (zu I0 4 (1900 : Int32)) J0 a0_0))] H := hP
    have hD : va_D A [(h0, .inr (2, o_DateDresser (zu I0 4 (1900 : Int32)) J0 a0_0))] := hD
    refine lv_aload_n hx hb d_DateDresser_takeDay_25 rfl (lv_at hl 0 rfl) ?_
    refine lv_iload_n hx hb d_DateDresser_takeDay_26 rfl (lv_at hl 1 rfl) ?_
    refine lv_bipush (v := (31 : Int32)) hx hb d_DateDresser_takeDay_27 (by decide) ?_
    refine lv_icmp_gt (tgt := 36) hx hb d_DateDresser_takeDay_29 (by decide) (fun c_2 => ?_) (fun c_2 => ?_)
    · have hv := hv.1 c_2
      refine lv_iconst (v := (2 : Int32)) hx hb d_DateDresser_takeDay_36 (by decide) ?_
      exact b_DateDresser_takeDay_37 hc hA hE  (lv_sub hl [0, 1] rfl) hK hP hD hS hv
    · have hv := hv.2 c_2
      refine lv_iconst (v := (1 : Int32)) hx hb d_DateDresser_takeDay_32 (by decide) ?_
      refine lv_goto (tgt := 37) hx hb d_DateDresser_takeDay_33 (by decide) ?_
      exact b_DateDresser_takeDay_37 hc hA hE  (lv_sub hl [0, 1] rfl) hK hP hD hS hv
  · have hv := hv.2 c_1
    refine lv_aload_n hx hb d_DateDresser_takeDay_6 rfl (lv_at hl 0 rfl) ?_
    refine lv_iload_n hx hb d_DateDresser_takeDay_7 rfl (lv_at hl 1 rfl) ?_
    refine lv_bipush (v := (61 : Int32)) hx hb d_DateDresser_takeDay_8 (by decide) ?_
    refine lv_isub hx hb d_DateDresser_takeDay_10 ?_
    refine lv_ldc (v := (109572 : Int32)) hx hb hown (ht _ zw_1067) d_DateDresser_takeDay_11 ?_
    refine lv_iadd hx hb d_DateDresser_takeDay_13 ?_
    refine z_callv (wc := [(h0, .inr (2, o_DateDresser I0 J0 a0_0))]) (wr := []) [0] [] (va_runV (As := [.int ((x1 - (61 : Int32)) + (109572 : Int32))]) (rest := []) ⟨hx, hb, hml, hown, ht⟩ (m_DateDresser_takeCalendarDay l dC dI hv) ⟨(callB_of 1 ht (zG_in zi_DateDresser_takeCalendarDay) rfl rfl rfl (ht _ zw_120) (ht _ zw_1068) zh_DateDresser_takeCalendarDay ⟨Nat.le_of_ble_eq_true rfl, Nat.le_of_ble_eq_true rfl⟩), (ht _ zw_1070), (ht _ zw_54)⟩ ⟨zPc_blind, va_recv hK hP (ci := 2) (q0 := 0) rfl rfl, zPc_pre hP hK hD hS hA hE [0] [] rfl rfl (by decide) rfl⟩ rfl rfl hl.1 rfl (lv_room (Nat.le_of_ble_eq_true rfl)) d_DateDresser_takeDay_14 ⟨Nat.le_of_ble_eq_true rfl, Nat.le_of_ble_eq_true rfl⟩) hP hD hS hA rfl rfl (by decide) (by decide) (fun u H locs hv hP hD hS => ?_)
    have hP : va_P (dC, dI) zCl [(h0, .inr (2, o_DateDresser u J0 a0_0))] H := hP.sub [0] rfl
    have hD : va_D A [(h0, .inr (2, o_DateDresser u J0 a0_0))] := hD.sub [0] (by decide) rfl
    exact b_DateDresser_takeDay_17 hc hA hE  (lv_sub hl [] rfl) hK hP hD hS hv
theorem zi_DateDresser_takeDay : Cond.code (⟨"NumberDress$DateDresser", "takeDay", "(I)V"⟩ : MethodName) prog_3_method_5_code 2 none ∈ zT := zw_1066
theorem zh_DateDresser_takeDay : (((⟨"NumberDress$DateDresser", "takeDay", "(I)V"⟩ : MethodName)).cls ≠ "java/lang/invoke/MethodHandle" ∧ ((⟨"NumberDress$DateDresser", "takeDay", "(I)V"⟩ : MethodName)).cls ≠ "java/lang/invoke/VarHandle" ∧ (parseMethodDescriptor ((⟨"NumberDress$DateDresser", "takeDay", "(I)V"⟩ : MethodName)).desc).map (fun d => d.parameters.length) = some 1) := by decide +kernel
set_option maxHeartbeats 4000000 in
set_option maxRecDepth 100000 in
theorem m_DateDresser_takeDay (l : Launch) (dC : Nat → ClassId) (dI : Nat → Nat → Nat) {gE : zG} {h0 : Nat} {a0_0 : Nat} {I0 : Nat → Int32} {J0 : Nat → Int64} {x1 : Int32} {sz : Nat} {Z : (Nat → Int32) → Prop} (hv : v_DateDresser_takeDay_0 I0 J0 x1 Z) : Met l (⟨"NumberDress$DateDresser", "takeDay", "(I)V"⟩ : MethodName) (Cond.code (⟨"NumberDress$DateDresser", "takeDay", "(I)V"⟩ : MethodName) prog_3_method_5_code 2 none :: zT) { frames := 1, cells := 0, slots := 0, locals := 26 } (zPc gE (dC, dI) zCl [] [.ref h0, .int x1] sz [(h0, .inr (2, o_DateDresser I0 J0 a0_0))]) (va_Qv Z (zB (dC, dI) zCl [] (va_A [(h0, .inr (2, o_DateDresser I0 J0 a0_0))] sz) (fun u : (Nat → Int32) => [(h0, .inr (2, o_DateDresser u J0 a0_0))])) (va_A [(h0, .inr (2, o_DateDresser I0 J0 a0_0))] sz)) 0 0 (va_A [(h0, .inr (2, o_DateDresser I0 J0 a0_0))] sz) := by
  refine Met.ofW (cc := prog_3_method_5_code) (maxL := 2) (ret := none) (by decide +kernel) rfl ?_
  intro p e s m args below meth c s₁ B hml hp
  obtain ⟨rfl, hsz, hP, hK, hD0, hE⟩ := hp
  have hts := atoms_spec (ws := (Cond.code (⟨"NumberDress$DateDresser", "takeDay", "(I)V"⟩ : MethodName) prog_3_method_5_code 2 none :: zT)) B.pre
  have hown : s.vm.findClass "NumberDress$DateDresser" = some m.cls := findClass_of_methodNamed B.named
  have hc : zC p s m _ meth c prog_3_method_5_code none 2 "NumberDress$DateDresser" := ⟨B.exec, B.bytes, B.returns, hml, hown, fun w h => hts w (List.mem_cons_of_mem _ h), B.notSynchronized⟩
  subst hsz
  have hD := hD0.self (sz := s.heap.size)
  generalize hAe : va_A [(h0, .inr (2, o_DateDresser I0 J0 a0_0))] s.heap.size = A at hD hE ⊢
  have hA : ∀ q : Nat, s.heap.size ≤ q → A q := fun q h => by rw [← hAe]; exact Or.inr h
  have hl := lv_entry ([.ref h0, .int x1]) (n := 2) (Nat.le_of_ble_eq_true rfl)
  rw [lg_entry_eq]
  exact b_DateDresser_takeDay_0 hc hA hE hl hK hP hD va_S.rf hv
theorem d_DateDresser_partsOfDay_0 : decode prog_3_method_4_code 0 = .ok (.aload_n 0, 1) := by decide +kernel
theorem d_DateDresser_partsOfDay_1 : decode prog_3_method_4_code 1 = .ok (.getfield 12, 3) := by decide +kernel
theorem d_DateDresser_partsOfDay_4 : decode prog_3_method_4_code 4 = .ok (.getfield 103, 3) := by decide +kernel
theorem d_DateDresser_partsOfDay_7 : decode prog_3_method_4_code 7 = .ok (.ldc2_w 106, 3) := by decide +kernel
theorem d_DateDresser_partsOfDay_10 : decode prog_3_method_4_code 10 = .ok (.ldiv, 1) := by decide +kernel
theorem d_DateDresser_partsOfDay_11 : decode prog_3_method_4_code 11 = .ok (.lstore_n 3, 1) := by decide +kernel
theorem d_DateDresser_partsOfDay_12 : decode prog_3_method_4_code 12 = .ok (.aload_n 0, 1) := by decide +kernel
theorem d_DateDresser_partsOfDay_13 : decode prog_3_method_4_code 13 = .ok (.getfield 12, 3) := by decide +kernel
theorem d_DateDresser_partsOfDay_16 : decode prog_3_method_4_code 16 = .ok (.getfield 103, 3) := by decide +kernel
theorem d_DateDresser_partsOfDay_19 : decode prog_3_method_4_code 19 = .ok (.ldc2_w 106, 3) := by decide +kernel
theorem d_DateDresser_partsOfDay_22 : decode prog_3_method_4_code 22 = .ok (.lrem, 1) := by decide +kernel
theorem d_DateDresser_partsOfDay_23 : decode prog_3_method_4_code 23 = .ok (.lstore 5, 2) := by decide +kernel
theorem d_DateDresser_partsOfDay_25 : decode prog_3_method_4_code 25 = .ok (.lload_n 3, 1) := by decide +kernel
theorem d_DateDresser_partsOfDay_26 : decode prog_3_method_4_code 26 = .ok (.lload_n 1, 1) := by decide +kernel
theorem d_DateDresser_partsOfDay_27 : decode prog_3_method_4_code 27 = .ok (.lmul, 1) := by decide +kernel
theorem d_DateDresser_partsOfDay_28 : decode prog_3_method_4_code 28 = .ok (.lload 5, 2) := by decide +kernel
theorem d_DateDresser_partsOfDay_30 : decode prog_3_method_4_code 30 = .ok (.lload_n 1, 1) := by decide +kernel
theorem d_DateDresser_partsOfDay_31 : decode prog_3_method_4_code 31 = .ok (.lmul, 1) := by decide +kernel
theorem d_DateDresser_partsOfDay_32 : decode prog_3_method_4_code 32 = .ok (.ldc2_w 106, 3) := by decide +kernel
theorem d_DateDresser_partsOfDay_35 : decode prog_3_method_4_code 35 = .ok (.ldiv, 1) := by decide +kernel
theorem d_DateDresser_partsOfDay_36 : decode prog_3_method_4_code 36 = .ok (.ladd, 1) := by decide +kernel
theorem d_DateDresser_partsOfDay_37 : decode prog_3_method_4_code 37 = .ok (.lstore 7, 2) := by decide +kernel
theorem d_DateDresser_partsOfDay_39 : decode prog_3_method_4_code 39 = .ok (.lload 7, 2) := by decide +kernel
theorem d_DateDresser_partsOfDay_41 : decode prog_3_method_4_code 41 = .ok (.ldc2_w 108, 3) := by decide +kernel
theorem d_DateDresser_partsOfDay_44 : decode prog_3_method_4_code 44 = .ok (.ladd, 1) := by decide +kernel
theorem d_DateDresser_partsOfDay_45 : decode prog_3_method_4_code 45 = .ok (.ldc2_w 110, 3) := by decide +kernel
theorem d_DateDresser_partsOfDay_48 : decode prog_3_method_4_code 48 = .ok (.ldiv, 1) := by decide +kernel
theorem d_DateDresser_partsOfDay_49 : decode prog_3_method_4_code 49 = .ok (.lreturn, 1) := by decide +kernel
set_option maxHeartbeats 4000000 in
set_option maxRecDepth 100000 in
theorem b_DateDresser_partsOfDay_0 {h0 : Nat} {h1 : Nat} {a1_0 : Nat} {I0 : Nat → Int32} {J0 : Nat → Int64} {J1 : Nat → Int64} {x1 : Int64}  {Z : Int64 → Unit → Prop} {H : Heap} {locs : List Loc} {ls : Array Slot} (hc : zC p s m args meth c prog_3_method_4_code (some .long) 9 "NumberDress$DateDresser") (hA : ∀ q : Nat, s.heap.size ≤ q → A q) (hE : zE gE A s) (hl : lv_has ls 9 [(0, .ref h0), (1, .long x1)]) (hK : va_K (dC, dI) zCl [] s) (hP : va_P (dC, dI) zCl [(h0, .inr (2, o_DateDresser I0 J0 h1)), (h1, .inr (10, o_Split J1 a1_0))] H) (hD : va_D A [(h0, .inr (2, o_DateDresser I0 J0 h1)), (h1, .inr (10, o_Split J1 a1_0))]) (hS : va_S A s.heap H locs) (hv : v_DateDresser_partsOfDay_0 I0 J0 J1 x1  Z) : W p l e (headSpec (Cond.code (⟨"NumberDress$DateDresser", "partsOfDay", "(J)J"⟩ : MethodName) prog_3_method_4_code 9 (some .long) :: zT) { frames := 0, cells := 0, slots := 0, locals := 0 }).room s m args below meth c H locs 0 0 (MQ below (va_Ql Z (zB (dC, dI) zCl [] A (fun u : Unit => [(h0, .inr (2, o_DateDresser I0 J0 h1)), (h1, .inr (10, o_Split J1 a1_0))])) A) args s 0 0 A) (F0 m 0 ls []) := by
  obtain ⟨hx, hb, hr, hml, hown, ht, hlocks⟩ := id hc
  unfold v_DateDresser_partsOfDay_0 at hv
  refine lv_aload_n hx hb d_DateDresser_partsOfDay_0 rfl (lv_at hl 0 rfl) ?_
  refine va_get (D := (dC, dI)) (ci := 2) (v := .ref h1) (C := "NumberDress$DateDresser") (T := T_DateDresser) (N := 7) hx hb ht zin_DateDresser hown hK hP 0 rfl rfl 0 (by decide) (ht _ zw_417) (fun _ h9 => h9) rfl d_DateDresser_partsOfDay_1 ?_
  refine va_get (D := (dC, dI)) (ci := 10) (v := .long (J1 1)) (C := "NumberDress$Split") (T := T_Split) (N := 2) hx hb ht zin_Split hown hK hP 1 rfl rfl 1 (by decide) (ht _ zw_385) (fun _ h9 => h9) rfl d_DateDresser_partsOfDay_4 ?_
  refine lv_ldc2 (v := (100000000 : Int64)) hx hb hown (ht _ zw_1058) d_DateDresser_partsOfDay_7 ?_
  refine lv_ldiv hx hb d_DateDresser_partsOfDay_10 (by decide) ?_
  refine lv_lstore_n (lv' := [(3, .long ((J1 1) / (100000000 : Int64))), (0, .ref h0), (1, .long x1)]) hx hb d_DateDresser_partsOfDay_11 rfl hl (by decide) rfl (fun ls hl => ?_)
  refine lv_aload_n hx hb d_DateDresser_partsOfDay_12 rfl (lv_at hl 1 rfl) ?_
  refine va_get (D := (dC, dI)) (ci := 2) (v := .ref h1) (C := "NumberDress$DateDresser") (T := T_DateDresser) (N := 7) hx hb ht zin_DateDresser hown hK hP 0 rfl rfl 0 (by decide) (ht _ zw_417) (fun _ h9 => h9) rfl d_DateDresser_partsOfDay_13 ?_
  refine va_get (D := (dC, dI)) (ci := 10) (v := .long (J1 1)) (C := "NumberDress$Split") (T := T_Split) (N := 2) hx hb ht zin_Split hown hK hP 1 rfl rfl 1 (by decide) (ht _ zw_385) (fun _ h9 => h9) rfl d_DateDresser_partsOfDay_16 ?_
  refine lv_ldc2 (v := (100000000 : Int64)) hx hb hown (ht _ zw_1058) d_DateDresser_partsOfDay_19 ?_
  refine lv_lrem hx hb d_DateDresser_partsOfDay_22 (by decide) ?_
  refine lv_topl (fun y_1 ey_1 => ?_)
  have hv := hv y_1 ey_1
  refine lv_lstore (lv' := [(5, .long y_1), (3, .long ((J1 1) / (100000000 : Int64))), (0, .ref h0), (1, .long x1)]) hx hb d_DateDresser_partsOfDay_23 hl (by decide) rfl (fun ls hl => ?_)
  refine lv_lload_n hx hb d_DateDresser_partsOfDay_25 rfl (lv_at hl 1 rfl) ?_
  refine lv_lload_n hx hb d_DateDresser_partsOfDay_26 rfl (lv_at hl 3 rfl) ?_
  refine lv_lmul hx hb d_DateDresser_partsOfDay_27 ?_
  refine lv_lload hx hb d_DateDresser_partsOfDay_28 (lv_at hl 0 rfl) ?_
  refine lv_lload_n hx hb d_DateDresser_partsOfDay_30 rfl (lv_at hl 3 rfl) ?_
  refine lv_lmul hx hb d_DateDresser_partsOfDay_31 ?_
  refine lv_ldc2 (v := (100000000 : Int64)) hx hb hown (ht _ zw_1058) d_DateDresser_partsOfDay_32 ?_
  refine lv_ldiv hx hb d_DateDresser_partsOfDay_35 (by decide) ?_
  refine lv_ladd hx hb d_DateDresser_partsOfDay_36 ?_
  refine lv_topl (fun y_2 ey_2 => ?_)
  have hv := hv y_2 ey_2
  refine lv_lstore (lv' := [(7, .long y_2), (5, .long y_1), (3, .long ((J1 1) / (100000000 : Int64))), (0, .ref h0), (1, .long x1)]) hx hb d_DateDresser_partsOfDay_37 hl (by decide) rfl (fun ls hl => ?_)
  refine lv_lload hx hb d_DateDresser_partsOfDay_39 (lv_at hl 0 rfl) ?_
  refine lv_ldc2 (v := (5000000 : Int64)) hx hb hown (ht _ zw_1059) d_DateDresser_partsOfDay_41 ?_
  refine lv_ladd hx hb d_DateDresser_partsOfDay_44 ?_
  refine lv_ldc2 (v := (10000000 : Int64)) hx hb hown (ht _ zw_1060) d_DateDresser_partsOfDay_45 ?_
  refine lv_ldiv hx hb d_DateDresser_partsOfDay_48 (by decide) ?_
  exact W.lret (v := ((y_2 + (5000000 : Int64)) / (10000000 : Int64))) hx hb hr (fun t ht hW => ⟨⟨_, (), rfl, hv, ⟨by rw [ht]; exact hP, va_K.moved hW.alike hK, hD⟩⟩, hS.F ht⟩) hS.2.2 d_DateDresser_partsOfDay_49
theorem zi_DateDresser_partsOfDay : Cond.code (⟨"NumberDress$DateDresser", "partsOfDay", "(J)J"⟩ : MethodName) prog_3_method_4_code 9 (some .long) ∈ zT := zw_1057
theorem zh_DateDresser_partsOfDay : (((⟨"NumberDress$DateDresser", "partsOfDay", "(J)J"⟩ : MethodName)).cls ≠ "java/lang/invoke/MethodHandle" ∧ ((⟨"NumberDress$DateDresser", "partsOfDay", "(J)J"⟩ : MethodName)).cls ≠ "java/lang/invoke/VarHandle" ∧ (parseMethodDescriptor ((⟨"NumberDress$DateDresser", "partsOfDay", "(J)J"⟩ : MethodName)).desc).map (fun d => d.parameters.length) = some 1) := by decide +kernel
set_option maxHeartbeats 4000000 in
set_option maxRecDepth 100000 in
theorem m_DateDresser_partsOfDay (l : Launch) (dC : Nat → ClassId) (dI : Nat → Nat → Nat) {gE : zG} {h0 : Nat} {h1 : Nat} {a1_0 : Nat} {I0 : Nat → Int32} {J0 : Nat → Int64} {J1 : Nat → Int64} {x1 : Int64} {sz : Nat} {Z : Int64 → Unit → Prop} (hv : v_DateDresser_partsOfDay_0 I0 J0 J1 x1 Z) : Met l (⟨"NumberDress$DateDresser", "partsOfDay", "(J)J"⟩ : MethodName) (Cond.code (⟨"NumberDress$DateDresser", "partsOfDay", "(J)J"⟩ : MethodName) prog_3_method_4_code 9 (some .long) :: zT) { frames := 0, cells := 0, slots := 0, locals := 0 } (zPc gE (dC, dI) zCl [] [.ref h0, .long x1] sz [(h0, .inr (2, o_DateDresser I0 J0 h1)), (h1, .inr (10, o_Split J1 a1_0))]) (va_Ql Z (zB (dC, dI) zCl [] (va_A [(h0, .inr (2, o_DateDresser I0 J0 h1)), (h1, .inr (10, o_Split J1 a1_0))] sz) (fun u : Unit => [(h0, .inr (2, o_DateDresser I0 J0 h1)), (h1, .inr (10, o_Split J1 a1_0))])) (va_A [(h0, .inr (2, o_DateDresser I0 J0 h1)), (h1, .inr (10, o_Split J1 a1_0))] sz)) 0 0 (va_A [(h0, .inr (2, o_DateDresser I0 J0 h1)), (h1, .inr (10, o_Split J1 a1_0))] sz) := by
  refine Met.ofW (cc := prog_3_method_4_code) (maxL := 9) (ret := (some .long)) (by decide +kernel) rfl ?_
  intro p e s m args below meth c s₁ B hml hp
  obtain ⟨rfl, hsz, hP, hK, hD0, hE⟩ := hp
  have hts := atoms_spec (ws := (Cond.code (⟨"NumberDress$DateDresser", "partsOfDay", "(J)J"⟩ : MethodName) prog_3_method_4_code 9 (some .long) :: zT)) B.pre
  have hown : s.vm.findClass "NumberDress$DateDresser" = some m.cls := findClass_of_methodNamed B.named
  have hc : zC p s m _ meth c prog_3_method_4_code (some .long) 9 "NumberDress$DateDresser" := ⟨B.exec, B.bytes, B.returns, hml, hown, fun w h => hts w (List.mem_cons_of_mem _ h), B.notSynchronized⟩
  subst hsz
  have hD := hD0.self (sz := s.heap.size)
  generalize hAe : va_A [(h0, .inr (2, o_DateDresser I0 J0 h1)), (h1, .inr (10, o_Split J1 a1_0))] s.heap.size = A at hD hE ⊢
  have hA : ∀ q : Nat, s.heap.size ≤ q → A q := fun q h => by rw [← hAe]; exact Or.inr h
  have hl := lv_entry ([.ref h0, .long x1]) (n := 9) (Nat.le_of_ble_eq_true rfl)
  rw [lg_entry_eq]
  exact b_DateDresser_partsOfDay_0 hc hA hE hl hK hP hD va_S.rf hv
theorem d_Digits_small_0 : decode prog_4_method_8_code 0 = .ok (.aload_n 0, 1) := by decide +kernel
theorem d_Digits_small_1 : decode prog_4_method_8_code 1 = .ok (.getfield 7, 3) := by decide +kernel
theorem d_Digits_small_4 : decode prog_4_method_8_code 4 = .ok (.aload_n 0, 1) := by decide +kernel
theorem d_Digits_small_5 : decode prog_4_method_8_code 5 = .ok (.getfield 13, 3) := by decide +kernel
theorem d_Digits_small_8 : decode prog_4_method_8_code 8 = .ok (.invokestatic 47, 3) := by decide +kernel
theorem d_Digits_small_11 : decode prog_4_method_8_code 11 = .ok (.lmul, 1) := by decide +kernel
theorem d_Digits_small_12 : decode prog_4_method_8_code 12 = .ok (.lreturn, 1) := by decide +kernel
set_option maxHeartbeats 4000000 in
set_option maxRecDepth 100000 in
theorem b_Digits_small_11 {h0 : Nat} {I0 : Nat → Int32} {J0 : Nat → Int64} {s0 : Int64} {s1 : Int64}  {Z : Int64 → Unit → Prop} {H : Heap} {locs : List Loc} {ls : Array Slot} (hc : zC p s m args meth c prog_4_method_8_code (some .long) 1 "NumberDress$Digits") (hA : ∀ q : Nat, s.heap.size ≤ q → A q) (hE : zE gE A s) (hl : lv_has ls 1 []) (hK : va_K (dC, dI) zCl [] s) (hP : va_P (dC, dI) zCl [(h0, .inr (3, o_Digits I0 J0))] H) (hD : va_D A [(h0, .inr (3, o_Digits I0 J0))]) (hS : va_S A s.heap H locs) (hv : v_Digits_small_11 I0 J0 s0 s1  Z) : W p l e (headSpec (Cond.code (⟨"NumberDress$Digits", "small", "()J"⟩ : MethodName) prog_4_method_8_code 1 (some .long) :: zT) { frames := 1, cells := 0, slots := 0, locals := 20 }).room s m args below meth c H locs 0 0 (MQ below (va_Ql Z (zB (dC, dI) zCl [] A (fun u : Unit => [(h0, .inr (3, o_Digits I0 J0))])) A) args s 0 0 A) (F0 m 11 ls [.long s1, .long s0]) := by
  obtain ⟨hx, hb, hr, hml, hown, ht, hlocks⟩ := id hc
  unfold v_Digits_small_11 at hv
  refine lv_lmul hx hb d_Digits_small_11 ?_
  exact W.lret (v := (s0 * s1)) hx hb hr (fun t ht hW => ⟨⟨_, (), rfl, hv, ⟨by rw [ht]; exact hP, va_K.moved hW.alike hK, hD⟩⟩, hS.F ht⟩) hS.2.2 d_Digits_small_12
set_option maxHeartbeats 4000000 in
set_option maxRecDepth 100000 in
theorem b_Digits_small_0 {h0 : Nat} {I0 : Nat → Int32} {J0 : Nat → Int64}  {Z : Int64 → Unit → Prop} {H : Heap} {locs : List Loc} {ls : Array Slot} (hc : zC p s m args meth c prog_4_method_8_code (some .long) 1 "NumberDress$Digits") (hA : ∀ q : Nat, s.heap.size ≤ q → A q) (hE : zE gE A s) (hl : lv_has ls 1 [(0, .ref h0)]) (hK : va_K (dC, dI) zCl [] s) (hP : va_P (dC, dI) zCl [(h0, .inr (3, o_Digits I0 J0))] H) (hD : va_D A [(h0, .inr (3, o_Digits I0 J0))]) (hS : va_S A s.heap H locs) (hv : v_Digits_small_0 I0 J0  Z) : W p l e (headSpec (Cond.code (⟨"NumberDress$Digits", "small", "()J"⟩ : MethodName) prog_4_method_8_code 1 (some .long) :: zT) { frames := 1, cells := 0, slots := 0, locals := 20 }).room s m args below meth c H locs 0 0 (MQ below (va_Ql Z (zB (dC, dI) zCl [] A (fun u : Unit => [(h0, .inr (3, o_Digits I0 J0))])) A) args s 0 0 A) (F0 m 0 ls []) := by
  obtain ⟨hx, hb, hr, hml, hown, ht, hlocks⟩ := id hc
  unfold v_Digits_small_0 at hv
  refine lv_aload_n hx hb d_Digits_small_0 rfl (lv_at hl 0 rfl) ?_
  refine va_get (D := (dC, dI)) (ci := 3) (v := .long (J0 0)) (C := "NumberDress$Digits") (T := T_Digits) (N := 4) hx hb ht zin_Digits hown hK hP 0 rfl rfl 0 (by decide) (ht _ zw_343) (fun _ h9 => h9) rfl d_Digits_small_1 ?_
  refine lv_aload_n hx hb d_Digits_small_4 rfl (lv_at hl 0 rfl) ?_
  refine va_get (D := (dC, dI)) (ci := 3) (v := .int (I0 1)) (C := "NumberDress$Digits") (T := T_Digits) (N := 4) hx hb ht zin_Digits hown hK hP 0 rfl rfl 1 (by decide) (ht _ zw_344) (fun _ h9 => h9) rfl d_Digits_small_5 ?_
  refine z_calll (wc := []) (wr := [(h0, .inr (3, o_Digits I0 J0))]) [] [0] (va_runSN (As := [.int (I0 1)]) (rest := [.long (J0 0)]) ⟨hx, hb, hml, hown, ht⟩ (m_ND_tenTo l dC dI hv) ⟨(va_cnB 1 ht (zG_in zi_ND_tenTo) rfl rfl rfl (hE.nest zn_971) (ht _ zw_110) zh_ND_tenTo ⟨Nat.le_of_ble_eq_true rfl, Nat.le_of_ble_eq_true rfl⟩), (ht _ zw_883), trivial⟩ ⟨zPc_blind, zPc_pre hP hK hD hS hA hE [] [] rfl rfl (by decide) rfl⟩ rfl rfl hl.1 rfl (lv_room (Nat.le_of_ble_eq_true rfl)) d_Digits_small_8 ⟨Nat.le_of_ble_eq_true rfl, Nat.le_of_ble_eq_true rfl⟩) hP hD hS hA rfl rfl (by decide) (by decide) (fun r u H locs hv hP hD hS => ?_)
  have hP : va_P (dC, dI) zCl [(h0, .inr (3, o_Digits I0 J0))] H := hP.sub [0] rfl
  have hD : va_D A [(h0, .inr (3, o_Digits I0 J0))] := hD.sub [0] (by decide) rfl
  exact b_Digits_small_11 hc hA hE  (lv_sub hl [] rfl) hK hP hD hS hv
theorem zi_Digits_small : Cond.code (⟨"NumberDress$Digits", "small", "()J"⟩ : MethodName) prog_4_method_8_code 1 (some .long) ∈ zT := zw_1018
theorem zh_Digits_small : (((⟨"NumberDress$Digits", "small", "()J"⟩ : MethodName)).cls ≠ "java/lang/invoke/MethodHandle" ∧ ((⟨"NumberDress$Digits", "small", "()J"⟩ : MethodName)).cls ≠ "java/lang/invoke/VarHandle" ∧ (parseMethodDescriptor ((⟨"NumberDress$Digits", "small", "()J"⟩ : MethodName)).desc).map (fun d => d.parameters.length) = some 0) := by decide +kernel
set_option maxHeartbeats 4000000 in
set_option maxRecDepth 100000 in
theorem m_Digits_small (l : Launch) (dC : Nat → ClassId) (dI : Nat → Nat → Nat) {gE : zG} {h0 : Nat} {I0 : Nat → Int32} {J0 : Nat → Int64} {sz : Nat} {Z : Int64 → Unit → Prop} (hv : v_Digits_small_0 I0 J0 Z) : Met l (⟨"NumberDress$Digits", "small", "()J"⟩ : MethodName) (Cond.code (⟨"NumberDress$Digits", "small", "()J"⟩ : MethodName) prog_4_method_8_code 1 (some .long) :: zT) { frames := 1, cells := 0, slots := 0, locals := 20 } (zPc gE (dC, dI) zCl [] [.ref h0] sz [(h0, .inr (3, o_Digits I0 J0))]) (va_Ql Z (zB (dC, dI) zCl [] (va_A [(h0, .inr (3, o_Digits I0 J0))] sz) (fun u : Unit => [(h0, .inr (3, o_Digits I0 J0))])) (va_A [(h0, .inr (3, o_Digits I0 J0))] sz)) 0 0 (va_A [(h0, .inr (3, o_Digits I0 J0))] sz) := by
  refine Met.ofW (cc := prog_4_method_8_code) (maxL := 1) (ret := (some .long)) (by decide +kernel) rfl ?_
  intro p e s m args below meth c s₁ B hml hp
  obtain ⟨rfl, hsz, hP, hK, hD0, hE⟩ := hp
  have hts := atoms_spec (ws := (Cond.code (⟨"NumberDress$Digits", "small", "()J"⟩ : MethodName) prog_4_method_8_code 1 (some .long) :: zT)) B.pre
  have hown : s.vm.findClass "NumberDress$Digits" = some m.cls := findClass_of_methodNamed B.named
  have hc : zC p s m _ meth c prog_4_method_8_code (some .long) 1 "NumberDress$Digits" := ⟨B.exec, B.bytes, B.returns, hml, hown, fun w h => hts w (List.mem_cons_of_mem _ h), B.notSynchronized⟩
  subst hsz
  have hD := hD0.self (sz := s.heap.size)
  generalize hAe : va_A [(h0, .inr (3, o_Digits I0 J0))] s.heap.size = A at hD hE ⊢
  have hA : ∀ q : Nat, s.heap.size ≤ q → A q := fun q h => by rw [← hAe]; exact Or.inr h
  have hl := lv_entry ([.ref h0]) (n := 1) (Nat.le_of_ble_eq_true rfl)
  rw [lg_entry_eq]
  exact b_Digits_small_0 hc hA hE hl hK hP hD va_S.rf hv
theorem d_DateDresser_takeTime_0 : decode prog_3_method_3_code 0 = .ok (.iload_n 1, 1) := by decide +kernel
theorem d_DateDresser_takeTime_1 : decode prog_3_method_3_code 1 = .ok (.invokestatic 83, 3) := by decide +kernel
theorem d_DateDresser_takeTime_4 : decode prog_3_method_3_code 4 = .ok (.lstore_n 2, 1) := by decide +kernel
theorem d_DateDresser_takeTime_5 : decode prog_3_method_3_code 5 = .ok (.ldc2_w 87, 3) := by decide +kernel
theorem d_DateDresser_takeTime_8 : decode prog_3_method_3_code 8 = .ok (.lload_n 2, 1) := by decide +kernel
theorem d_DateDresser_takeTime_9 : decode prog_3_method_3_code 9 = .ok (.lmul, 1) := by decide +kernel
theorem d_DateDresser_takeTime_10 : decode prog_3_method_3_code 10 = .ok (.lstore 4, 2) := by decide +kernel
theorem d_DateDresser_takeTime_12 : decode prog_3_method_3_code 12 = .ok (.aload_n 0, 1) := by decide +kernel
theorem d_DateDresser_takeTime_13 : decode prog_3_method_3_code 13 = .ok (.lload 4, 2) := by decide +kernel
theorem d_DateDresser_takeTime_15 : decode prog_3_method_3_code 15 = .ok (.invokevirtual 89, 3) := by decide +kernel
theorem d_DateDresser_takeTime_18 : decode prog_3_method_3_code 18 = .ok (.lstore 6, 2) := by decide +kernel
theorem d_DateDresser_takeTime_20 : decode prog_3_method_3_code 20 = .ok (.aload_n 0, 1) := by decide +kernel
theorem d_DateDresser_takeTime_21 : decode prog_3_method_3_code 21 = .ok (.aload_n 0, 1) := by decide +kernel
theorem d_DateDresser_takeTime_22 : decode prog_3_method_3_code 22 = .ok (.getfield 12, 3) := by decide +kernel
theorem d_DateDresser_takeTime_25 : decode prog_3_method_3_code 25 = .ok (.getfield 22, 3) := by decide +kernel
theorem d_DateDresser_takeTime_28 : decode prog_3_method_3_code 28 = .ok (.invokevirtual 93, 3) := by decide +kernel
theorem d_DateDresser_takeTime_31 : decode prog_3_method_3_code 31 = .ok (.putfield 47, 3) := by decide +kernel
theorem d_DateDresser_takeTime_34 : decode prog_3_method_3_code 34 = .ok (.lload 6, 2) := by decide +kernel
theorem d_DateDresser_takeTime_36 : decode prog_3_method_3_code 36 = .ok (.lload 4, 2) := by decide +kernel
theorem d_DateDresser_takeTime_38 : decode prog_3_method_3_code 38 = .ok (.lcmp, 1) := by decide +kernel
theorem d_DateDresser_takeTime_39 : decode prog_3_method_3_code 39 = .ok (.ifCond .lt 20, 3) := by decide +kernel
theorem d_DateDresser_takeTime_42 : decode prog_3_method_3_code 42 = .ok (.aload_n 0, 1) := by decide +kernel
theorem d_DateDresser_takeTime_43 : decode prog_3_method_3_code 43 = .ok (.dup, 1) := by decide +kernel
theorem d_DateDresser_takeTime_44 : decode prog_3_method_3_code 44 = .ok (.getfield 47, 3) := by decide +kernel
theorem d_DateDresser_takeTime_47 : decode prog_3_method_3_code 47 = .ok (.lconst 1, 1) := by decide +kernel
theorem d_DateDresser_takeTime_48 : decode prog_3_method_3_code 48 = .ok (.ladd, 1) := by decide +kernel
theorem d_DateDresser_takeTime_49 : decode prog_3_method_3_code 49 = .ok (.putfield 47, 3) := by decide +kernel
theorem d_DateDresser_takeTime_52 : decode prog_3_method_3_code 52 = .ok (.lload 6, 2) := by decide +kernel
theorem d_DateDresser_takeTime_54 : decode prog_3_method_3_code 54 = .ok (.lload 4, 2) := by decide +kernel
theorem d_DateDresser_takeTime_56 : decode prog_3_method_3_code 56 = .ok (.lsub, 1) := by decide +kernel
theorem d_DateDresser_takeTime_57 : decode prog_3_method_3_code 57 = .ok (.lstore 6, 2) := by decide +kernel
theorem d_DateDresser_takeTime_59 : decode prog_3_method_3_code 59 = .ok (.aload_n 0, 1) := by decide +kernel
theorem d_DateDresser_takeTime_60 : decode prog_3_method_3_code 60 = .ok (.lload 6, 2) := by decide +kernel
theorem d_DateDresser_takeTime_62 : decode prog_3_method_3_code 62 = .ok (.lload_n 2, 1) := by decide +kernel
theorem d_DateDresser_takeTime_63 : decode prog_3_method_3_code 63 = .ok (.ldiv, 1) := by decide +kernel
theorem d_DateDresser_takeTime_64 : decode prog_3_method_3_code 64 = .ok (.putfield 97, 3) := by decide +kernel
theorem d_DateDresser_takeTime_67 : decode prog_3_method_3_code 67 = .ok (.aload_n 0, 1) := by decide +kernel
theorem d_DateDresser_takeTime_68 : decode prog_3_method_3_code 68 = .ok (.lload 6, 2) := by decide +kernel
theorem d_DateDresser_takeTime_70 : decode prog_3_method_3_code 70 = .ok (.lload_n 2, 1) := by decide +kernel
theorem d_DateDresser_takeTime_71 : decode prog_3_method_3_code 71 = .ok (.lrem, 1) := by decide +kernel
theorem d_DateDresser_takeTime_72 : decode prog_3_method_3_code 72 = .ok (.iconst 3, 1) := by decide +kernel
theorem d_DateDresser_takeTime_73 : decode prog_3_method_3_code 73 = .ok (.iload_n 1, 1) := by decide +kernel
theorem d_DateDresser_takeTime_74 : decode prog_3_method_3_code 74 = .ok (.isub, 1) := by decide +kernel
theorem d_DateDresser_takeTime_75 : decode prog_3_method_3_code 75 = .ok (.invokestatic 83, 3) := by decide +kernel
theorem d_DateDresser_takeTime_78 : decode prog_3_method_3_code 78 = .ok (.lmul, 1) := by decide +kernel
theorem d_DateDresser_takeTime_79 : decode prog_3_method_3_code 79 = .ok (.putfield 100, 3) := by decide +kernel
theorem d_DateDresser_takeTime_82 : decode prog_3_method_3_code 82 = .ok (.return_, 1) := by decide +kernel
set_option maxHeartbeats 4000000 in
set_option maxRecDepth 100000 in
theorem b_DateDresser_takeTime_78 {h0 : Nat} {h1 : Nat} {h2 : Nat} {I0 : Nat → Int32} {J0 : Nat → Int64} {J1 : Nat → Int64} {I2 : Nat → Int32} {J2 : Nat → Int64} {s1 : Int64} {s2 : Int64}  {Z : (Nat → Int64) → Prop} {H : Heap} {locs : List Loc} {ls : Array Slot} (hc : zC p s m args meth c prog_3_method_3_code none 8 "NumberDress$DateDresser") (hA : ∀ q : Nat, s.heap.size ≤ q → A q) (hE : zE gE A s) (hl : lv_has ls 8 []) (hK : va_K (dC, dI) zCl [] s) (hP : va_P (dC, dI) zCl [(h0, .inr (2, o_DateDresser I0 J0 h1)), (h1, .inr (10, o_Split J1 h2)), (h2, .inr (3, o_Digits I2 J2))] H) (hD : va_D A [(h0, .inr (2, o_DateDresser I0 J0 h1)), (h1, .inr (10, o_Split J1 h2)), (h2, .inr (3, o_Digits I2 J2))]) (hS : va_S A s.heap H locs) (hv : v_DateDresser_takeTime_78 I0 J0 J1 I2 J2 s1 s2  Z) : W p l e (headSpec (Cond.code (⟨"NumberDress$DateDresser", "takeTime", "(I)V"⟩ : MethodName) prog_3_method_3_code 8 none :: zT) { frames := 2, cells := 0, slots := 0, locals := 40 }).room s m args below meth c H locs 0 0 (MQ below (va_Qv Z (zB (dC, dI) zCl [] A (fun u : (Nat → Int64) => [(h0, .inr (2, o_DateDresser I0 u h1)), (h1, .inr (10, o_Split J1 h2)), (h2, .inr (3, o_Digits I2 J2))])) A) args s 0 0 A) (F0 m 78 ls [.long s2, .long s1, .ref h0]) := by
  obtain ⟨hx, hb, hr, hml, hown, ht, hlocks⟩ := id hc
  unfold v_DateDresser_takeTime_78 at hv
  refine lv_lmul hx hb d_DateDresser_takeTime_78 ?_
  refine va_put (D := (dC, dI)) (ci := 2) (v := .long (s1 * s2)) (ty := .long) (C := "NumberDress$DateDresser") (T := T_DateDresser) (N := 7) hx hb ht zin_DateDresser ty_DateDresser tyok_DateDresser nm_DateDresser hown hK hP hD hS 0 rfl rfl 3 (by decide) (ht _ zw_420) (fun _ h9 => h9) rfl (by decide +kernel) rfl rfl (Nat.le_of_ble_eq_true rfl) d_DateDresser_takeTime_79 (fun H locs hP hD hS => ?_)
  have hP : va_P (dC, dI) zCl [(h0, .inr (2, o_DateDresser I0 (zul J0 3 (s1 * s2)) h1)), (h1, .inr (10, o_Split J1 h2)), (h2, .inr (3, o_Digits I2 J2))] H := hP
  have hD : va_D A [(h0, .inr (2, o_DateDresser I0 (zul J0 3 (s1 * s2)) h1)), (h1, .inr (10, o_Split J1 h2)), (h2, .inr (3, o_Digits I2 J2))] := hD
  exact W.vret hx hb hr (fun t ht hW => ⟨⟨((zul J0 3 (s1 * s2))), rfl, hv, ⟨by rw [ht]; exact hP, va_K.moved hW.alike hK, hD⟩⟩, hS.F ht⟩) hS.2.2 d_DateDresser_takeTime_82
set_option maxHeartbeats 4000000 in
set_option maxRecDepth 100000 in
theorem b_DateDresser_takeTime_59 {h0 : Nat} {h1 : Nat} {h2 : Nat} {I0 : Nat → Int32} {J0 : Nat → Int64} {J1 : Nat → Int64} {I2 : Nat → Int32} {J2 : Nat → Int64} {x1 : Int32} {x2 : Int64} {x6 : Int64}  {Z : (Nat → Int64) → Prop} {H : Heap} {locs : List Loc} {ls : Array Slot} (hc : zC p s m args meth c prog_3_method_3_code none 8 "NumberDress$DateDresser") (hA : ∀ q : Nat, s.heap.size ≤ q → A q) (hE : zE gE A s) (hl : lv_has ls 8 [(0, .ref h0), (1, .int x1), (2, .long x2), (6, .long x6)]) (hK : va_K (dC, dI) zCl [] s) (hP : va_P (dC, dI) zCl [(h0, .inr (2, o_DateDresser I0 J0 h1)), (h1, .inr (10, o_Split J1 h2)), (h2, .inr (3, o_Digits I2 J2))] H) (hD : va_D A [(h0, .inr (2, o_DateDresser I0 J0 h1)), (h1, .inr (10, o_Split J1 h2)), (h2, .inr (3, o_Digits I2 J2))]) (hS : va_S A s.heap H locs) (hv : v_DateDresser_takeTime_59 I0 J0 J1 I2 J2 x1 x2 x6  Z) : W p l e (headSpec (Cond.code (⟨"NumberDress$DateDresser", "takeTime", "(I)V"⟩ : MethodName) prog_3_method_3_code 8 none :: zT) { frames := 2, cells := 0, slots := 0, locals := 40 }).room s m args below meth c H locs 0 0 (MQ below (va_Qv Z (zB (dC, dI) zCl [] A (fun u : (Nat → Int64) => [(h0, .inr (2, o_DateDresser I0 u h1)), (h1, .inr (10, o_Split J1 h2)), (h2, .inr (3, o_Digits I2 J2))])) A) args s 0 0 A) (F0 m 59 ls []) := by
  obtain ⟨hx, hb, hr, hml, hown, ht, hlocks⟩ := id hc
  unfold v_DateDresser_takeTime_59 at hv
  refine lv_aload_n hx hb d_DateDresser_takeTime_59 rfl (lv_at hl 0 rfl) ?_
  refine lv_lload hx hb d_DateDresser_takeTime_60 (lv_at hl 3 rfl) ?_
  refine lv_lload_n hx hb d_DateDresser_takeTime_62 rfl (lv_at hl 2 rfl) ?_
  obtain ⟨q_1, hv⟩ := hv
  refine lv_ldiv hx hb d_DateDresser_takeTime_63 q_1 ?_
  refine va_put (D := (dC, dI)) (ci := 2) (v := .long (x6 / x2)) (ty := .long) (C := "NumberDress$DateDresser") (T := T_DateDresser) (N := 7) hx hb ht zin_DateDresser ty_DateDresser tyok_DateDresser nm_DateDresser hown hK hP hD hS 0 rfl rfl 2 (by decide) (ht _ zw_419) (fun _ h9 => h9) rfl (by decide +kernel) rfl rfl (Nat.le_of_ble_eq_true rfl) d_DateDresser_takeTime_64 (fun H locs hP hD hS => ?_)
  have hP : va_P (dC, dI) zCl [(h0, .inr (2, o_DateDresser I0 (zul J0 2 (x6 / x2)) h1)), (h1, .inr (10, o_Split J1 h2)), (h2, .inr (3, o_Digits I2 J2))] H := hP
  have hD : va_D A [(h0, .inr (2, o_DateDresser I0 (zul J0 2 (x6 / x2)) h1)), (h1, .inr (10, o_Split J1 h2)), (h2, .inr (3, o_Digits I2 J2))] := hD
  refine lv_aload_n hx hb d_DateDresser_takeTime_67 rfl (lv_at hl 0 rfl) ?_
  refine lv_lload hx hb d_DateDresser_takeTime_68 (lv_at hl 3 rfl) ?_
  refine lv_lload_n hx hb d_DateDresser_takeTime_70 rfl (lv_at hl 2 rfl) ?_
  obtain ⟨q_2, hv⟩ := hv
  refine lv_lrem hx hb d_DateDresser_takeTime_71 q_2 ?_
  refine lv_iconst (v := (3 : Int32)) hx hb d_DateDresser_takeTime_72 (by decide) ?_
  refine lv_iload_n hx hb d_DateDresser_takeTime_73 rfl (lv_at hl 1 rfl) ?_
  refine lv_isub hx hb d_DateDresser_takeTime_74 ?_
  refine z_calll (wc := []) (wr := [(h0, .inr (2, o_DateDresser I0 (zul J0 2 (x6 / x2)) h1)), (h1, .inr (10, o_Split J1 h2)), (h2, .inr (3, o_Digits I2 J2))]) [] [0, 1, 2] (va_runSN (As := [.int ((3 : Int32) - x1)]) (rest := [.long (x6 - x6 / x2 * x2), .ref h0]) ⟨hx, hb, hml, hown, ht⟩ (m_ND_tenTo l dC dI hv) ⟨(va_cnB 1 ht (zG_in zi_ND_tenTo) rfl rfl rfl (hE.nest zn_1052) (ht _ zw_110) zh_ND_tenTo ⟨Nat.le_of_ble_eq_true rfl, Nat.le_of_ble_eq_true rfl⟩), (ht _ zw_883), trivial⟩ ⟨zPc_blind, zPc_pre hP hK hD hS hA hE [] [] rfl rfl (by decide) rfl⟩ rfl rfl hl.1 rfl (lv_room (Nat.le_of_ble_eq_true rfl)) d_DateDresser_takeTime_75 ⟨Nat.le_of_ble_eq_true rfl, Nat.le_of_ble_eq_true rfl⟩) hP hD hS hA rfl rfl (by decide) (by decide) (fun r u H locs hv hP hD hS => ?_)
  have hP : va_P (dC, dI) zCl [(h0, .inr (2, o_DateDresser I0 (zul J0 2 (x6 / x2)) h1)), (h1, .inr (10, o_Split J1 h2)), (h2, .inr (3, o_Digits I2 J2))] H := hP.sub [0, 1, 2] rfl
  have hD : va_D A [(h0, .inr (2, o_DateDresser I0 (zul J0 2 (x6 / x2)) h1)), (h1, .inr (10, o_Split J1 h2)), (h2, .inr (3, o_Digits I2 J2))] := hD.sub [0, 1, 2] (by decide) rfl
  exact b_DateDresser_takeTime_78 hc hA hE  (lv_sub hl [] rfl) hK hP hD hS hv
set_option maxHeartbeats 4000000 in
set_option maxRecDepth 100000 in
theorem b_DateDresser_takeTime_31 {h0 : Nat} {h1 : Nat} {h2 : Nat} {I0 : Nat → Int32} {J0 : Nat → Int64} {J1 : Nat → Int64} {I2 : Nat → Int32} {J2 : Nat → Int64} {x1 : Int32} {x2 : Int64} {x4 : Int64} {x6 : Int64} {s1 : Int64}  {Z : (Nat → Int64) → Prop} {H : Heap} {locs : List Loc} {ls : Array Slot} (hc : zC p s m args meth c prog_3_method_3_code none 8 "NumberDress$DateDresser") (hA : ∀ q : Nat, s.heap.size ≤ q → A q) (hE : zE gE A s) (hl : lv_has ls 8 [(0, .ref h0), (1, .int x1), (2, .long x2), (4, .long x4), (6, .long x6)]) (hK : va_K (dC, dI) zCl [] s) (hP : va_P (dC, dI) zCl [(h0, .inr (2, o_DateDresser I0 J0 h1)), (h1, .inr (10, o_Split J1 h2)), (h2, .inr (3, o_Digits I2 J2))] H) (hD : va_D A [(h0, .inr (2, o_DateDresser I0 J0 h1)), (h1, .inr (10, o_Split J1 h2)), (h2, .inr (3, o_Digits I2 J2))]) (hS : va_S A s.heap H locs) (hv : v_DateDresser_takeTime_31 I0 J0 J1 I2 J2 x1 x2 x4 x6 s1  Z) : W p l e (headSpec (Cond.code (⟨"NumberDress$DateDresser", "takeTime", "(I)V"⟩ : MethodName) prog_3_method_3_code 8 none :: zT) { frames := 2, cells := 0, slots := 0, locals := 40 }).room s m args below meth c H locs 0 0 (MQ below (va_Qv Z (zB (dC, dI) zCl [] A (fun u : (Nat → Int64) => [(h0, .inr (2, o_DateDresser I0 u h1)), (h1, .inr (10, o_Split J1 h2)), (h2, .inr (3, o_Digits I2 J2))])) A) args s 0 0 A) (F0 m 31 ls [.long s1, .ref h0]) := by
  obtain ⟨hx, hb, hr, hml, hown, ht, hlocks⟩ := id hc
  unfold v_DateDresser_takeTime_31 at hv
  refine va_put (D := (dC, dI)) (ci := 2) (v := .long s1) (ty := .long) (C := "NumberDress$DateDresser") (T := T_DateDresser) (N := 7) hx hb ht zin_DateDresser ty_DateDresser tyok_DateDresser nm_DateDresser hown hK hP hD hS 0 rfl rfl 1 (by decide) (ht _ zw_418) (fun _ h9 => h9) rfl (by decide +kernel) rfl rfl (Nat.le_of_ble_eq_true rfl) d_DateDresser_takeTime_31 (fun H locs hP hD hS => ?_)
  have hP : va_P (dC, dI) zCl [(h0, .inr (2, o_DateDresser I0 (zul J0 1 s1) h1)), (h1, .inr (10, o_Split J1 h2)), (h2, .inr (3, o_Digits I2 J2))] H := hP
  have hD : va_D A [(h0, .inr (2, o_DateDresser I0 (zul J0 1 s1) h1)), (h1, .inr (10, o_Split J1 h2)), (h2, .inr (3, o_Digits I2 J2))] := hD
  refine lv_lload hx hb d_DateDresser_takeTime_34 (lv_at hl 4 rfl) ?_
  refine lv_lload hx hb d_DateDresser_takeTime_36 (lv_at hl 3 rfl) ?_
  refine z_lcmp_lt (tgt := 59) hx hb d_DateDresser_takeTime_38 d_DateDresser_takeTime_39 (by decide) (fun c_1 => ?_) (fun c_1 => ?_)
  · have hv := hv.1 c_1
    exact b_DateDresser_takeTime_59 hc hA hE  (lv_sub hl [0, 1, 2, 4] rfl) hK hP hD hS hv
  · have hv := hv.2 c_1
    refine lv_aload_n hx hb d_DateDresser_takeTime_42 rfl (lv_at hl 0 rfl) ?_
    refine lv_dup hx hb d_DateDresser_takeTime_43 rfl ?_
    refine va_get (D := (dC, dI)) (ci := 2) (v := .long s1) (C := "NumberDress$DateDresser") (T := T_DateDresser) (N := 7) hx hb ht zin_DateDresser hown hK hP 0 rfl rfl 1 (by decide) (ht _ zw_418) (fun _ h9 => h9) rfl d_DateDresser_takeTime_44 ?_
    refine lv_lconst (v := (1 : Int64)) hx hb d_DateDresser_takeTime_47 (by decide) ?_
    refine lv_ladd hx hb d_DateDresser_takeTime_48 ?_
    refine va_put (D := (dC, dI)) (ci := 2) (v := .long (s1 + (1 : Int64))) (ty := .long) (C := "NumberDress$DateDresser") (T := T_DateDresser) (N := 7) hx hb ht zin_DateDresser ty_DateDresser tyok_DateDresser nm_DateDresser hown hK hP hD hS 0 rfl rfl 1 (by decide) (ht _ zw_418) (fun _ h9 => h9) rfl (by decide +kernel) rfl rfl (Nat.le_of_ble_eq_true rfl) d_DateDresser_takeTime_49 (fun H locs hP hD hS => ?_)
    have hP : va_P (dC, dI) zCl [(h0, .inr (2, o_DateDresser I0 (zul J0 1 (s1 + (1 : Int64))) h1)), (h1, .inr (10, o_Split J1 h2)), (h2, .inr (3, o_Digits I2 J2))] H := hP
    have hD : va_D A [(h0, .inr (2, o_DateDresser I0 (zul J0 1 (s1 + (1 : Int64))) h1)), (h1, .inr (10, o_Split J1 h2)), (h2, .inr (3, o_Digits I2 J2))] := hD
    refine lv_lload hx hb d_DateDresser_takeTime_52 (lv_at hl 4 rfl) ?_
    refine lv_lload hx hb d_DateDresser_takeTime_54 (lv_at hl 3 rfl) ?_
    refine lv_lsub hx hb d_DateDresser_takeTime_56 ?_
    refine lv_lstore (lv' := [(6, .long (x6 - x4)), (0, .ref h0), (1, .int x1), (2, .long x2), (4, .long x4)]) hx hb d_DateDresser_takeTime_57 hl (by decide) rfl (fun ls hl => ?_)
    exact b_DateDresser_takeTime_59 hc hA hE  (lv_sub hl [1, 2, 3, 0] rfl) hK hP hD hS hv
set_option maxHeartbeats 4000000 in
set_option maxRecDepth 100000 in
theorem b_DateDresser_takeTime_18 {h0 : Nat} {h1 : Nat} {h2 : Nat} {I0 : Nat → Int32} {J0 : Nat → Int64} {J1 : Nat → Int64} {I2 : Nat → Int32} {J2 : Nat → Int64} {x1 : Int32} {x2 : Int64} {x4 : Int64} {s0 : Int64}  {Z : (Nat → Int64) → Prop} {H : Heap} {locs : List Loc} {ls : Array Slot} (hc : zC p s m args meth c prog_3_method_3_code none 8 "NumberDress$DateDresser") (hA : ∀ q : Nat, s.heap.size ≤ q → A q) (hE : zE gE A s) (hl : lv_has ls 8 [(0, .ref h0), (1, .int x1), (2, .long x2), (4, .long x4)]) (hK : va_K (dC, dI) zCl [] s) (hP : va_P (dC, dI) zCl [(h0, .inr (2, o_DateDresser I0 J0 h1)), (h1, .inr (10, o_Split J1 h2)), (h2, .inr (3, o_Digits I2 J2))] H) (hD : va_D A [(h0, .inr (2, o_DateDresser I0 J0 h1)), (h1, .inr (10, o_Split J1 h2)), (h2, .inr (3, o_Digits I2 J2))]) (hS : va_S A s.heap H locs) (hv : v_DateDresser_takeTime_18 I0 J0 J1 I2 J2 x1 x2 x4 s0  Z) : W p l e (headSpec (Cond.code (⟨"NumberDress$DateDresser", "takeTime", "(I)V"⟩ : MethodName) prog_3_method_3_code 8 none :: zT) { frames := 2, cells := 0, slots := 0, locals := 40 }).room s m args below meth c H locs 0 0 (MQ below (va_Qv Z (zB (dC, dI) zCl [] A (fun u : (Nat → Int64) => [(h0, .inr (2, o_DateDresser I0 u h1)), (h1, .inr (10, o_Split J1 h2)), (h2, .inr (3, o_Digits I2 J2))])) A) args s 0 0 A) (F0 m 18 ls [.long s0]) := by
  obtain ⟨hx, hb, hr, hml, hown, ht, hlocks⟩ := id hc
  unfold v_DateDresser_takeTime_18 at hv
  refine lv_lstore (lv' := [(6, .long s0), (0, .ref h0), (1, .int x1), (2, .long x2), (4, .long x4)]) hx hb d_DateDresser_takeTime_18 hl (by decide) rfl (fun ls hl => ?_)
  refine lv_aload_n hx hb d_DateDresser_takeTime_20 rfl (lv_at hl 1 rfl) ?_
  refine lv_aload_n hx hb d_DateDresser_takeTime_21 rfl (lv_at hl 1 rfl) ?_
  refine va_get (D := (dC, dI)) (ci := 2) (v := .ref h1) (C := "NumberDress$DateDresser") (T := T_DateDresser) (N := 7) hx hb ht zin_DateDresser hown hK hP 0 rfl rfl 0 (by decide) (ht _ zw_417) (fun _ h9 => h9) rfl d_DateDresser_takeTime_22 ?_
  refine va_get (D := (dC, dI)) (ci := 10) (v := .ref h2) (C := "NumberDress$Split") (T := T_Split) (N := 2) hx hb ht zin_Split hown hK hP 1 rfl rfl 0 (by decide) (ht _ zw_381) (fun _ h9 => h9) rfl d_DateDresser_takeTime_25 ?_
  refine z_calll (wc := [(h2, .inr (3, o_Digits I2 J2))]) (wr := [(h0, .inr (2, o_DateDresser I0 J0 h1)), (h1, .inr (10, o_Split J1 h2))]) [2] [0, 1] (va_runV (As := []) (rest := [.ref h0]) ⟨hx, hb, hml, hown, ht⟩ (m_Digits_small l dC dI hv) ⟨(callB_of 0 ht (zG_in zi_Digits_small) rfl rfl rfl (ht _ zw_117) (ht _ zw_1061) zh_Digits_small ⟨Nat.le_of_ble_eq_true rfl, Nat.le_of_ble_eq_true rfl⟩), (ht _ zw_1016), (ht _ zw_1017)⟩ ⟨zPc_blind, va_recv hK hP (ci := 3) (q0 := 2) rfl rfl, zPc_pre hP hK hD hS hA hE [2] [] rfl rfl (by decide) rfl⟩ rfl rfl hl.1 rfl (lv_room (Nat.le_of_ble_eq_true rfl)) d_DateDresser_takeTime_28 ⟨Nat.le_of_ble_eq_true rfl, Nat.le_of_ble_eq_true rfl⟩) hP hD hS hA rfl rfl (by decide) (by decide) (fun r u H locs hv hP hD hS => ?_)
  have hP : va_P (dC, dI) zCl [(h0, .inr (2, o_DateDresser I0 J0 h1)), (h1, .inr (10, o_Split J1 h2)), (h2, .inr (3, o_Digits I2 J2))] H := hP.sub [0, 1, 2] rfl
  have hD : va_D A [(h0, .inr (2, o_DateDresser I0 J0 h1)), (h1, .inr (10, o_Split J1 h2)), (h2, .inr (3, o_Digits I2 J2))] := hD.sub [0, 1, 2] (by decide) rfl
  exact b_DateDresser_takeTime_31 hc hA hE  (lv_sub hl [1, 2, 3, 4, 0] rfl) hK hP hD hS hv
set_option maxHeartbeats 4000000 in
set_option maxRecDepth 100000 in
theorem b_DateDresser_takeTime_4 {h0 : Nat} {h1 : Nat} {h2 : Nat} {I0 : Nat → Int32} {J0 : Nat → Int64} {J1 : Nat → Int64} {I2 : Nat → Int32} {J2 : Nat → Int64} {x1 : Int32} {s0 : Int64}  {Z : (Nat → Int64) → Prop} {H : Heap} {locs : List Loc} {ls : Array Slot} (hc : zC p s m args meth c prog_3_method_3_code none 8 "NumberDress$DateDresser") (hA : ∀ q : Nat, s.heap.size ≤ q → A q) (hE : zE gE A s) (hl : lv_has ls 8 [(0, .ref h0), (1, .int x1)]) (hK : va_K (dC, dI) zCl [] s) (hP : va_P (dC, dI) zCl [(h0, .inr (2, o_DateDresser I0 J0 h1)), (h1, .inr (10, o_Split J1 h2)), (h2, .inr (3, o_Digits I2 J2))] H) (hD : va_D A [(h0, .inr (2, o_DateDresser I0 J0 h1)), (h1, .inr (10, o_Split J1 h2)), (h2, .inr (3, o_Digits I2 J2))]) (hS : va_S A s.heap H locs) (hv : v_DateDresser_takeTime_4 I0 J0 J1 I2 J2 x1 s0  Z) : W p l e (headSpec (Cond.code (⟨"NumberDress$DateDresser", "takeTime", "(I)V"⟩ : MethodName) prog_3_method_3_code 8 none :: zT) { frames := 2, cells := 0, slots := 0, locals := 40 }).room s m args below meth c H locs 0 0 (MQ below (va_Qv Z (zB (dC, dI) zCl [] A (fun u : (Nat → Int64) => [(h0, .inr (2, o_DateDresser I0 u h1)), (h1, .inr (10, o_Split J1 h2)), (h2, .inr (3, o_Digits I2 J2))])) A) args s 0 0 A) (F0 m 4 ls [.long s0]) := by
  obtain ⟨hx, hb, hr, hml, hown, ht, hlocks⟩ := id hc
  unfold v_DateDresser_takeTime_4 at hv
  refine lv_lstore_n (lv' := [(2, .long s0), (0, .ref h0), (1, .int x1)]) hx hb d_DateDresser_takeTime_4 rfl hl (by decide) rfl (fun ls hl => ?_)
  refine lv_ldc2 (v := (86400 : Int64)) hx hb hown (ht _ zw_1053) d_DateDresser_takeTime_5 ?_
  refine lv_lload_n hx hb d_DateDresser_takeTime_8 rfl (lv_at hl 0 rfl) ?_
  refine lv_lmul hx hb d_DateDresser_takeTime_9 ?_
  refine lv_lstore (lv' := [(4, .long ((86400 : Int64) * s0)), (2, .long s0), (0, .ref h0), (1, .int x1)]) hx hb d_DateDresser_takeTime_10 hl (by decide) rfl (fun ls hl => ?_)
  refine lv_aload_n hx hb d_DateDresser_takeTime_12 rfl (lv_at hl 2 rfl) ?_
  refine lv_lload hx hb d_DateDresser_takeTime_13 (lv_at hl 0 rfl) ?_
  refine z_calll (wc := [(h0, .inr (2, o_DateDresser I0 J0 h1)), (h1, .inr (10, o_Split J1 h2))]) (wr := [(h2, .inr (3, o_Digits I2 J2))]) [0, 1] [2] (va_runV (As := [.long ((86400 : Int64) * s0)]) (rest := []) ⟨hx, hb, hml, hown, ht⟩ (m_DateDresser_partsOfDay l dC dI hv) ⟨(callB_of 1 ht (zG_in zi_DateDresser_partsOfDay) rfl rfl rfl (ht _ zw_120) (ht _ zw_1054) zh_DateDresser_partsOfDay ⟨Nat.le_of_ble_eq_true rfl, Nat.le_of_ble_eq_true rfl⟩), (ht _ zw_1056), (ht _ zw_52)⟩ ⟨zPc_blind, va_recv hK hP (ci := 2) (q0 := 0) rfl rfl, zPc_pre hP hK hD hS hA hE [0, 1] [] rfl rfl (by decide) rfl⟩ rfl rfl hl.1 rfl (lv_room (Nat.le_of_ble_eq_true rfl)) d_DateDresser_takeTime_15 ⟨Nat.le_of_ble_eq_true rfl, Nat.le_of_ble_eq_true rfl⟩) hP hD hS hA rfl rfl (by decide) (by decide) (fun r u H locs hv hP hD hS => ?_)
  have hP : va_P (dC, dI) zCl [(h0, .inr (2, o_DateDresser I0 J0 h1)), (h1, .inr (10, o_Split J1 h2)), (h2, .inr (3, o_Digits I2 J2))] H := hP.sub [1, 2, 0] rfl
  have hD : va_D A [(h0, .inr (2, o_DateDresser I0 J0 h1)), (h1, .inr (10, o_Split J1 h2)), (h2, .inr (3, o_Digits I2 J2))] := hD.sub [1, 2, 0] (by decide) rfl
  exact b_DateDresser_takeTime_18 hc hA hE  (lv_sub hl [2, 3, 1, 0] rfl) hK hP hD hS hv
set_option maxHeartbeats 4000000 in
set_option maxRecDepth 100000 in
theorem b_DateDresser_takeTime_0 {h0 : Nat} {h1 : Nat} {h2 : Nat} {I0 : Nat → Int32} {J0 : Nat → Int64} {J1 : Nat → Int64} {I2 : Nat → Int32} {J2 : Nat → Int64} {x1 : Int32}  {Z : (Nat → Int64) → Prop} {H : Heap} {locs : List Loc} {ls : Array Slot} (hc : zC p s m args meth c prog_3_method_3_code none 8 "NumberDress$DateDresser") (hA : ∀ q : Nat, s.heap.size ≤ q → A q) (hE : zE gE A s) (hl : lv_has ls 8 [(0, .ref h0), (1, .int x1)]) (hK : va_K (dC, dI) zCl [] s) (hP : va_P (dC, dI) zCl [(h0, .inr (2, o_DateDresser I0 J0 h1)), (h1, .inr (10, o_Split J1 h2)), (h2, .inr (3, o_Digits I2 J2))] H) (hD : va_D A [(h0, .inr (2, o_DateDresser I0 J0 h1)), (h1, .inr (10, o_Split J1 h2)), (h2, .inr (3, o_Digits I2 J2))]) (hS : va_S A s.heap H locs) (hv : v_DateDresser_takeTime_0 I0 J0 J1 I2 J2 x1  Z) : W p l e (headSpec (Cond.code (⟨"NumberDress$DateDresser", "takeTime", "(I)V"⟩ : MethodName) prog_3_method_3_code 8 none :: zT) { frames := 2, cells := 0, slots := 0, locals := 40 }).room s m args below meth c H locs 0 0 (MQ below (va_Qv Z (zB (dC, dI) zCl [] A (fun u : (Nat → Int64) => [(h0, .inr (2, o_DateDresser I0 u h1)), (h1, .inr (10, o_Split J1 h2)), (h2, .inr (3, o_Digits I2 J2))])) A) args s 0 0 A) (F0 m 0 ls []) := by
  obtain ⟨hx, hb, hr, hml, hown, ht, hlocks⟩ := id hc
  unfold v_DateDresser_takeTime_0 at hv
  refine lv_iload_n hx hb d_DateDresser_takeTime_0 rfl (lv_at hl 1 rfl) ?_
  refine z_calll (wc := []) (wr := [(h0, .inr (2, o_DateDresser I0 J0 h1)), (h1, .inr (10, o_Split J1 h2)), (h2, .inr (3, o_Digits I2 J2))]) [] [0, 1, 2] (va_runSN (As := [.int x1]) (rest := []) ⟨hx, hb, hml, hown, ht⟩ (m_ND_tenTo l dC dI hv) ⟨(va_cnB 1 ht (zG_in zi_ND_tenTo) rfl rfl rfl (hE.nest zn_1052) (ht _ zw_110) zh_ND_tenTo ⟨Nat.le_of_ble_eq_true rfl, Nat.le_of_ble_eq_true rfl⟩), (ht _ zw_883), trivial⟩ ⟨zPc_blind, zPc_pre hP hK hD hS hA hE [] [] rfl rfl (by decide) rfl⟩ rfl rfl hl.1 rfl (lv_room (Nat.le_of_ble_eq_true rfl)) d_DateDresser_takeTime_1 ⟨Nat.le_of_ble_eq_true rfl, Nat.le_of_ble_eq_true rfl⟩) hP hD hS hA rfl rfl (by decide) (by decide) (fun r u H locs hv hP hD hS => ?_)
  have hP : va_P (dC, dI) zCl [(h0, .inr (2, o_DateDresser I0 J0 h1)), (h1, .inr (10, o_Split J1 h2)), (h2, .inr (3, o_Digits I2 J2))] H := hP.sub [0, 1, 2] rfl
  have hD : va_D A [(h0, .inr (2, o_DateDresser I0 J0 h1)), (h1, .inr (10, o_Split J1 h2)), (h2, .inr (3, o_Digits I2 J2))] := hD.sub [0, 1, 2] (by decide) rfl
  exact b_DateDresser_takeTime_4 hc hA hE  (lv_sub hl [0, 1] rfl) hK hP hD hS hv
theorem zi_DateDresser_takeTime : Cond.code (⟨"NumberDress$DateDresser", "takeTime", "(I)V"⟩ : MethodName) prog_3_method_3_code 8 none ∈ zT := zw_1051
theorem zh_DateDresser_takeTime : (((⟨"NumberDress$DateDresser", "takeTime", "(I)V"⟩ : MethodName)).cls ≠ "java/lang/invoke/MethodHandle" ∧ ((⟨"NumberDress$DateDresser", "takeTime", "(I)V"⟩ : MethodName)).cls ≠ "java/lang/invoke/VarHandle" ∧ (parseMethodDescriptor ((⟨"NumberDress$DateDresser", "takeTime", "(I)V"⟩ : MethodName)).desc).map (fun d => d.parameters.length) = some 1) := by decide +kernel
set_option maxHeartbeats 4000000 in
set_option maxRecDepth 100000 in
theorem m_DateDresser_takeTime (l : Launch) (dC : Nat → ClassId) (dI : Nat → Nat → Nat) {gE : zG} {h0 : Nat} {h1 : Nat} {h2 : Nat} {I0 : Nat → Int32} {J0 : Nat → Int64} {J1 : Nat → Int64} {I2 : Nat → Int32} {J2 : Nat → Int64} {x1 : Int32} {sz : Nat} {Z : (Nat → Int64) → Prop} (hv : v_DateDresser_takeTime_0 I0 J0 J1 I2 J2 x1 Z) : Met l (⟨"NumberDress$DateDresser", "takeTime", "(I)V"⟩ : MethodName) (Cond.code (⟨"NumberDress$DateDresser", "takeTime", "(I)V"⟩ : MethodName) prog_3_method_3_code 8 none :: zT) { frames := 2, cells := 0, slots := 0, locals := 40 } (zPc gE (dC, dI) zCl [] [.ref h0, .int x1] sz [(h0, .inr (2, o_DateDresser I0 J0 h1)), (h1, .inr (10, o_Split J1 h2)), (h2, .inr (3, o_Digits I2 J2))]) (va_Qv Z (zB (dC, dI) zCl [] (va_A [(h0, .inr (2, o_DateDresser I0 J0 h1)), (h1, .inr (10, o_Split J1 h2)), (h2, .inr (3, o_Digits I2 J2))] sz) (fun u : (Nat → Int64) => [(h0, .inr (2, o_DateDresser I0 u h1)), (h1, .inr (10, o_Split J1 h2)), (h2, .inr (3, o_Digits I2 J2))])) (va_A [(h0, .inr (2, o_DateDresser I0 J0 h1)), (h1, .inr (10, o_Split J1 h2)), (h2, .inr (3, o_Digits I2 J2))] sz)) 0 0 (va_A [(h0, .inr (2, o_DateDresser I0 J0 h1)), (h1, .inr (10, o_Split J1 h2)), (h2, .inr (3, o_Digits I2 J2))] sz) := by
  refine Met.ofW (cc := prog_3_method_3_code) (maxL := 8) (ret := none) (by decide +kernel) rfl ?_
  intro p e s m args below meth c s₁ B hml hp
  obtain ⟨rfl, hsz, hP, hK, hD0, hE⟩ := hp
  have hts := atoms_spec (ws := (Cond.code (⟨"NumberDress$DateDresser", "takeTime", "(I)V"⟩ : MethodName) prog_3_method_3_code 8 none :: zT)) B.pre
  have hown : s.vm.findClass "NumberDress$DateDresser" = some m.cls := findClass_of_methodNamed B.named
  have hc : zC p s m _ meth c prog_3_method_3_code none 8 "NumberDress$DateDresser" := ⟨B.exec, B.bytes, B.returns, hml, hown, fun w h => hts w (List.mem_cons_of_mem _ h), B.notSynchronized⟩
  subst hsz
  have hD := hD0.self (sz := s.heap.size)
  generalize hAe : va_A [(h0, .inr (2, o_DateDresser I0 J0 h1)), (h1, .inr (10, o_Split J1 h2)), (h2, .inr (3, o_Digits I2 J2))] s.heap.size = A at hD hE ⊢
  have hA : ∀ q : Nat, s.heap.size ≤ q → A q := fun q h => by rw [← hAe]; exact Or.inr h
  have hl := lv_entry ([.ref h0, .int x1]) (n := 8) (Nat.le_of_ble_eq_true rfl)
  rw [lg_entry_eq]
  exact b_DateDresser_takeTime_0 hc hA hE hl hK hP hD va_S.rf hv
theorem d_Digits_wholes_0 : decode prog_4_method_5_code 0 = .ok (.iconst 0, 1) := by decide +kernel
theorem d_Digits_wholes_1 : decode prog_4_method_5_code 1 = .ok (.aload_n 0, 1) := by decide +kernel
theorem d_Digits_wholes_2 : decode prog_4_method_5_code 2 = .ok (.getfield 23, 3) := by decide +kernel
theorem d_Digits_wholes_5 : decode prog_4_method_5_code 5 = .ok (.aload_n 0, 1) := by decide +kernel
theorem d_Digits_wholes_6 : decode prog_4_method_5_code 6 = .ok (.getfield 26, 3) := by decide +kernel
theorem d_Digits_wholes_9 : decode prog_4_method_5_code 9 = .ok (.isub, 1) := by decide +kernel
theorem d_Digits_wholes_10 : decode prog_4_method_5_code 10 = .ok (.invokestatic 37, 3) := by decide +kernel
theorem d_Digits_wholes_13 : decode prog_4_method_5_code 13 = .ok (.ireturn, 1) := by decide +kernel
set_option maxHeartbeats 4000000 in
set_option maxRecDepth 100000 in
theorem b_Digits_wholes_0 {h0 : Nat} {I0 : Nat → Int32} {J0 : Nat → Int64}  {Z : Int32 → Unit → Prop} {H : Heap} {locs : List Loc} {ls : Array Slot} (hc : zC p s m args meth c prog_4_method_5_code (some .int) 1 "NumberDress$Digits") (hA : ∀ q : Nat, s.heap.size ≤ q → A q) (hE : zE gE A s) (hl : lv_has ls 1 [(0, .ref h0)]) (hK : va_K (dC, dI) zCl [] s) (hP : va_P (dC, dI) zCl [(h0, .inr (3, o_Digits I0 J0))] H) (hD : va_D A [(h0, .inr (3, o_Digits I0 J0))]) (hS : va_S A s.heap H locs) (hv : v_Digits_wholes_0 I0 J0  Z) : W p l e (headSpec (Cond.code (⟨"NumberDress$Digits", "wholes", "()I"⟩ : MethodName) prog_4_method_5_code 1 (some .int) :: zT) { frames := 1, cells := 0, slots := 0, locals := 21 }).room s m args below meth c H locs 0 0 (MQ below (va_Qi Z (zB (dC, dI) zCl [] A (fun u : Unit => [(h0, .inr (3, o_Digits I0 J0))])) A) args s 0 0 A) (F0 m 0 ls []) := by
  obtain ⟨hx, hb, hr, hml, hown, ht, hlocks⟩ := id hc
  unfold v_Digits_wholes_0 at hv
  refine lv_iconst (v := (0 : Int32)) hx hb d_Digits_wholes_0 (by decide) ?_
  refine lv_aload_n hx hb d_Digits_wholes_1 rfl (lv_at hl 0 rfl) ?_
  refine va_get (D := (dC, dI)) (ci := 3) (v := .int (I0 2)) (C := "NumberDress$Digits") (T := T_Digits) (N := 4) hx hb ht zin_Digits hown hK hP 0 rfl rfl 2 (by decide) (ht _ zw_345) (fun _ h9 => h9) rfl d_Digits_wholes_2 ?_
  refine lv_aload_n hx hb d_Digits_wholes_5 rfl (lv_at hl 0 rfl) ?_
  refine va_get (D := (dC, dI)) (ci := 3) (v := .int (I0 3)) (C := "NumberDress$Digits") (T := T_Digits) (N := 4) hx hb ht zin_Digits hown hK hP 0 rfl rfl 3 (by decide) (ht _ zw_346) (fun _ h9 => h9) rfl d_Digits_wholes_6 ?_
  refine lv_isub hx hb d_Digits_wholes_9 ?_
  refine z_mmax hx hb (hml.trans hl.1.symm) hown (ht _ zw_946) (ht _ zw_615) (ht _ zw_128) (ht _ zw_616) (Nat.le_of_ble_eq_true rfl) (Nat.le_of_ble_eq_true rfl) (Nat.zero_le _) (Nat.zero_le _) d_Digits_wholes_10 ?_
  exact W.iret (v := (zmax (0 : Int32) ((I0 2) - (I0 3)))) hx hb hr (fun t ht hW => ⟨⟨_, (), rfl, hv, ⟨by rw [ht]; exact hP, va_K.moved hW.alike hK, hD⟩⟩, hS.F ht⟩) hS.2.2 d_Digits_wholes_13
theorem zi_Digits_wholes : Cond.code (⟨"NumberDress$Digits", "wholes", "()I"⟩ : MethodName) prog_4_method_5_code 1 (some .int) ∈ zT := zw_945
theorem zh_Digits_wholes : (((⟨"NumberDress$Digits", "wholes", "()I"⟩ : MethodName)).cls ≠ "java/lang/invoke/MethodHandle" ∧ ((⟨"NumberDress$Digits", "wholes", "()I"⟩ : MethodName)).cls ≠ "java/lang/invoke/VarHandle" ∧ (parseMethodDescriptor ((⟨"NumberDress$Digits", "wholes", "()I"⟩ : MethodName)).desc).map (fun d => d.parameters.length) = some 0) := by decide +kernel
set_option maxHeartbeats 4000000 in
set_option maxRecDepth 100000 in
theorem m_Digits_wholes (l : Launch) (dC : Nat → ClassId) (dI : Nat → Nat → Nat) {gE : zG} {h0 : Nat} {I0 : Nat → Int32} {J0 : Nat → Int64} {sz : Nat} {Z : Int32 → Unit → Prop} (hv : v_Digits_wholes_0 I0 J0 Z) : Met l (⟨"NumberDress$Digits", "wholes", "()I"⟩ : MethodName) (Cond.code (⟨"NumberDress$Digits", "wholes", "()I"⟩ : MethodName) prog_4_method_5_code 1 (some .int) :: zT) { frames := 1, cells := 0, slots := 0, locals := 21 } (zPc gE (dC, dI) zCl [] [.ref h0] sz [(h0, .inr (3, o_Digits I0 J0))]) (va_Qi Z (zB (dC, dI) zCl [] (va_A [(h0, .inr (3, o_Digits I0 J0))] sz) (fun u : Unit => [(h0, .inr (3, o_Digits I0 J0))])) (va_A [(h0, .inr (3, o_Digits I0 J0))] sz)) 0 0 (va_A [(h0, .inr (3, o_Digits I0 J0))] sz) := by
  refine Met.ofW (cc := prog_4_method_5_code) (maxL := 1) (ret := (some .int)) (by decide +kernel) rfl ?_
  intro p e s m args below meth c s₁ B hml hp
  obtain ⟨rfl, hsz, hP, hK, hD0, hE⟩ := hp
  have hts := atoms_spec (ws := (Cond.code (⟨"NumberDress$Digits", "wholes", "()I"⟩ : MethodName) prog_4_method_5_code 1 (some .int) :: zT)) B.pre
  have hown : s.vm.findClass "NumberDress$Digits" = some m.cls := findClass_of_methodNamed B.named
  have hc : zC p s m _ meth c prog_4_method_5_code (some .int) 1 "NumberDress$Digits" := ⟨B.exec, B.bytes, B.returns, hml, hown, fun w h => hts w (List.mem_cons_of_mem _ h), B.notSynchronized⟩
  subst hsz
  have hD := hD0.self (sz := s.heap.size)
  generalize hAe : va_A [(h0, .inr (3, o_Digits I0 J0))] s.heap.size = A at hD hE ⊢
  have hA : ∀ q : Nat, s.heap.size ≤ q → A q := fun q h => by rw [← hAe]; exact Or.inr h
  have hl := lv_entry ([.ref h0]) (n := 1) (Nat.le_of_ble_eq_true rfl)
  rw [lg_entry_eq]
  exact b_Digits_wholes_0 hc hA hE hl hK hP hD va_S.rf hv
theorem d_ND_cutRounded_0 : decode prog_1_method_12_code 0 = .ok (.iload_n 2, 1) := by decide +kernel
theorem d_ND_cutRounded_1 : decode prog_1_method_12_code 1 = .ok (.ifCond .gt 5, 3) := by decide +kernel
theorem d_ND_cutRounded_4 : decode prog_1_method_12_code 4 = .ok (.lload_n 0, 1) := by decide +kernel
theorem d_ND_cutRounded_5 : decode prog_1_method_12_code 5 = .ok (.lreturn, 1) := by decide +kernel
theorem d_ND_cutRounded_6 : decode prog_1_method_12_code 6 = .ok (.iload_n 2, 1) := by decide +kernel
theorem d_ND_cutRounded_7 : decode prog_1_method_12_code 7 = .ok (.bipush 17, 2) := by decide +kernel
theorem d_ND_cutRounded_9 : decode prog_1_method_12_code 9 = .ok (.if_icmp .le 5, 3) := by decide +kernel
theorem d_ND_cutRounded_12 : decode prog_1_method_12_code 12 = .ok (.lconst 0, 1) := by decide +kernel
theorem d_ND_cutRounded_13 : decode prog_1_method_12_code 13 = .ok (.lreturn, 1) := by decide +kernel
theorem d_ND_cutRounded_14 : decode prog_1_method_12_code 14 = .ok (.iload_n 2, 1) := by decide +kernel
theorem d_ND_cutRounded_15 : decode prog_1_method_12_code 15 = .ok (.invokestatic 123, 3) := by decide +kernel
theorem d_ND_cutRounded_18 : decode prog_1_method_12_code 18 = .ok (.lstore_n 3, 1) := by decide +kernel
theorem d_ND_cutRounded_19 : decode prog_1_method_12_code 19 = .ok (.lload_n 0, 1) := by decide +kernel
theorem d_ND_cutRounded_20 : decode prog_1_method_12_code 20 = .ok (.lload_n 3, 1) := by decide +kernel
theorem d_ND_cutRounded_21 : decode prog_1_method_12_code 21 = .ok (.ldiv, 1) := by decide +kernel
theorem d_ND_cutRounded_22 : decode prog_1_method_12_code 22 = .ok (.lstore 5, 2) := by decide +kernel
theorem d_ND_cutRounded_24 : decode prog_1_method_12_code 24 = .ok (.lload_n 0, 1) := by decide +kernel
theorem d_ND_cutRounded_25 : decode prog_1_method_12_code 25 = .ok (.lload 5, 2) := by decide +kernel
theorem d_ND_cutRounded_27 : decode prog_1_method_12_code 27 = .ok (.lload_n 3, 1) := by decide +kernel
theorem d_ND_cutRounded_28 : decode prog_1_method_12_code 28 = .ok (.lmul, 1) := by decide +kernel
theorem d_ND_cutRounded_29 : decode prog_1_method_12_code 29 = .ok (.lsub, 1) := by decide +kernel
theorem d_ND_cutRounded_30 : decode prog_1_method_12_code 30 = .ok (.lstore 7, 2) := by decide +kernel
theorem d_ND_cutRounded_32 : decode prog_1_method_12_code 32 = .ok (.lload 7, 2) := by decide +kernel
theorem d_ND_cutRounded_34 : decode prog_1_method_12_code 34 = .ok (.lload_n 3, 1) := by decide +kernel
theorem d_ND_cutRounded_35 : decode prog_1_method_12_code 35 = .ok (.lload 7, 2) := by decide +kernel
theorem d_ND_cutRounded_37 : decode prog_1_method_12_code 37 = .ok (.lsub, 1) := by decide +kernel
theorem d_ND_cutRounded_38 : decode prog_1_method_12_code 38 = .ok (.lcmp, 1) := by decide +kernel
theorem d_ND_cutRounded_39 : decode prog_1_method_12_code 39 = .ok (.ifCond .lt 10, 3) := by decide +kernel
theorem d_ND_cutRounded_42 : decode prog_1_method_12_code 42 = .ok (.lload 5, 2) := by decide +kernel
theorem d_ND_cutRounded_44 : decode prog_1_method_12_code 44 = .ok (.lconst 1, 1) := by decide +kernel
theorem d_ND_cutRounded_45 : decode prog_1_method_12_code 45 = .ok (.ladd, 1) := by decide +kernel
theorem d_ND_cutRounded_46 : decode prog_1_method_12_code 46 = .ok (.goto 5, 3) := by decide +kernel
theorem d_ND_cutRounded_49 : decode prog_1_method_12_code 49 = .ok (.lload 5, 2) := by decide +kernel
theorem d_ND_cutRounded_51 : decode prog_1_method_12_code 51 = .ok (.lreturn, 1) := by decide +kernel
set_option maxHeartbeats 4000000 in
set_option maxRecDepth 100000 in
theorem b_ND_cutRounded_18  {x0 : Int64} {s0 : Int64}  {Z : Int64 → Unit → Prop} {H : Heap} {locs : List Loc} {ls : Array Slot} (hc : zC p s m args meth c prog_1_method_12_code (some .long) 9 "NumberDress") (hA : ∀ q : Nat, s.heap.size ≤ q → A q) (hE : zE gE A s) (hl : lv_has ls 9 [(0, .long x0)]) (hK : va_K (dC, dI) zCl [] s) (hP : va_P (dC, dI) zCl [] H) (hD : va_D A []) (hS : va_S A s.heap H locs) (hv : v_ND_cutRounded_18 x0 s0  Z) : W p l e (headSpec (Cond.code (⟨"NumberDress", "cutRounded", "(JI)J"⟩ : MethodName) prog_1_method_12_code 9 (some .long) :: zT) { frames := 1, cells := 0, slots := 0, locals := 20 }).room s m args below meth c H locs 0 0 (MQ below (va_Ql Z (zB (dC, dI) zCl [] A (fun u : Unit => [])) A) args s 0 0 A) (F0 m 18 ls [.long s0]) := by
  obtain ⟨hx, hb, hr, hml, hown, ht, hlocks⟩ := id hc
  unfold v_ND_cutRounded_18 at hv
  refine lv_lstore_n (lv' := [(3, .long s0), (0, .long x0)]) hx hb d_ND_cutRounded_18 rfl hl (by decide) rfl (fun ls hl => ?_)
  refine lv_lload_n hx hb d_ND_cutRounded_19 rfl (lv_at hl 1 rfl) ?_
  refine lv_lload_n hx hb d_ND_cutRounded_20 rfl (lv_at hl 0 rfl) ?_
  obtain ⟨q_1, hv⟩ := hv
  refine lv_ldiv hx hb d_ND_cutRounded_21 q_1 ?_
  refine lv_lstore (lv' := [(5, .long (x0 / s0)), (3, .long s0), (0, .long x0)]) hx hb d_ND_cutRounded_22 hl (by decide) rfl (fun ls hl => ?_)
  refine lv_lload_n hx hb d_ND_cutRounded_24 rfl (lv_at hl 2 rfl) ?_
  refine lv_lload hx hb d_ND_cutRounded_25 (lv_at hl 0 rfl) ?_
  refine lv_lload_n hx hb d_ND_cutRounded_27 rfl (lv_at hl 1 rfl) ?_
  refine lv_lmul hx hb d_ND_cutRounded_28 ?_
  refine lv_lsub hx hb d_ND_cutRounded_29 ?_
  refine lv_lstore (lv' := [(7, .long (x0 - ((x0 / s0) * s0))), (5, .long (x0 / s0)), (3, .long s0), (0, .long x0)]) hx hb d_ND_cutRounded_30 hl (by decide) rfl (fun ls hl => ?_)
  refine lv_lload hx hb d_ND_cutRounded_32 (lv_at hl 0 rfl) ?_
  refine lv_lload_n hx hb d_ND_cutRounded_34 rfl (lv_at hl 2 rfl) ?_
  refine lv_lload hx hb d_ND_cutRounded_35 (lv_at hl 0 rfl) ?_
  refine lv_lsub hx hb d_ND_cutRounded_37 ?_
  refine z_lcmp_lt (tgt := 49) hx hb d_ND_cutRounded_38 d_ND_cutRounded_39 (by decide) (fun c_2 => ?_) (fun c_2 => ?_)
  · have hv := hv.1 c_2
    refine lv_lload hx hb d_ND_cutRounded_49 (lv_at hl 1 rfl) ?_
    exact W.lret (v := (x0 / s0)) hx hb hr (fun t ht hW => ⟨⟨_, (), rfl, hv, ⟨by rw [ht]; exact hP, va_K.moved hW.alike hK, hD⟩⟩, hS.F ht⟩) hS.2.2 d_ND_cutRounded_51
  · have hv := hv.2 c_2
    refine lv_lload hx hb d_ND_cutRounded_42 (lv_at hl 1 rfl) ?_
    refine lv_lconst (v := (1 : Int64)) hx hb d_ND_cutRounded_44 (by decide) ?_
    refine lv_ladd hx hb d_ND_cutRounded_45 ?_
    refine lv_goto (tgt := 51) hx hb d_ND_cutRounded_46 (by decide) ?_
    exact W.lret (v := ((x0 / s0) + (1 : Int64))) hx hb hr (fun t ht hW => ⟨⟨_, (), rfl, hv, ⟨by rw [ht]; exact hP, va_K.moved hW.alike hK, hD⟩⟩, hS.F ht⟩) hS.2.2 d_ND_cutRounded_51
set_option maxHeartbeats 4000000 in
set_option maxRecDepth 100000 in
theorem b_ND_cutRounded_0  {x0 : Int64} {x2 : Int32}  {Z : Int64 → Unit → Prop} {H : Heap} {locs : List Loc} {ls : Array Slot} (hc : zC p s m args meth c prog_1_method_12_code (some .long) 9 "NumberDress") (hA : ∀ q : Nat, s.heap.size ≤ q → A q) (hE : zE gE A s) (hl : lv_has ls 9 [(0, .long x0), (2, .int x2)]) (hK : va_K (dC, dI) zCl [] s) (hP : va_P (dC, dI) zCl [] H) (hD : va_D A []) (hS : va_S A s.heap H locs) (hv : v_ND_cutRounded_0 x0 x2  Z) : W p l e (headSpec (Cond.code (⟨"NumberDress", "cutRounded", "(JI)J"⟩ : MethodName) prog_1_method_12_code 9 (some .long) :: zT) { frames := 1, cells := 0, slots := 0, locals := 20 }).room s m args below meth c H locs 0 0 (MQ below (va_Ql Z (zB (dC, dI) zCl [] A (fun u : Unit => [])) A) args s 0 0 A) (F0 m 0 ls []) := by
  obtain ⟨hx, hb, hr, hml, hown, ht, hlocks⟩ := id hc
  unfold v_ND_cutRounded_0 at hv
  refine lv_iload_n hx hb d_ND_cutRounded_0 rfl (lv_at hl 1 rfl) ?_
  refine lv_if_gt (tgt := 6) hx hb d_ND_cutRounded_1 (by decide) (fun c_1 => ?_) (fun c_1 => ?_)
  · have hv := hv.1 c_1
    refine lv_iload_n hx hb d_ND_cutRounded_6 rfl (lv_at hl 1 rfl) ?_
    refine lv_bipush (v := (17 : Int32)) hx hb d_ND_cutRounded_7 (by decide) ?_
    refine lv_icmp_le (tgt := 14) hx hb d_ND_cutRounded_9 (by decide) (fun c_2 => ?_) (fun c_2 => ?_)
    · have hv := hv.1 c_2
      refine lv_iload_n hx hb d_ND_cutRounded_14 rfl (lv_at hl 1 rfl) ?_
      refine z_calll (wc := []) (wr := []) [] [] (va_runS (As := [.int x2]) (rest := []) ⟨hx, hb, hml, hown, ht⟩ (m_ND_tenTo l dC dI hv) ⟨(callB_of 1 ht (zG_in zi_ND_tenTo) rfl rfl rfl (ht _ zw_110) (ht _ zw_882) zh_ND_tenTo ⟨Nat.le_of_ble_eq_true rfl, Nat.le_of_ble_eq_true rfl⟩), (ht _ zw_883)⟩ ⟨zPc_blind, zPc_pre hP hK hD hS hA hE [] [] rfl rfl (by decide) rfl⟩ rfl rfl hl.1 rfl (lv_room (Nat.le_of_ble_eq_true rfl)) d_ND_cutRounded_15 ⟨Nat.le_of_ble_eq_true rfl, Nat.le_of_ble_eq_true rfl⟩) hP hD hS hA rfl rfl (by decide) (by decide) (fun r u H locs hv hP hD hS => ?_)
      have hP : va_P (dC, dI) zCl [] H := hP.sub [] rfl
      have hD : va_D A [] := hD.sub [] (by decide) rfl
      exact b_ND_cutRounded_18 hc hA hE  (lv_sub hl [0] rfl) hK hP hD hS hv
    · have hv := hv.2 c_2
      refine lv_lconst (v := (0 : Int64)) hx hb d_ND_cutRounded_12 (by decide) ?_
      exact W.lret (v := (0 : Int64)) hx hb hr (fun t ht hW => ⟨⟨_, (), rfl, hv, ⟨by rw [ht]; exact hP, va_K.moved hW.alike hK, hD⟩⟩, hS.F ht⟩) hS.2.2 d_ND_cutRounded_13
  · have hv := hv.2 c_1
    refine lv_lload_n hx hb d_ND_cutRounded_4 rfl (lv_at hl 0 rfl) ?_
    exact W.lret (v := x0) hx hb hr (fun t ht hW => ⟨⟨_, (), rfl, hv, ⟨by rw [ht]; exact hP, va_K.moved hW.alike hK, hD⟩⟩, hS.F ht⟩) hS.2.2 d_ND_cutRounded_5
theorem zi_ND_cutRounded : Cond.code (⟨"NumberDress", "cutRounded", "(JI)J"⟩ : MethodName) prog_1_method_12_code 9 (some .long) ∈ zT := zw_936
theorem zh_ND_cutRounded : (((⟨"NumberDress", "cutRounded", "(JI)J"⟩ : MethodName)).cls ≠ "java/lang/invoke/MethodHandle" ∧ ((⟨"NumberDress", "cutRounded", "(JI)J"⟩ : MethodName)).cls ≠ "java/lang/invoke/VarHandle" ∧ (parseMethodDescriptor ((⟨"NumberDress", "cutRounded", "(JI)J"⟩ : MethodName)).desc).map (fun d => d.parameters.length) = some 2) := by decide +kernel
set_option maxHeartbeats 4000000 in
set_option maxRecDepth 100000 in
theorem m_ND_cutRounded (l : Launch) (dC : Nat → ClassId) (dI : Nat → Nat → Nat) {gE : zG}  {x0 : Int64} {x2 : Int32} {sz : Nat} {Z : Int64 → Unit → Prop} (hv : v_ND_cutRounded_0 x0 x2 Z) : Met l (⟨"NumberDress", "cutRounded", "(JI)J"⟩ : MethodName) (Cond.code (⟨"NumberDress", "cutRounded", "(JI)J"⟩ : MethodName) prog_1_method_12_code 9 (some .long) :: zT) { frames := 1, cells := 0, slots := 0, locals := 20 } (zPc gE (dC, dI) zCl [] [.long x0, .int x2] sz []) (va_Ql Z (zB (dC, dI) zCl [] (va_A [] sz) (fun u : Unit => [])) (va_A [] sz)) 0 0 (va_A [] sz) := by
  refine Met.ofW (cc := prog_1_method_12_code) (maxL := 9) (ret := (some .long)) (by decide +kernel) rfl ?_
  intro p e s m args below meth c s₁ B hml hp
  obtain ⟨rfl, hsz, hP, hK, hD0, hE⟩ := hp
  have hts := atoms_spec (ws := (Cond.code (⟨"NumberDress", "cutRounded", "(JI)J"⟩ : MethodName) prog_1_method_12_code 9 (some .long) :: zT)) B.pre
  have hown : s.vm.findClass "NumberDress" = some m.cls := findClass_of_methodNamed B.named
  have hc : zC p s m _ meth c prog_1_method_12_code (some .long) 9 "NumberDress" := ⟨B.exec, B.bytes, B.returns, hml, hown, fun w h => hts w (List.mem_cons_of_mem _ h), B.notSynchronized⟩
  subst hsz
  have hD := hD0.self (sz := s.heap.size)
  generalize hAe : va_A [] s.heap.size = A at hD hE ⊢
  have hA : ∀ q : Nat, s.heap.size ≤ q → A q := fun q h => by rw [← hAe]; exact Or.inr h
  have hl := lv_entry ([.long x0, .int x2]) (n := 9) (Nat.le_of_ble_eq_true rfl)
  rw [lg_entry_eq]
  exact b_ND_cutRounded_0 hc hA hE hl hK hP hD va_S.rf hv
theorem d_ND_digitsOf_0 : decode prog_1_method_11_code 0 = .ok (.iconst 0, 1) := by decide +kernel
theorem d_ND_digitsOf_1 : decode prog_1_method_11_code 1 = .ok (.istore_n 2, 1) := by decide +kernel
theorem d_ND_digitsOf_2 : decode prog_1_method_11_code 2 = .ok (.iload_n 2, 1) := by decide +kernel
theorem d_ND_digitsOf_3 : decode prog_1_method_11_code 3 = .ok (.getstatic 119, 3) := by decide +kernel
theorem d_ND_digitsOf_6 : decode prog_1_method_11_code 6 = .ok (.arraylength, 1) := by decide +kernel
theorem d_ND_digitsOf_7 : decode prog_1_method_11_code 7 = .ok (.if_icmp .ge 18, 3) := by decide +kernel
theorem d_ND_digitsOf_10 : decode prog_1_method_11_code 10 = .ok (.lload_n 0, 1) := by decide +kernel
theorem d_ND_digitsOf_11 : decode prog_1_method_11_code 11 = .ok (.iload_n 2, 1) := by decide +kernel
theorem d_ND_digitsOf_12 : decode prog_1_method_11_code 12 = .ok (.invokestatic 123, 3) := by decide +kernel
theorem d_ND_digitsOf_15 : decode prog_1_method_11_code 15 = .ok (.lcmp, 1) := by decide +kernel
theorem d_ND_digitsOf_16 : decode prog_1_method_11_code 16 = .ok (.ifCond .lt 9, 3) := by decide +kernel
theorem d_ND_digitsOf_19 : decode prog_1_method_11_code 19 = .ok (.iinc 2 1, 3) := by decide +kernel
theorem d_ND_digitsOf_22 : decode prog_1_method_11_code 22 = .ok (.goto (-20), 3) := by decide +kernel
theorem d_ND_digitsOf_25 : decode prog_1_method_11_code 25 = .ok (.iload_n 2, 1) := by decide +kernel
theorem d_ND_digitsOf_26 : decode prog_1_method_11_code 26 = .ok (.ireturn, 1) := by decide +kernel
set_option maxHeartbeats 4000000 in
set_option maxRecDepth 100000 in
theorem b_ND_digitsOf_15  {x0 : Int64} {x2 : Int32} {s0 : Int64} {s1 : Int64} {k2 : Int32 → Prop} {Z : Int32 → Unit → Prop} {H : Heap} {locs : List Loc} {ls : Array Slot} (hc : zC p s m args meth c prog_1_method_11_code (some .int) 3 "NumberDress") (hA : ∀ q : Nat, s.heap.size ≤ q → A q) (hE : zE gE A s) (hk2 : ∀ (x2 : Int32) (H : Heap) (locs : List Loc) (ls : Array Slot), lv_has ls 3 [(0, .long x0), (2, .int x2)] → va_K (dC, dI) zCl [] s → va_P (dC, dI) zCl [] H → va_D A [] → va_S A s.heap H locs → k2 x2 → W p l e (headSpec (Cond.code (⟨"NumberDress", "digitsOf", "(J)I"⟩ : MethodName) prog_1_method_11_code 3 (some .int) :: zT) { frames := 1, cells := 0, slots := 0, locals := 20 }).room s m args below meth c H locs 0 0 (MQ below (va_Qi Z (zB (dC, dI) zCl [] A (fun u : Unit => [])) A) args s 0 0 A) (F0 m 2 ls [])) (hl : lv_has ls 3 [(0, .long x0), (2, .int x2)]) (hK : va_K (dC, dI) zCl [] s) (hP : va_P (dC, dI) zCl [] H) (hD : va_D A []) (hS : va_S A s.heap H locs) (hv : v_ND_digitsOf_15 x0 x2 s0 s1 k2 Z) : W p l e (headSpec (Cond.code (⟨"NumberDress", "digitsOf", "(J)I"⟩ : MethodName) prog_1_method_11_code 3 (some .int) :: zT) { frames := 1, cells := 0, slots := 0, locals := 20 }).room s m args below meth c H locs 0 0 (MQ below (va_Qi Z (zB (dC, dI) zCl [] A (fun u : Unit => [])) A) args s 0 0 A) (F0 m 15 ls [.long s1, .long s0]) := by
  obtain ⟨hx, hb, hr, hml, hown, ht, hlocks⟩ := id hc
  unfold v_ND_digitsOf_15 at hv
  refine z_lcmp_lt (tgt := 25) hx hb d_ND_digitsOf_15 d_ND_digitsOf_16 (by decide) (fun c_1 => ?_) (fun c_1 => ?_)
  · have hv := hv.1 c_1
    refine lv_iload_n hx hb d_ND_digitsOf_25 rfl (lv_at hl 1 rfl) ?_
    exact W.iret (v := x2) hx hb hr (fun t ht hW => ⟨⟨_, (), rfl, hv, ⟨by rw [ht]; exact hP, va_K.moved hW.alike hK, hD⟩⟩, hS.F ht⟩) hS.2.2 d_ND_digitsOf_26
  · have hv := hv.2 c_1
    refine lv_iinc (v := (x2 + (1 : Int32))) (lv' := [(2, .int (x2 + (1 : Int32))), (0, .long x0)]) hx hb d_ND_digitsOf_19 hl (k := 1) rfl rfl (by decide) rfl (fun ls hl => ?_)
    refine lv_goto (tgt := 2) hx hb d_ND_digitsOf_22 (by decide) ?_
    exact hk2 (x2 + (1 : Int32)) _ _ _ (lv_sub hl [1, 0] rfl) hK hP hD hS hv
set_option maxHeartbeats 4000000 in
set_option maxRecDepth 100000 in
theorem b_ND_digitsOf_2  {x0 : Int64}  {Z : Int32 → Unit → Prop} (hc : zC p s m args meth c prog_1_method_11_code (some .int) 3 "NumberDress") (hA : ∀ q : Nat, s.heap.size ≤ q → A q) (hE : zE gE A s) : ∀ (N : Nat) (x2 : Int32) (H : Heap) (locs : List Loc) (ls : Array Slot), lv_has ls 3 [(0, .long x0), (2, .int x2)] → va_K (dC, dI) zCl [] s → va_P (dC, dI) zCl [] H → va_D A [] → va_S A s.heap H locs → v_ND_digitsOf_2 x0  Z N x2 → W p l e (headSpec (Cond.code (⟨"NumberDress", "digitsOf", "(J)I"⟩ : MethodName) prog_1_method_11_code 3 (some .int) :: zT) { frames := 1, cells := 0, slots := 0, locals := 20 }).room s m args below meth c H locs 0 0 (MQ below (va_Qi Z (zB (dC, dI) zCl [] A (fun u : Unit => [])) A) args s 0 0 A) (F0 m 2 ls []) := by
  obtain ⟨hx, hb, hr, hml, hown, ht, hlocks⟩ := id hc
  intro N
  induction N with
  | zero => intro x2 H locs ls hl hK hP hD hS hv; exact hv.elim
  | succ N hk2 =>
    intro x2 H locs ls hl hK hP hD hS hv
    unfold v_ND_digitsOf_2 at hv
    refine lv_iload_n hx hb d_ND_digitsOf_2 rfl (lv_at hl 1 rfl) ?_
    refine va_gets hx hb hE.tens.1 hS hown (ht _ zw_881) (fun _ h9 => h9) d_ND_digitsOf_3 ?_
    refine va_tlen (v := (19 : Int32)) hx hb hE.tens.2 hS (by decide) d_ND_digitsOf_6 ?_
    refine lv_icmp_ge (tgt := 25) hx hb d_ND_digitsOf_7 (by decide) (fun c_1 => ?_) (fun c_1 => ?_)
    · have hv := hv.1 c_1
      refine lv_iload_n hx hb d_ND_digitsOf_25 rfl (lv_at hl 1 rfl) ?_
      exact W.iret (v := x2) hx hb hr (fun t ht hW => ⟨⟨_, (), rfl, hv, ⟨by rw [ht]; exact hP, va_K.moved hW.alike hK, hD⟩⟩, hS.F ht⟩) hS.2.2 d_ND_digitsOf_26
    · have hv := hv.2 c_1
      refine lv_lload_n hx hb d_ND_digitsOf_10 rfl (lv_at hl 0 rfl) ?_
      refine lv_iload_n hx hb d_ND_digitsOf_11 rfl (lv_at hl 1 rfl) ?_
      refine z_calll (wc := []) (wr := []) [] [] (va_runS (As := [.int x2]) (rest := [.long x0]) ⟨hx, hb, hml, hown, ht⟩ (m_ND_tenTo l dC dI hv) ⟨(callB_of 1 ht (zG_in zi_ND_tenTo) rfl rfl rfl (ht _ zw_110) (ht _ zw_882) zh_ND_tenTo ⟨Nat.le_of_ble_eq_true rfl, Nat.le_of_ble_eq_true rfl⟩), (ht _ zw_883)⟩ ⟨zPc_blind, zPc_pre hP hK hD hS hA hE [] [] rfl rfl (by decide) rfl⟩ rfl rfl hl.1 rfl (lv_room (Nat.le_of_ble_eq_true rfl)) d_ND_digitsOf_12 ⟨Nat.le_of_ble_eq_true rfl, Nat.le_of_ble_eq_true rfl⟩) hP hD hS hA rfl rfl (by decide) (by decide) (fun r u H locs hv hP hD hS => ?_)
      have hP : va_P (dC, dI) zCl [] H := hP.sub [] rfl
      have hD : va_D A [] := hD.sub [] (by decide) rfl
      exact b_ND_digitsOf_15 hc hA hE hk2 (lv_sub hl [0, 1] rfl) hK hP hD hS hv
set_option maxHeartbeats 4000000 in
set_option maxRecDepth 100000 in
theorem b_ND_digitsOf_0  {x0 : Int64}  {Z : Int32 → Unit → Prop} {H : Heap} {locs : List Loc} {ls : Array Slot} (hc : zC p s m args meth c prog_1_method_11_code (some .int) 3 "NumberDress") (hA : ∀ q : Nat, s.heap.size ≤ q → A q) (hE : zE gE A s) (hl : lv_has ls 3 [(0, .long x0)]) (hK : va_K (dC, dI) zCl [] s) (hP : va_P (dC, dI) zCl [] H) (hD : va_D A []) (hS : va_S A s.heap H locs) (hv : v_ND_digitsOf_0 x0  Z) : W p l e (headSpec (Cond.code (⟨"NumberDress", "digitsOf", "(J)I"⟩ : MethodName) prog_1_method_11_code 3 (some .int) :: zT) { frames := 1, cells := 0, slots := 0, locals := 20 }).room s m args below meth c H locs 0 0 (MQ below (va_Qi Z (zB (dC, dI) zCl [] A (fun u : Unit => [])) A) args s 0 0 A) (F0 m 0 ls []) := by
  obtain ⟨hx, hb, hr, hml, hown, ht, hlocks⟩ := id hc
  unfold v_ND_digitsOf_0 at hv
  refine lv_iconst (v := (0 : Int32)) hx hb d_ND_digitsOf_0 (by decide) ?_
  refine lv_istore_n (lv' := [(2, .int (0 : Int32)), (0, .long x0)]) hx hb d_ND_digitsOf_1 rfl hl (by decide) rfl (fun ls hl => ?_)
  obtain ⟨Nx, hv⟩ := hv
  exact b_ND_digitsOf_2 hc hA hE  Nx (0 : Int32) _ _ _ (lv_sub hl [1, 0] rfl) hK hP hD hS hv
theorem zi_ND_digitsOf : Cond.code (⟨"NumberDress", "digitsOf", "(J)I"⟩ : MethodName) prog_1_method_11_code 3 (some .int) ∈ zT := zw_880
theorem zh_ND_digitsOf : (((⟨"NumberDress", "digitsOf", "(J)I"⟩ : MethodName)).cls ≠ "java/lang/invoke/MethodHandle" ∧ ((⟨"NumberDress", "digitsOf", "(J)I"⟩ : MethodName)).cls ≠ "java/lang/invoke/VarHandle" ∧ (parseMethodDescriptor ((⟨"NumberDress", "digitsOf", "(J)I"⟩ : MethodName)).desc).map (fun d => d.parameters.length) = some 1) := by decide +kernel
set_option maxHeartbeats 4000000 in
set_option maxRecDepth 100000 in
theorem m_ND_digitsOf (l : Launch) (dC : Nat → ClassId) (dI : Nat → Nat → Nat) {gE : zG}  {x0 : Int64} {sz : Nat} {Z : Int32 → Unit → Prop} (hv : v_ND_digitsOf_0 x0 Z) : Met l (⟨"NumberDress", "digitsOf", "(J)I"⟩ : MethodName) (Cond.code (⟨"NumberDress", "digitsOf", "(J)I"⟩ : MethodName) prog_1_method_11_code 3 (some .int) :: zT) { frames := 1, cells := 0, slots := 0, locals := 20 } (zPc gE (dC, dI) zCl [] [.long x0] sz []) (va_Qi Z (zB (dC, dI) zCl [] (va_A [] sz) (fun u : Unit => [])) (va_A [] sz)) 0 0 (va_A [] sz) := by
  refine Met.ofW (cc := prog_1_method_11_code) (maxL := 3) (ret := (some .int)) (by decide +kernel) rfl ?_
  intro p e s m args below meth c s₁ B hml hp
  obtain ⟨rfl, hsz, hP, hK, hD0, hE⟩ := hp
  have hts := atoms_spec (ws := (Cond.code (⟨"NumberDress", "digitsOf", "(J)I"⟩ : MethodName) prog_1_method_11_code 3 (some .int) :: zT)) B.pre
  have hown : s.vm.findClass "NumberDress" = some m.cls := findClass_of_methodNamed B.named
  have hc : zC p s m _ meth c prog_1_method_11_code (some .int) 3 "NumberDress" := ⟨B.exec, B.bytes, B.returns, hml, hown, fun w h => hts w (List.mem_cons_of_mem _ h), B.notSynchronized⟩
  subst hsz
  have hD := hD0.self (sz := s.heap.size)
  generalize hAe : va_A [] s.heap.size = A at hD hE ⊢
  have hA : ∀ q : Nat, s.heap.size ≤ q → A q := fun q h => by rw [← hAe]; exact Or.inr h
  have hl := lv_entry ([.long x0]) (n := 3) (Nat.le_of_ble_eq_true rfl)
  rw [lg_entry_eq]
  exact b_ND_digitsOf_0 hc hA hE hl hK hP hD va_S.rf hv
theorem d_Digits_take_0 : decode prog_4_method_2_code 0 = .ok (.aload_n 0, 1) := by decide +kernel
theorem d_Digits_take_1 : decode prog_4_method_2_code 1 = .ok (.lload_n 1, 1) := by decide +kernel
theorem d_Digits_take_2 : decode prog_4_method_2_code 2 = .ok (.putfield 7, 3) := by decide +kernel
theorem d_Digits_take_5 : decode prog_4_method_2_code 5 = .ok (.aload_n 0, 1) := by decide +kernel
theorem d_Digits_take_6 : decode prog_4_method_2_code 6 = .ok (.lload_n 1, 1) := by decide +kernel
theorem d_Digits_take_7 : decode prog_4_method_2_code 7 = .ok (.lconst 0, 1) := by decide +kernel
theorem d_Digits_take_8 : decode prog_4_method_2_code 8 = .ok (.lcmp, 1) := by decide +kernel
theorem d_Digits_take_9 : decode prog_4_method_2_code 9 = .ok (.ifCond .ne 7, 3) := by decide +kernel
theorem d_Digits_take_12 : decode prog_4_method_2_code 12 = .ok (.iconst 0, 1) := by decide +kernel
theorem d_Digits_take_13 : decode prog_4_method_2_code 13 = .ok (.goto 4, 3) := by decide +kernel
theorem d_Digits_take_16 : decode prog_4_method_2_code 16 = .ok (.iload_n 3, 1) := by decide +kernel
theorem d_Digits_take_17 : decode prog_4_method_2_code 17 = .ok (.putfield 13, 3) := by decide +kernel
theorem d_Digits_take_20 : decode prog_4_method_2_code 20 = .ok (.aload_n 0, 1) := by decide +kernel
theorem d_Digits_take_21 : decode prog_4_method_2_code 21 = .ok (.lload_n 1, 1) := by decide +kernel
theorem d_Digits_take_22 : decode prog_4_method_2_code 22 = .ok (.lconst 0, 1) := by decide +kernel
theorem d_Digits_take_23 : decode prog_4_method_2_code 23 = .ok (.lcmp, 1) := by decide +kernel
theorem d_Digits_take_24 : decode prog_4_method_2_code 24 = .ok (.ifCond .ne 7, 3) := by decide +kernel
theorem d_Digits_take_27 : decode prog_4_method_2_code 27 = .ok (.iconst 0, 1) := by decide +kernel
theorem d_Digits_take_28 : decode prog_4_method_2_code 28 = .ok (.goto 9, 3) := by decide +kernel
theorem d_Digits_take_31 : decode prog_4_method_2_code 31 = .ok (.lload_n 1, 1) := by decide +kernel
theorem d_Digits_take_32 : decode prog_4_method_2_code 32 = .ok (.invokestatic 17, 3) := by decide +kernel
theorem d_Digits_take_35 : decode prog_4_method_2_code 35 = .ok (.iload_n 3, 1) := by decide +kernel
theorem d_Digits_take_36 : decode prog_4_method_2_code 36 = .ok (.iadd, 1) := by decide +kernel
theorem d_Digits_take_37 : decode prog_4_method_2_code 37 = .ok (.putfield 23, 3) := by decide +kernel
theorem d_Digits_take_40 : decode prog_4_method_2_code 40 = .ok (.aload_n 0, 1) := by decide +kernel
theorem d_Digits_take_41 : decode prog_4_method_2_code 41 = .ok (.iload 4, 2) := by decide +kernel
theorem d_Digits_take_43 : decode prog_4_method_2_code 43 = .ok (.putfield 26, 3) := by decide +kernel
theorem d_Digits_take_46 : decode prog_4_method_2_code 46 = .ok (.return_, 1) := by decide +kernel
set_option maxHeartbeats 4000000 in
set_option maxRecDepth 100000 in
theorem b_Digits_take_37 {h0 : Nat} {I0 : Nat → Int32} {J0 : Nat → Int64} {x4 : Int32} {s1 : Int32}  {Z : (Nat → Int32) × (Nat → Int64) → Prop} {H : Heap} {locs : List Loc} {ls : Array Slot} (hc : zC p s m args meth c prog_4_method_2_code none 5 "NumberDress$Digits") (hA : ∀ q : Nat, s.heap.size ≤ q → A q) (hE : zE gE A s) (hl : lv_has ls 5 [(0, .ref h0), (4, .int x4)]) (hK : va_K (dC, dI) zCl [] s) (hP : va_P (dC, dI) zCl [(h0, .inr (3, o_Digits I0 J0))] H) (hD : va_D A [(h0, .inr (3, o_Digits I0 J0))]) (hS : va_S A s.heap H locs) (hv : v_Digits_take_37 I0 J0 x4 s1  Z) : W p l e (headSpec (Cond.code (⟨"NumberDress$Digits", "take", "(JII)V"⟩ : MethodName) prog_4_method_2_code 5 none :: zT) { frames := 2, cells := 0, slots := 0, locals := 42 }).room s m args below meth c H locs 0 0 (MQ below (va_Qv Z (zB (dC, dI) zCl [] A (fun u : (Nat → Int32) × (Nat → Int64) => [(h0, .inr (3, o_Digits u.1 u.2))])) A) args s 0 0 A) (F0 m 37 ls [.int s1, .ref h0]) := by
  obtain ⟨hx, hb, hr, hml, hown, ht, hlocks⟩ := id hc
  unfold v_Digits_take_37 at hv
  refine va_put (D := (dC, dI)) (ci := 3) (v := .int s1) (ty := .int) (C := "NumberDress$Digits") (T := T_Digits) (N := 4) hx hb ht zin_Digits ty_Digits tyok_Digits nm_Digits hown hK hP hD hS 0 rfl rfl 2 (by decide) (ht _ zw_345) (fun _ h9 => h9) rfl (by decide +kernel) rfl rfl (Nat.le_of_ble_eq_true rfl) d_Digits_take_37 (fun H locs hP hD hS => ?_)
  have hP : va_P (dC, dI) zCl [(h0, .inr (3, o_Digits (zu I0 2 s1) J0))] H := hP
  have hD : va_D A [(h0, .inr (3, o_Digits (zu I0 2 s1) J0))] := hD
  refine lv_aload_n hx hb d_Digits_take_40 rfl (lv_at hl 0 rfl) ?_
  refine lv_iload hx hb d_Digits_take_41 (lv_at hl 1 rfl) ?_
  refine va_put (D := (dC, dI)) (ci := 3) (v := .int x4) (ty := .int) (C := "NumberDress$Digits") (T := T_Digits) (N := 4) hx hb ht zin_Digits ty_Digits tyok_Digits nm_Digits hown hK hP hD hS 0 rfl rfl 3 (by decide) (ht _ zw_346) (fun _ h9 => h9) rfl (by decide +kernel) rfl rfl (Nat.le_of_ble_eq_true rfl) d_Digits_take_43 (fun H locs hP hD hS => ?_)
  have hP : va_P (dC, dI) zCl [(h0, .inr (3, o_Digits (zu (zu I0 2 s1) 3 x4) J0))] H := hP
  have hD : va_D A [(h0, .inr (3, o_Digits (zu (zu I0 2 s1) 3 x4) J0))] := hD
  exact W.vret hx hb hr (fun t ht hW => ⟨⟨((zu (zu I0 2 s1) 3 x4), J0), rfl, hv, ⟨by rw [ht]; exact hP, va_K.moved hW.alike hK, hD⟩⟩, hS.F ht⟩) hS.2.2 d_Digits_take_46
set_option maxHeartbeats 4000000 in
set_option maxRecDepth 100000 in
theorem b_Digits_take_35 {h0 : Nat} {I0 : Nat → Int32} {J0 : Nat → Int64} {x3 : Int32} {x4 : Int32} {s1 : Int32}  {Z : (Nat → Int32) × (Nat → Int64) → Prop} {H : Heap} {locs : List Loc} {ls : Array Slot} (hc : zC p s m args meth c prog_4_method_2_code none 5 "NumberDress$Digits") (hA : ∀ q : Nat, s.heap.size ≤ q → A q) (hE : zE gE A s) (hl : lv_has ls 5 [(0, .ref h0), (3, .int x3), (4, .int x4)]) (hK : va_K (dC, dI) zCl [] s) (hP : va_P (dC, dI) zCl [(h0, .inr (3, o_Digits I0 J0))] H) (hD : va_D A [(h0, .inr (3, o_Digits I0 J0))]) (hS : va_S A s.heap H locs) (hv : v_Digits_take_35 I0 J0 x3 x4 s1  Z) : W p l e (headSpec (Cond.code (⟨"NumberDress$Digits", "take", "(JII)V"⟩ : MethodName) prog_4_method_2_code 5 none :: zT) { frames := 2, cells := 0, slots := 0, locals := 42 }).room s m args below meth c H locs 0 0 (MQ below (va_Qv Z (zB (dC, dI) zCl [] A (fun u : (Nat → Int32) × (Nat → Int64) => [(h0, .inr (3, o_Digits u.1 u.2))])) A) args s 0 0 A) (F0 m 35 ls [.int s1, .ref h0]) := by
  obtain ⟨hx, hb, hr, hml, hown, ht, hlocks⟩ := id hc
  unfold v_Digits_take_35 at hv
  refine lv_iload_n hx hb d_Digits_take_35 rfl (lv_at hl 1 rfl) ?_
  refine lv_iadd hx hb d_Digits_take_36 ?_
  exact b_Digits_take_37 hc hA hE  (lv_sub hl [0, 2] rfl) hK hP hD hS hv
set_option maxHeartbeats 4000000 in
set_option maxRecDepth 100000 in
theorem b_Digits_take_17 {h0 : Nat} {I0 : Nat → Int32} {J0 : Nat → Int64} {x1 : Int64} {x3 : Int32} {x4 : Int32} {s1 : Int32}  {Z : (Nat → Int32) × (Nat → Int64) → Prop} {H : Heap} {locs : List Loc} {ls : Array Slot} (hc : zC p s m args meth c prog_4_method_2_code none 5 "NumberDress$Digits") (hA : ∀ q : Nat, s.heap.size ≤ q → A q) (hE : zE gE A s) (hl : lv_has ls 5 [(0, .ref h0), (1, .long x1), (3, .int x3), (4, .int x4)]) (hK : va_K (dC, dI) zCl [] s) (hP : va_P (dC, dI) zCl [(h0, .inr (3, o_Digits I0 J0))] H) (hD : va_D A [(h0, .inr (3, o_Digits I0 J0))]) (hS : va_S A s.heap H locs) (hv : v_Digits_take_17 I0 J0 x1 x3 x4 s1  Z) : W p l e (headSpec (Cond.code (⟨"NumberDress$Digits", "take", "(JII)V"⟩ : MethodName) prog_4_method_2_code 5 none :: zT) { frames := 2, cells := 0, slots := 0, locals := 42 }).room s m args below meth c H locs 0 0 (MQ below (va_Qv Z (zB (dC, dI) zCl [] A (fun u : (Nat → Int32) × (Nat → Int64) => [(h0, .inr (3, o_Digits u.1 u.2))])) A) args s 0 0 A) (F0 m 17 ls [.int s1, .ref h0]) := by
  obtain ⟨hx, hb, hr, hml, hown, ht, hlocks⟩ := id hc
  unfold v_Digits_take_17 at hv
  refine va_put (D := (dC, dI)) (ci := 3) (v := .int s1) (ty := .int) (C := "NumberDress$Digits") (T := T_Digits) (N := 4) hx hb ht zin_Digits ty_Digits tyok_Digits nm_Digits hown hK hP hD hS 0 rfl rfl 1 (by decide) (ht _ zw_344) (fun _ h9 => h9) rfl (by decide +kernel) rfl rfl (Nat.le_of_ble_eq_true rfl) d_Digits_take_17 (fun H locs hP hD hS => ?_)
  have hP : va_P (dC, dI) zCl [(h0, .inr (3, o_Digits (zu I0 1 s1) J0))] H := hP
  have hD : va_D A [(h0, .inr (3, o_Digits (zu I0 1 s1) J0))] := hD
  refine lv_aload_n hx hb d_Digits_take_20 rfl (lv_at hl 0 rfl) ?_
  refine lv_lload_n hx hb d_Digits_take_21 rfl (lv_at hl 1 rfl) ?_
  refine lv_lconst (v := (0 : Int64)) hx hb d_Digits_take_22 (by decide) ?_
  refine z_lcmp_ne (tgt := 31) hx hb d_Digits_take_23 d_Digits_take_24 (by decide) (fun c_1 => ?_) (fun c_1 => ?_)
  · have hv := hv.1 c_1
    refine lv_lload_n hx hb d_Digits_take_31 rfl (lv_at hl 1 rfl) ?_
    refine z_calli (wc := []) (wr := [(h0, .inr (3, o_Digits (zu I0 1 s1) J0))]) [] [0] (va_runSN (As := [.long x1]) (rest := [.ref h0]) ⟨hx, hb, hml, hown, ht⟩ (m_ND_digitsOf l dC dI hv) ⟨(va_cnB 1 ht (zG_in zi_ND_digitsOf) rfl rfl rfl (hE.nest zn_941) (ht _ zw_110) zh_ND_digitsOf ⟨Nat.le_of_ble_eq_true rfl, Nat.le_of_ble_eq_true rfl⟩), (ht _ zw_879), trivial⟩ ⟨zPc_blind, zPc_pre hP hK hD hS hA hE [] [] rfl rfl (by decide) rfl⟩ rfl rfl hl.1 rfl (lv_room (Nat.le_of_ble_eq_true rfl)) d_Digits_take_32 ⟨Nat.le_of_ble_eq_true rfl, Nat.le_of_ble_eq_true rfl⟩) hP hD hS hA rfl rfl (by decide) (by decide) (fun r u H locs hv hP hD hS => ?_)
    have hP : va_P (dC, dI) zCl [(h0, .inr (3, o_Digits (zu I0 1 s1) J0))] H := hP.sub [0] rfl
    have hD : va_D A [(h0, .inr (3, o_Digits (zu I0 1 s1) J0))] := hD.sub [0] (by decide) rfl
    exact b_Digits_take_35 hc hA hE  (lv_sub hl [0, 2, 3] rfl) hK hP hD hS hv
  · have hv := hv.2 c_1
    refine lv_iconst (v := (0 : Int32)) hx hb d_Digits_take_27 (by decide) ?_
    refine lv_goto (tgt := 37) hx hb d_Digits_take_28 (by decide) ?_
    exact b_Digits_take_37 hc hA hE  (lv_sub hl [0, 3] rfl) hK hP hD hS hv
set_option maxHeartbeats 4000000 in
set_option maxRecDepth 100000 in
theorem b_Digits_take_0 {h0 : Nat} {I0 : Nat → Int32} {J0 : Nat → Int64} {x1 : Int64} {x3 : Int32} {x4 : Int32}  {Z : (Nat → Int32) × (Nat → Int64) → Prop} {H : Heap} {locs : List Loc} {ls : Array Slot} (hc : zC p s m args meth c prog_4_method_2_code none 5 "NumberDress$Digits") (hA : ∀ q : Nat, s.heap.size ≤ q → A q) (hE : zE gE A s) (hl : lv_has ls 5 [(0, .ref h0), (1, .long x1), (3, .int x3), (4, .int x4)]) (hK : va_K (dC, dI) zCl [] s) (hP : va_P (dC, dI) zCl [(h0, .inr (3, o_Digits I0 J0))] H) (hD : va_D A [(h0, .inr (3, o_Digits I0 J0))]) (hS : va_S A s.heap H locs) (hv : v_Digits_take_0 I0 J0 x1 x3 x4  Z) : W p l e (headSpec (Cond.code (⟨"NumberDress$Digits", "take", "(JII)V"⟩ : MethodName) prog_4_method_2_code 5 none :: zT) { frames := 2, cells := 0, slots := 0, locals := 42 }).room s m args below meth c H locs 0 0 (MQ below (va_Qv Z (zB (dC, dI) zCl [] A (fun u : (Nat → Int32) × (Nat → Int64) => [(h0, .inr (3, o_Digits u.1 u.2))])) A) args s 0 0 A) (F0 m 0 ls []) := by
  obtain ⟨hx, hb, hr, hml, hown, ht, hlocks⟩ := id hc
  unfold v_Digits_take_0 at hv
  refine lv_aload_n hx hb d_Digits_take_0 rfl (lv_at hl 0 rfl) ?_
  refine lv_lload_n hx hb d_Digits_take_1 rfl (lv_at hl 1 rfl) ?_
  refine va_put (D := (dC, dI)) (ci := 3) (v := .long x1) (ty := .long) (C := "NumberDress$Digits") (T := T_Digits) (N := 4) hx hb ht zin_Digits ty_Digits tyok_Digits nm_Digits hown hK hP hD hS 0 rfl rfl 0 (by decide) (ht _ zw_343) (fun _ h9 => h9) rfl (by decide +kernel) rfl rfl (Nat.le_of_ble_eq_true rfl) d_Digits_take_2 (fun H locs hP hD hS => ?_)
  have hP : va_P (dC, dI) zCl [(h0, .inr (3, o_Digits I0 (zul J0 0 x1)))] H := hP
  have hD : va_D A [(h0, .inr (3, o_Digits I0 (zul J0 0 x1)))] := hD
  refine lv_aload_n hx hb d_Digits_take_5 rfl (lv_at hl 0 rfl) ?_
  refine lv_lload_n hx hb d_Digits_take_6 rfl (lv_at hl 1 rfl) ?_
  refine lv_lconst (v := (0 : Int64)) hx hb d_Digits_take_7 (by decide) ?_
  refine z_lcmp_ne (tgt := 16) hx hb d_Digits_take_8 d_Digits_take_9 (by decide) (fun c_1 => ?_) (fun c_1 => ?_)
  · have hv := hv.1 c_1
    refine lv_iload_n hx hb d_Digits_take_16 rfl (lv_at hl 2 rfl) ?_
    exact b_Digits_take_17 hc hA hE  (lv_sub hl [0, 1, 2, 3] rfl) hK hP hD hS hv
  · have hv := hv.2 c_1
    refine lv_iconst (v := (0 : Int32)) hx hb d_Digits_take_12 (by decide) ?_
    refine lv_goto (tgt := 17) hx hb d_Digits_take_13 (by decide) ?_
    exact b_Digits_take_17 hc hA hE  (lv_sub hl [0, 1, 2, 3] rfl) hK hP hD hS hv
theorem zi_Digits_take : Cond.code (⟨"NumberDress$Digits", "take", "(JII)V"⟩ : MethodName) prog_4_method_2_code 5 none ∈ zT := zw_940
theorem zh_Digits_take : (((⟨"NumberDress$Digits", "take", "(JII)V"⟩ : MethodName)).cls ≠ "java/lang/invoke/MethodHandle" ∧ ((⟨"NumberDress$Digits", "take", "(JII)V"⟩ : MethodName)).cls ≠ "java/lang/invoke/VarHandle" ∧ (parseMethodDescriptor ((⟨"NumberDress$Digits", "take", "(JII)V"⟩ : MethodName)).desc).map (fun d => d.parameters.length) = some 3) := by decide +kernel
set_option maxHeartbeats 4000000 in
set_option maxRecDepth 100000 in
theorem m_Digits_take (l : Launch) (dC : Nat → ClassId) (dI : Nat → Nat → Nat) {gE : zG} {h0 : Nat} {I0 : Nat → Int32} {J0 : Nat → Int64} {x1 : Int64} {x3 : Int32} {x4 : Int32} {sz : Nat} {Z : (Nat → Int32) × (Nat → Int64) → Prop} (hv : v_Digits_take_0 I0 J0 x1 x3 x4 Z) : Met l (⟨"NumberDress$Digits", "take", "(JII)V"⟩ : MethodName) (Cond.code (⟨"NumberDress$Digits", "take", "(JII)V"⟩ : MethodName) prog_4_method_2_code 5 none :: zT) { frames := 2, cells := 0, slots := 0, locals := 42 } (zPc gE (dC, dI) zCl [] [.ref h0, .long x1, .int x3, .int x4] sz [(h0, .inr (3, o_Digits I0 J0))]) (va_Qv Z (zB (dC, dI) zCl [] (va_A [(h0, .inr (3, o_Digits I0 J0))] sz) (fun u : (Nat → Int32) × (Nat → Int64) => [(h0, .inr (3, o_Digits u.1 u.2))])) (va_A [(h0, .inr (3, o_Digits I0 J0))] sz)) 0 0 (va_A [(h0, .inr (3, o_Digits I0 J0))] sz) := by
  refine Met.ofW (cc := prog_4_method_2_code) (maxL := 5) (ret := none) (by decide +kernel) rfl ?_
  intro p e s m args below meth c s₁ B hml hp
  obtain ⟨rfl, hsz, hP, hK, hD0, hE⟩ := hp
  have hts := atoms_spec (ws := (Cond.code (⟨"NumberDress$Digits", "take", "(JII)V"⟩ : MethodName) prog_4_method_2_code 5 none :: zT)) B.pre
  have hown : s.vm.findClass "NumberDress$Digits" = some m.cls := findClass_of_methodNamed B.named
  have hc : zC p s m _ meth c prog_4_method_2_code none 5 "NumberDress$Digits" := ⟨B.exec, B.bytes, B.returns, hml, hown, fun w h => hts w (List.mem_cons_of_mem _ h), B.notSynchronized⟩
  subst hsz
  have hD := hD0.self (sz := s.heap.size)
  generalize hAe : va_A [(h0, .inr (3, o_Digits I0 J0))] s.heap.size = A at hD hE ⊢
  have hA : ∀ q : Nat, s.heap.size ≤ q → A q := fun q h => by rw [← hAe]; exact Or.inr h
  have hl := lv_entry ([.ref h0, .long x1, .int x3, .int x4]) (n := 5) (Nat.le_of_ble_eq_true rfl)
  rw [lg_entry_eq]
  exact b_Digits_take_0 hc hA hE hl hK hP hD va_S.rf hv
theorem d_Split_take_0 : decode prog_11_method_2_code 0 = .ok (.aload_n 1, 1) := by decide +kernel
theorem d_Split_take_1 : decode prog_11_method_2_code 1 = .ok (.getfield 16, 3) := by decide +kernel
theorem d_Split_take_4 : decode prog_11_method_2_code 4 = .ok (.ifCond .lt 25, 3) := by decide +kernel
theorem d_Split_take_7 : decode prog_11_method_2_code 7 = .ok (.aload_n 0, 1) := by decide +kernel
theorem d_Split_take_8 : decode prog_11_method_2_code 8 = .ok (.getfield 10, 3) := by decide +kernel
theorem d_Split_take_11 : decode prog_11_method_2_code 11 = .ok (.aload_n 1, 1) := by decide +kernel
theorem d_Split_take_12 : decode prog_11_method_2_code 12 = .ok (.getfield 22, 3) := by decide +kernel
theorem d_Split_take_15 : decode prog_11_method_2_code 15 = .ok (.aload_n 1, 1) := by decide +kernel
theorem d_Split_take_16 : decode prog_11_method_2_code 16 = .ok (.getfield 16, 3) := by decide +kernel
theorem d_Split_take_19 : decode prog_11_method_2_code 19 = .ok (.iconst 0, 1) := by decide +kernel
theorem d_Split_take_20 : decode prog_11_method_2_code 20 = .ok (.invokevirtual 26, 3) := by decide +kernel
theorem d_Split_take_23 : decode prog_11_method_2_code 23 = .ok (.aload_n 0, 1) := by decide +kernel
theorem d_Split_take_24 : decode prog_11_method_2_code 24 = .ok (.lconst 0, 1) := by decide +kernel
theorem d_Split_take_25 : decode prog_11_method_2_code 25 = .ok (.putfield 30, 3) := by decide +kernel
theorem d_Split_take_28 : decode prog_11_method_2_code 28 = .ok (.return_, 1) := by decide +kernel
theorem d_Split_take_29 : decode prog_11_method_2_code 29 = .ok (.aload_n 1, 1) := by decide +kernel
theorem d_Split_take_30 : decode prog_11_method_2_code 30 = .ok (.getfield 16, 3) := by decide +kernel
theorem d_Split_take_33 : decode prog_11_method_2_code 33 = .ok (.ineg, 1) := by decide +kernel
theorem d_Split_take_34 : decode prog_11_method_2_code 34 = .ok (.istore_n 2, 1) := by decide +kernel
theorem d_Split_take_35 : decode prog_11_method_2_code 35 = .ok (.iload_n 2, 1) := by decide +kernel
theorem d_Split_take_36 : decode prog_11_method_2_code 36 = .ok (.bipush 17, 2) := by decide +kernel
theorem d_Split_take_38 : decode prog_11_method_2_code 38 = .ok (.if_icmp .le 7, 3) := by decide +kernel
theorem d_Split_take_41 : decode prog_11_method_2_code 41 = .ok (.iconst 1, 1) := by decide +kernel
theorem d_Split_take_42 : decode prog_11_method_2_code 42 = .ok (.goto 4, 3) := by decide +kernel
theorem d_Split_take_45 : decode prog_11_method_2_code 45 = .ok (.iconst 0, 1) := by decide +kernel
theorem d_Split_take_46 : decode prog_11_method_2_code 46 = .ok (.istore_n 3, 1) := by decide +kernel
theorem d_Split_take_47 : decode prog_11_method_2_code 47 = .ok (.iload_n 3, 1) := by decide +kernel
theorem d_Split_take_48 : decode prog_11_method_2_code 48 = .ok (.ifCond .eq 7, 3) := by decide +kernel
theorem d_Split_take_51 : decode prog_11_method_2_code 51 = .ok (.lconst 0, 1) := by decide +kernel
theorem d_Split_take_52 : decode prog_11_method_2_code 52 = .ok (.goto 12, 3) := by decide +kernel
theorem d_Split_take_55 : decode prog_11_method_2_code 55 = .ok (.aload_n 1, 1) := by decide +kernel
theorem d_Split_take_56 : decode prog_11_method_2_code 56 = .ok (.getfield 22, 3) := by decide +kernel
theorem d_Split_take_59 : decode prog_11_method_2_code 59 = .ok (.iload_n 2, 1) := by decide +kernel
theorem d_Split_take_60 : decode prog_11_method_2_code 60 = .ok (.invokestatic 33, 3) := by decide +kernel
theorem d_Split_take_63 : decode prog_11_method_2_code 63 = .ok (.ldiv, 1) := by decide +kernel
theorem d_Split_take_64 : decode prog_11_method_2_code 64 = .ok (.lstore 4, 2) := by decide +kernel
theorem d_Split_take_66 : decode prog_11_method_2_code 66 = .ok (.iload_n 3, 1) := by decide +kernel
theorem d_Split_take_67 : decode prog_11_method_2_code 67 = .ok (.ifCond .eq 10, 3) := by decide +kernel
theorem d_Split_take_70 : decode prog_11_method_2_code 70 = .ok (.aload_n 1, 1) := by decide +kernel
theorem d_Split_take_71 : decode prog_11_method_2_code 71 = .ok (.getfield 22, 3) := by decide +kernel
theorem d_Split_take_74 : decode prog_11_method_2_code 74 = .ok (.goto 12, 3) := by decide +kernel
theorem d_Split_take_77 : decode prog_11_method_2_code 77 = .ok (.aload_n 1, 1) := by decide +kernel
theorem d_Split_take_78 : decode prog_11_method_2_code 78 = .ok (.getfield 22, 3) := by decide +kernel
theorem d_Split_take_81 : decode prog_11_method_2_code 81 = .ok (.iload_n 2, 1) := by decide +kernel
theorem d_Split_take_82 : decode prog_11_method_2_code 82 = .ok (.invokestatic 33, 3) := by decide +kernel
theorem d_Split_take_85 : decode prog_11_method_2_code 85 = .ok (.lrem, 1) := by decide +kernel
theorem d_Split_take_86 : decode prog_11_method_2_code 86 = .ok (.lstore 6, 2) := by decide +kernel
theorem d_Split_take_88 : decode prog_11_method_2_code 88 = .ok (.aload_n 0, 1) := by decide +kernel
theorem d_Split_take_89 : decode prog_11_method_2_code 89 = .ok (.getfield 10, 3) := by decide +kernel
theorem d_Split_take_92 : decode prog_11_method_2_code 92 = .ok (.lload 4, 2) := by decide +kernel
theorem d_Split_take_94 : decode prog_11_method_2_code 94 = .ok (.iconst 0, 1) := by decide +kernel
theorem d_Split_take_95 : decode prog_11_method_2_code 95 = .ok (.iconst 0, 1) := by decide +kernel
theorem d_Split_take_96 : decode prog_11_method_2_code 96 = .ok (.invokevirtual 26, 3) := by decide +kernel
theorem d_Split_take_99 : decode prog_11_method_2_code 99 = .ok (.aload_n 0, 1) := by decide +kernel
theorem d_Split_take_100 : decode prog_11_method_2_code 100 = .ok (.iload_n 2, 1) := by decide +kernel
theorem d_Split_take_101 : decode prog_11_method_2_code 101 = .ok (.bipush 15, 2) := by decide +kernel
theorem d_Split_take_103 : decode prog_11_method_2_code 103 = .ok (.if_icmp .gt 16, 3) := by decide +kernel
theorem d_Split_take_106 : decode prog_11_method_2_code 106 = .ok (.lload 6, 2) := by decide +kernel
theorem d_Split_take_108 : decode prog_11_method_2_code 108 = .ok (.bipush 15, 2) := by decide +kernel
theorem d_Split_take_110 : decode prog_11_method_2_code 110 = .ok (.iload_n 2, 1) := by decide +kernel
theorem d_Split_take_111 : decode prog_11_method_2_code 111 = .ok (.isub, 1) := by decide +kernel
theorem d_Split_take_112 : decode prog_11_method_2_code 112 = .ok (.invokestatic 33, 3) := by decide +kernel
theorem d_Split_take_115 : decode prog_11_method_2_code 115 = .ok (.lmul, 1) := by decide +kernel
theorem d_Split_take_116 : decode prog_11_method_2_code 116 = .ok (.goto 12, 3) := by decide +kernel
theorem d_Split_take_119 : decode prog_11_method_2_code 119 = .ok (.lload 6, 2) := by decide +kernel
theorem d_Split_take_121 : decode prog_11_method_2_code 121 = .ok (.iload_n 2, 1) := by decide +kernel
theorem d_Split_take_122 : decode prog_11_method_2_code 122 = .ok (.bipush 15, 2) := by decide +kernel
theorem d_Split_take_124 : decode prog_11_method_2_code 124 = .ok (.isub, 1) := by decide +kernel
theorem d_Split_take_125 : decode prog_11_method_2_code 125 = .ok (.invokestatic 39, 3) := by decide +kernel
theorem d_Split_take_128 : decode prog_11_method_2_code 128 = .ok (.putfield 30, 3) := by decide +kernel
theorem d_Split_take_131 : decode prog_11_method_2_code 131 = .ok (.return_, 1) := by decide +kernel
set_option maxHeartbeats 4000000 in
set_option maxRecDepth 100000 in
theorem b_Split_take_23 {h0 : Nat} {h1 : Nat} {a1_4 : Nat} {h2 : Nat} {J0 : Nat → Int64} {I1 : Nat → Int32} {J1 : Nat → Int64} {I2 : Nat → Int32} {J2 : Nat → Int64}  {Z : (Nat → Int64) × (Nat → Int32) × (Nat → Int64) → Prop} {H : Heap} {locs : List Loc} {ls : Array Slot} (hc : zC p s m args meth c prog_11_method_2_code none 8 "NumberDress$Split") (hA : ∀ q : Nat, s.heap.size ≤ q → A q) (hE : zE gE A s) (hl : lv_has ls 8 [(0, .ref h0)]) (hK : va_K (dC, dI) zCl [] s) (hP : va_P (dC, dI) zCl [(h0, .inr (10, o_Split J0 h2)), (h1, .inr (11, o_Value I1 J1 a1_4)), (h2, .inr (3, o_Digits I2 J2))] H) (hD : va_D A [(h0, .inr (10, o_Split J0 h2)), (h1, .inr (11, o_Value I1 J1 a1_4)), (h2, .inr (3, o_Digits I2 J2))]) (hS : va_S A s.heap H locs) (hv : v_Split_take_23 J0 I1 J1 I2 J2  Z) : W p l e (headSpec (Cond.code (⟨"NumberDress$Split", "take", "(LNumberDress$Value;)V"⟩ : MethodName) prog_11_method_2_code 8 none :: zT) { frames := 3, cells := 0, slots := 0, locals := 66 }).room s m args below meth c H locs 0 0 (MQ below (va_Qv Z (zB (dC, dI) zCl [] A (fun u : (Nat → Int64) × (Nat → Int32) × (Nat → Int64) => [(h0, .inr (10, o_Split u.1 h2)), (h1, .inr (11, o_Value I1 J1 a1_4)), (h2, .inr (3, o_Digits u.2.1 u.2.2))])) A) args s 0 0 A) (F0 m 23 ls []) := by
  obtain ⟨hx, hb, hr, hml, hown, ht, hlocks⟩ := id hc
  unfold v_Split_take_23 at hv
  refine lv_aload_n hx hb d_Split_take_23 rfl (lv_at hl 0 rfl) ?_
  refine lv_lconst (v := (0 : Int64)) hx hb d_Split_take_24 (by decide) ?_
  refine va_put (D := (dC, dI)) (ci := 10) (v := .long (0 : Int64)) (ty := .long) (C := "NumberDress$Split") (T := T_Split) (N := 2) hx hb ht zin_Split ty_Split tyok_Split nm_Split hown hK hP hD hS 0 rfl rfl 1 (by decide) (ht _ zw_383) (fun _ h9 => h9) rfl (by decide +kernel) rfl rfl (Nat.le_of_ble_eq_true rfl) d_Split_take_25 (fun H locs hP hD hS => ?_)
  have hP : va_P (dC, dI) zCl [(h0, .inr (10, o_Split (zul J0 1 (0 : Int64)) h2)), (h1, .inr (11, o_Value I1 J1 a1_4)), (h2, .inr (3, o_Digits I2 J2))] H := hP
  have hD : va_D A [(h0, .inr (10, o_Split (zul J0 1 (0 : Int64)) h2)), (h1, .inr (11, o_Value I1 J1 a1_4)), (h2, .inr (3, o_Digits I2 J2))] := hD
  exact W.vret hx hb hr (fun t ht hW => ⟨⟨((zul J0 1 (0 : Int64)), I2, J2), rfl, hv, ⟨by rw [ht]; exact hP, va_K.moved hW.alike hK, hD⟩⟩, hS.F ht⟩) hS.2.2 d_Split_take_28
set_option maxHeartbeats 4000000 in
set_option maxRecDepth 100000 in
theorem b_Split_take_128 {h0 : Nat} {h1 : Nat} {a1_4 : Nat} {h2 : Nat} {J0 : Nat → Int64} {I1 : Nat → Int32} {J1 : Nat → Int64} {I2 : Nat → Int32} {J2 : Nat → Int64} {s1 : Int64}  {Z : (Nat → Int64) × (Nat → Int32) × (Nat → Int64) → Prop} {H : Heap} {locs : List Loc} {ls : Array Slot} (hc : zC p s m args meth c prog_11_method_2_code none 8 "NumberDress$Split") (hA : ∀ q : Nat, s.heap.size ≤ q → A q) (hE : zE gE A s) (hl : lv_has ls 8 []) (hK : va_K (dC, dI) zCl [] s) (hP : va_P (dC, dI) zCl [(h0, .inr (10, o_Split J0 h2)), (h1, .inr (11, o_Value I1 J1 a1_4)), (h2, .inr (3, o_Digits I2 J2))] H) (hD : va_D A [(h0, .inr (10, o_Split J0 h2)), (h1, .inr (11, o_Value I1 J1 a1_4)), (h2, .inr (3, o_Digits I2 J2))]) (hS : va_S A s.heap H locs) (hv : v_Split_take_128 J0 I1 J1 I2 J2 s1  Z) : W p l e (headSpec (Cond.code (⟨"NumberDress$Split", "take", "(LNumberDress$Value;)V"⟩ : MethodName) prog_11_method_2_code 8 none :: zT) { frames := 3, cells := 0, slots := 0, locals := 66 }).room s m args below meth c H locs 0 0 (MQ below (va_Qv Z (zB (dC, dI) zCl [] A (fun u : (Nat → Int64) × (Nat → Int32) × (Nat → Int64) => [(h0, .inr (10, o_Split u.1 h2)), (h1, .inr (11, o_Value I1 J1 a1_4)), (h2, .inr (3, o_Digits u.2.1 u.2.2))])) A) args s 0 0 A) (F0 m 128 ls [.long s1, .ref h0]) := by
  obtain ⟨hx, hb, hr, hml, hown, ht, hlocks⟩ := id hc
  unfold v_Split_take_128 at hv
  refine va_put (D := (dC, dI)) (ci := 10) (v := .long s1) (ty := .long) (C := "NumberDress$Split") (T := T_Split) (N := 2) hx hb ht zin_Split ty_Split tyok_Split nm_Split hown hK hP hD hS 0 rfl rfl 1 (by decide) (ht _ zw_383) (fun _ h9 => h9) rfl (by decide +kernel) rfl rfl (Nat.le_of_ble_eq_true rfl) d_Split_take_128 (fun H locs hP hD hS => ?_)
  have hP : va_P (dC, dI) zCl [(h0, .inr (10, o_Split (zul J0 1 s1) h2)), (h1, .inr (11, o_Value I1 J1 a1_4)), (h2, .inr (3, o_Digits I2 J2))] H := hP
  have hD : va_D A [(h0, .inr (10, o_Split (zul J0 1 s1) h2)), (h1, .inr (11, o_Value I1 J1 a1_4)), (h2, .inr (3, o_Digits I2 J2))] := hD
  exact W.vret hx hb hr (fun t ht hW => ⟨⟨((zul J0 1 s1), I2, J2), rfl, hv, ⟨by rw [ht]; exact hP, va_K.moved hW.alike hK, hD⟩⟩, hS.F ht⟩) hS.2.2 d_Split_take_131
set_option maxHeartbeats 4000000 in
set_option maxRecDepth 100000 in
theorem b_Split_take_115 {h0 : Nat} {h1 : Nat} {a1_4 : Nat} {h2 : Nat} {J0 : Nat → Int64} {I1 : Nat → Int32} {J1 : Nat → Int64} {I2 : Nat → Int32} {J2 : Nat → Int64} {s1 : Int64} {s2 : Int64}  {Z : (Nat → Int64) × (Nat → Int32) × (Nat → Int64) → Prop} {H : Heap} {locs : List Loc} {ls : Array Slot} (hc : zC p s m args meth c prog_11_method_2_code none 8 "NumberDress$Split") (hA : ∀ q : Nat, s.heap.size ≤ q → A q) (hE : zE gE A s) (hl : lv_has ls 8 []) (hK : va_K (dC, dI) zCl [] s) (hP : va_P (dC, dI) zCl [(h0, .inr (10, o_Split J0 h2)), (h1, .inr (11, o_Value I1 J1 a1_4)), (h2, .inr (3, o_Digits I2 J2))] H) (hD : va_D A [(h0, .inr (10, o_Split J0 h2)), (h1, .inr (11, o_Value I1 J1 a1_4)), (h2, .inr (3, o_Digits I2 J2))]) (hS : va_S A s.heap H locs) (hv : v_Split_take_115 J0 I1 J1 I2 J2 s1 s2  Z) : W p l e (headSpec (Cond.code (⟨"NumberDress$Split", "take", "(LNumberDress$Value;)V"⟩ : MethodName) prog_11_method_2_code 8 none :: zT) { frames := 3, cells := 0, slots := 0, locals := 66 }).room s m args below meth c H locs 0 0 (MQ below (va_Qv Z (zB (dC, dI) zCl [] A (fun u : (Nat → Int64) × (Nat → Int32) × (Nat → Int64) => [(h0, .inr (10, o_Split u.1 h2)), (h1, .inr (11, o_Value I1 J1 a1_4)), (h2, .inr (3, o_Digits u.2.1 u.2.2))])) A) args s 0 0 A) (F0 m 115 ls [.long s2, .long s1, .ref h0]) := by
  obtain ⟨hx, hb, hr, hml, hown, ht, hlocks⟩ := id hc
  unfold v_Split_take_115 at hv
  refine lv_lmul hx hb d_Split_take_115 ?_
  refine lv_goto (tgt := 128) hx hb d_Split_take_116 (by decide) ?_
  exact b_Split_take_128 hc hA hE  (lv_sub hl [] rfl) hK hP hD hS hv
set_option maxHeartbeats 4000000 in
set_option maxRecDepth 100000 in
theorem b_Split_take_99 {h0 : Nat} {h1 : Nat} {a1_4 : Nat} {h2 : Nat} {J0 : Nat → Int64} {I1 : Nat → Int32} {J1 : Nat → Int64} {I2 : Nat → Int32} {J2 : Nat → Int64} {x2 : Int32} {x6 : Int64}  {Z : (Nat → Int64) × (Nat → Int32) × (Nat → Int64) → Prop} {H : Heap} {locs : List Loc} {ls : Array Slot} (hc : zC p s m args meth c prog_11_method_2_code none 8 "NumberDress$Split") (hA : ∀ q : Nat, s.heap.size ≤ q → A q) (hE : zE gE A s) (hl : lv_has ls 8 [(0, .ref h0), (2, .int x2), (6, .long x6)]) (hK : va_K (dC, dI) zCl [] s) (hP : va_P (dC, dI) zCl [(h0, .inr (10, o_Split J0 h2)), (h1, .inr (11, o_Value I1 J1 a1_4)), (h2, .inr (3, o_Digits I2 J2))] H) (hD : va_D A [(h0, .inr (10, o_Split J0 h2)), (h1, .inr (11, o_Value I1 J1 a1_4)), (h2, .inr (3, o_Digits I2 J2))]) (hS : va_S A s.heap H locs) (hv : v_Split_take_99 J0 I1 J1 I2 J2 x2 x6  Z) : W p l e (headSpec (Cond.code (⟨"NumberDress$Split", "take", "(LNumberDress$Value;)V"⟩ : MethodName) prog_11_method_2_code 8 none :: zT) { frames := 3, cells := 0, slots := 0, locals := 66 }).room s m args below meth c H locs 0 0 (MQ below (va_Qv Z (zB (dC, dI) zCl [] A (fun u : (Nat → Int64) × (Nat → Int32) × (Nat → Int64) => [(h0, .inr (10, o_Split u.1 h2)), (h1, .inr (11, o_Value I1 J1 a1_4)), (h2, .inr (3, o_Digits u.2.1 u.2.2))])) A) args s 0 0 A) (F0 m 99 ls []) := by
  obtain ⟨hx, hb, hr, hml, hown, ht, hlocks⟩ := id hc
  unfold v_Split_take_99 at hv
  refine lv_aload_n hx hb d_Split_take_99 rfl (lv_at hl 0 rfl) ?_
  refine lv_iload_n hx hb d_Split_take_100 rfl (lv_at hl 1 rfl) ?_
  refine lv_bipush (v := (15 : Int32)) hx hb d_Split_take_101 (by decide) ?_
  refine lv_icmp_gt (tgt := 119) hx hb d_Split_take_103 (by decide) (fun c_1 => ?_) (fun c_1 => ?_)
  · have hv := hv.1 c_1
    refine lv_lload hx hb d_Split_take_119 (lv_at hl 2 rfl) ?_
    refine lv_iload_n hx hb d_Split_take_121 rfl (lv_at hl 1 rfl) ?_
    refine lv_bipush (v := (15 : Int32)) hx hb d_Split_take_122 (by decide) ?_
    refine lv_isub hx hb d_Split_take_124 ?_
    refine z_calll (wc := []) (wr := [(h0, .inr (10, o_Split J0 h2)), (h1, .inr (11, o_Value I1 J1 a1_4)), (h2, .inr (3, o_Digits I2 J2))]) [] [0, 1, 2] (va_runSN (As := [.long x6, .int (x2 - (15 : Int32))]) (rest := [.ref h0]) ⟨hx, hb, hml, hown, ht⟩ (m_ND_cutRounded l dC dI hv) ⟨(va_cnB 2 ht (zG_in zi_ND_cutRounded) rfl rfl rfl (hE.nest zn_1001) (ht _ zw_110) zh_ND_cutRounded ⟨Nat.le_of_ble_eq_true rfl, Nat.le_of_ble_eq_true rfl⟩), (ht _ zw_935), trivial⟩ ⟨zPc_blind, zPc_pre hP hK hD hS hA hE [] [] rfl rfl (by decide) rfl⟩ rfl rfl hl.1 rfl (lv_room (Nat.le_of_ble_eq_true rfl)) d_Split_take_125 ⟨Nat.le_of_ble_eq_true rfl, Nat.le_of_ble_eq_true rfl⟩) hP hD hS hA rfl rfl (by decide) (by decide) (fun r u H locs hv hP hD hS => ?_)
    have hP : va_P (dC, dI) zCl [(h0, .inr (10, o_Split J0 h2)), (h1, .inr (11, o_Value I1 J1 a1_4)), (h2, .inr (3, o_Digits I2 J2))] H := hP.sub [0, 1, 2] rfl
    have hD : va_D A [(h0, .inr (10, o_Split J0 h2)), (h1, .inr (11, o_Value I1 J1 a1_4)), (h2, .inr (3, o_Digits I2 J2))] := hD.sub [0, 1, 2] (by decide) rfl
    exact b_Split_take_128 hc hA hE  (lv_sub hl [] rfl) hK hP hD hS hv
  · have hv := hv.2 c_1
    refine lv_lload hx hb d_Split_take_106 (lv_at hl 2 rfl) ?_
    refine lv_bipush (v := (15 : Int32)) hx hb d_Split_take_108 (by decide) ?_
    refine lv_iload_n hx hb d_Split_take_110 rfl (lv_at hl 1 rfl) ?_
    refine lv_isub hx hb d_Split_take_111 ?_
    refine z_calll (wc := []) (wr := [(h0, .inr (10, o_Split J0 h2)), (h1, .inr (11, o_Value I1 J1 a1_4)), (h2, .inr (3, o_Digits I2 J2))]) [] [0, 1, 2] (va_runSN (As := [.int ((15 : Int32) - x2)]) (rest := [.long x6, .ref h0]) ⟨hx, hb, hml, hown, ht⟩ (m_ND_tenTo l dC dI hv) ⟨(va_cnB 1 ht (zG_in zi_ND_tenTo) rfl rfl rfl (hE.nest zn_1000) (ht _ zw_110) zh_ND_tenTo ⟨Nat.le_of_ble_eq_true rfl, Nat.le_of_ble_eq_true rfl⟩), (ht _ zw_883), trivial⟩ ⟨zPc_blind, zPc_pre hP hK hD hS hA hE [] [] rfl rfl (by decide) rfl⟩ rfl rfl hl.1 rfl (lv_room (Nat.le_of_ble_eq_true rfl)) d_Split_take_112 ⟨Nat.le_of_ble_eq_true rfl, Nat.le_of_ble_eq_true rfl⟩) hP hD hS hA rfl rfl (by decide) (by decide) (fun r u H locs hv hP hD hS => ?_)
    have hP : va_P (dC, dI) zCl [(h0, .inr (10, o_Split J0 h2)), (h1, .inr (11, o_Value I1 J1 a1_4)), (h2, .inr (3, o_Digits I2 J2))] H := hP.sub [0, 1, 2] rfl
    have hD : va_D A [(h0, .inr (10, o_Split J0 h2)), (h1, .inr (11, o_Value I1 J1 a1_4)), (h2, .inr (3, o_Digits I2 J2))] := hD.sub [0, 1, 2] (by decide) rfl
    exact b_Split_take_115 hc hA hE  (lv_sub hl [] rfl) hK hP hD hS hv
set_option maxHeartbeats 4000000 in
set_option maxRecDepth 100000 in
theorem b_Split_take_86 {h0 : Nat} {h1 : Nat} {a1_4 : Nat} {h2 : Nat} {J0 : Nat → Int64} {I1 : Nat → Int32} {J1 : Nat → Int64} {I2 : Nat → Int32} {J2 : Nat → Int64} {x2 : Int32} {x4 : Int64} {s0 : Int64}  {Z : (Nat → Int64) × (Nat → Int32) × (Nat → Int64) → Prop} {H : Heap} {locs : List Loc} {ls : Array Slot} (hc : zC p s m args meth c prog_11_method_2_code none 8 "NumberDress$Split") (hA : ∀ q : Nat, s.heap.size ≤ q → A q) (hE : zE gE A s) (hl : lv_has ls 8 [(0, .ref h0), (2, .int x2), (4, .long x4)]) (hK : va_K (dC, dI) zCl [] s) (hP : va_P (dC, dI) zCl [(h0, .inr (10, o_Split J0 h2)), (h1, .inr (11, o_Value I1 J1 a1_4)), (h2, .inr (3, o_Digits I2 J2))] H) (hD : va_D A [(h0, .inr (10, o_Split J0 h2)), (h1, .inr (11, o_Value I1 J1 a1_4)), (h2, .inr (3, o_Digits I2 J2))]) (hS : va_S A s.heap H locs) (hv : v_Split_take_86 J0 I1 J1 I2 J2 x2 x4 s0  Z) : W p l e (headSpec (Cond.code (⟨"NumberDress$Split", "take", "(LNumberDress$Value;)V"⟩ : MethodName) prog_11_method_2_code 8 none :: zT) { frames := 3, cells := 0, slots := 0, locals := 66 }).room s m args below meth c H locs 0 0 (MQ below (va_Qv Z (zB (dC, dI) zCl [] A (fun u : (Nat → Int64) × (Nat → Int32) × (Nat → Int64) => [(h0, .inr (10, o_Split u.1 h2)), (h1, .inr (11, o_Value I1 J1 a1_4)), (h2, .inr (3, o_Digits u.2.1 u.2.2))])) A) args s 0 0 A) (F0 m 86 ls [.long s0]) := by
  obtain ⟨hx, hb, hr, hml, hown, ht, hlocks⟩ := id hc
  unfold v_Split_take_86 at hv
  refine lv_lstore (lv' := [(6, .long s0), (0, .ref h0), (2, .int x2), (4, .long x4)]) hx hb d_Split_take_86 hl (by decide) rfl (fun ls hl => ?_)
  refine lv_aload_n hx hb d_Split_take_88 rfl (lv_at hl 1 rfl) ?_
  refine va_get (D := (dC, dI)) (ci := 10) (v := .ref h2) (C := "NumberDress$Split") (T := T_Split) (N := 2) hx hb ht zin_Split hown hK hP 0 rfl rfl 0 (by decide) (ht _ zw_380) (fun _ h9 => h9) rfl d_Split_take_89 ?_
  refine lv_lload hx hb d_Split_take_92 (lv_at hl 3 rfl) ?_
  refine lv_iconst (v := (0 : Int32)) hx hb d_Split_take_94 (by decide) ?_
  refine lv_iconst (v := (0 : Int32)) hx hb d_Split_take_95 (by decide) ?_
  refine z_callv (wc := [(h2, .inr (3, o_Digits I2 J2))]) (wr := [(h0, .inr (10, o_Split J0 h2)), (h1, .inr (11, o_Value I1 J1 a1_4))]) [2] [0, 1] (va_runV (As := [.long x4, .int (0 : Int32), .int (0 : Int32)]) (rest := []) ⟨hx, hb, hml, hown, ht⟩ (m_Digits_take l dC dI hv) ⟨(callB_of 3 ht (zG_in zi_Digits_take) rfl rfl rfl (ht _ zw_117) (ht _ zw_999) zh_Digits_take ⟨Nat.le_of_ble_eq_true rfl, Nat.le_of_ble_eq_true rfl⟩), (ht _ zw_938), (ht _ zw_939)⟩ ⟨zPc_blind, va_recv hK hP (ci := 3) (q0 := 2) rfl rfl, zPc_pre hP hK hD hS hA hE [2] [] rfl rfl (by decide) rfl⟩ rfl rfl hl.1 rfl (lv_room (Nat.le_of_ble_eq_true rfl)) d_Split_take_96 ⟨Nat.le_of_ble_eq_true rfl, Nat.le_of_ble_eq_true rfl⟩) hP hD hS hA rfl rfl (by decide) (by decide) (fun u H locs hv hP hD hS => ?_)
  have hP : va_P (dC, dI) zCl [(h0, .inr (10, o_Split J0 h2)), (h1, .inr (11, o_Value I1 J1 a1_4)), (h2, .inr (3, o_Digits u.1 u.2))] H := hP.sub [0, 1, 2] rfl
  have hD : va_D A [(h0, .inr (10, o_Split J0 h2)), (h1, .inr (11, o_Value I1 J1 a1_4)), (h2, .inr (3, o_Digits u.1 u.2))] := hD.sub [0, 1, 2] (by decide) rfl
  exact b_Split_take_99 hc hA hE  (lv_sub hl [1, 2, 0] rfl) hK hP hD hS hv
set_option maxHeartbeats 4000000 in
set_option maxRecDepth 100000 in
theorem b_Split_take_85 {h0 : Nat} {h1 : Nat} {a1_4 : Nat} {h2 : Nat} {J0 : Nat → Int64} {I1 : Nat → Int32} {J1 : Nat → Int64} {I2 : Nat → Int32} {J2 : Nat → Int64} {x2 : Int32} {x4 : Int64} {s0 : Int64} {s1 : Int64}  {Z : (Nat → Int64) × (Nat → Int32) × (Nat → Int64) → Prop} {H : Heap} {locs : List Loc} {ls : Array Slot} (hc : zC p s m args meth c prog_11_method_2_code none 8 "NumberDress$Split") (hA : ∀ q : Nat, s.heap.size ≤ q → A q) (hE : zE gE A s) (hl : lv_has ls 8 [(0, .ref h0), (2, .int x2), (4, .long x4)]) (hK : va_K (dC, dI) zCl [] s) (hP : va_P (dC, dI) zCl [(h0, .inr (10, o_Split J0 h2)), (h1, .inr (11, o_Value I1 J1 a1_4)), (h2, .inr (3, o_Digits I2 J2))] H) (hD : va_D A [(h0, .inr (10, o_Split J0 h2)), (h1, .inr (11, o_Value I1 J1 a1_4)), (h2, .inr (3, o_Digits I2 J2))]) (hS : va_S A s.heap H locs) (hv : v_Split_take_85 J0 I1 J1 I2 J2 x2 x4 s0 s1  Z) : W p l e (headSpec (Cond.code (⟨"NumberDress$Split", "take", "(LNumberDress$Value;)V"⟩ : MethodName) prog_11_method_2_code 8 none :: zT) { frames := 3, cells := 0, slots := 0, locals := 66 }).room s m args below meth c H locs 0 0 (MQ below (va_Qv Z (zB (dC, dI) zCl [] A (fun u : (Nat → Int64) × (Nat → Int32) × (Nat → Int64) => [(h0, .inr (10, o_Split u.1 h2)), (h1, .inr (11, o_Value I1 J1 a1_4)), (h2, .inr (3, o_Digits u.2.1 u.2.2))])) A) args s 0 0 A) (F0 m 85 ls [.long s1, .long s0]) := by
  obtain ⟨hx, hb, hr, hml, hown, ht, hlocks⟩ := id hc
  unfold v_Split_take_85 at hv
  obtain ⟨q_1, hv⟩ := hv
  refine lv_lrem hx hb d_Split_take_85 q_1 ?_
  exact b_Split_take_86 hc hA hE  (lv_sub hl [0, 1, 2] rfl) hK hP hD hS hv
set_option maxHeartbeats 4000000 in
set_option maxRecDepth 100000 in
theorem b_Split_take_64 {h0 : Nat} {h1 : Nat} {a1_4 : Nat} {h2 : Nat} {J0 : Nat → Int64} {I1 : Nat → Int32} {J1 : Nat → Int64} {I2 : Nat → Int32} {J2 : Nat → Int64} {x2 : Int32} {x3 : Int32} {s0 : Int64}  {Z : (Nat → Int64) × (Nat → Int32) × (Nat → Int64) → Prop} {H : Heap} {locs : List Loc} {ls : Array Slot} (hc : zC p s m args meth c prog_11_method_2_code none 8 "NumberDress$Split") (hA : ∀ q : Nat, s.heap.size ≤ q → A q) (hE : zE gE A s) (hl : lv_has ls 8 [(0, .ref h0), (1, .ref h1), (2, .int x2), (3, .int x3)]) (hK : va_K (dC, dI) zCl [] s) (hP : va_P (dC, dI) zCl [(h0, .inr (10, o_Split J0 h2)), (h1, .inr (11, o_Value I1 J1 a1_4)), (h2, .inr (3, o_Digits I2 J2))] H) (hD : va_D A [(h0, .inr (10, o_Split J0 h2)), (h1, .inr (11, o_Value I1 J1 a1_4)), (h2, .inr (3, o_Digits I2 J2))]) (hS : va_S A s.heap H locs) (hv : v_Split_take_64 J0 I1 J1 I2 J2 x2 x3 s0  Z) : W p l e (headSpec (Cond.code (⟨"NumberDress$Split", "take", "(LNumberDress$Value;)V"⟩ : MethodName) prog_11_method_2_code 8 none :: zT) { frames := 3, cells := 0, slots := 0, locals := 66 }).room s m args below meth c H locs 0 0 (MQ below (va_Qv Z (zB (dC, dI) zCl [] A (fun u : (Nat → Int64) × (Nat → Int32) × (Nat → Int64) => [(h0, .inr (10, o_Split u.1 h2)), (h1, .inr (11, o_Value I1 J1 a1_4)), (h2, .inr (3, o_Digits u.2.1 u.2.2))])) A) args s 0 0 A) (F0 m 64 ls [.long s0]) := by
  obtain ⟨hx, hb, hr, hml, hown, ht, hlocks⟩ := id hc
  unfold v_Split_take_64 at hv
  refine lv_lstore (lv' := [(4, .long s0), (0, .ref h0), (1, .ref h1), (2, .int x2), (3, .int x3)]) hx hb d_Split_take_64 hl (by decide) rfl (fun ls hl => ?_)
  refine lv_iload_n hx hb d_Split_take_66 rfl (lv_at hl 4 rfl) ?_
  refine lv_if_eq (tgt := 77) hx hb d_Split_take_67 (by decide) (fun c_1 => ?_) (fun c_1 => ?_)
  · have hv := hv.1 c_1
    refine lv_aload_n hx hb d_Split_take_77 rfl (lv_at hl 2 rfl) ?_
    refine va_get (D := (dC, dI)) (ci := 11) (v := .long (J1 2)) (C := "NumberDress$Value") (T := T_Value) (N := 6) hx hb ht zin_Value hown hK hP 1 rfl rfl 2 (by decide) (ht _ zw_299) (fun _ h9 => h9) rfl d_Split_take_78 ?_
    refine lv_iload_n hx hb d_Split_take_81 rfl (lv_at hl 3 rfl) ?_
    refine z_calll (wc := []) (wr := [(h0, .inr (10, o_Split J0 h2)), (h1, .inr (11, o_Value I1 J1 a1_4)), (h2, .inr (3, o_Digits I2 J2))]) [] [0, 1, 2] (va_runSN (As := [.int x2]) (rest := [.long (J1 2)]) ⟨hx, hb, hml, hown, ht⟩ (m_ND_tenTo l dC dI hv) ⟨(va_cnB 1 ht (zG_in zi_ND_tenTo) rfl rfl rfl (hE.nest zn_1000) (ht _ zw_110) zh_ND_tenTo ⟨Nat.le_of_ble_eq_true rfl, Nat.le_of_ble_eq_true rfl⟩), (ht _ zw_883), trivial⟩ ⟨zPc_blind, zPc_pre hP hK hD hS hA hE [] [] rfl rfl (by decide) rfl⟩ rfl rfl hl.1 rfl (lv_room (Nat.le_of_ble_eq_true rfl)) d_Split_take_82 ⟨Nat.le_of_ble_eq_true rfl, Nat.le_of_ble_eq_true rfl⟩) hP hD hS hA rfl rfl (by decide) (by decide) (fun r u H locs hv hP hD hS => ?_)
    have hP : va_P (dC, dI) zCl [(h0, .inr (10, o_Split J0 h2)), (h1, .inr (11, o_Value I1 J1 a1_4)), (h2, .inr (3, o_Digits I2 J2))] H := hP.sub [0, 1, 2] rfl
    have hD : va_D A [(h0, .inr (10, o_Split J0 h2)), (h1, .inr (11, o_Value I1 J1 a1_4)), (h2, .inr (3, o_Digits I2 J2))] := hD.sub [0, 1, 2] (by decide) rfl
    exact b_Split_take_85 hc hA hE  (lv_sub hl [1, 3, 0] rfl) hK hP hD hS hv
  · have hv := hv.2 c_1
    refine lv_aload_n hx hb d_Split_take_70 rfl (lv_at hl 2 rfl) ?_
    refine va_get (D := (dC, dI)) (ci := 11) (v := .long (J1 2)) (C := "NumberDress$Value") (T := T_Value) (N := 6) hx hb ht zin_Value hown hK hP 1 rfl rfl 2 (by decide) (ht _ zw_299) (fun _ h9 => h9) rfl d_Split_take_71 ?_
    refine lv_goto (tgt := 86) hx hb d_Split_take_74 (by decide) ?_
    exact b_Split_take_86 hc hA hE  (lv_sub hl [1, 3, 0] rfl) hK hP hD hS hv
set_option maxHeartbeats 4000000 in
set_option maxRecDepth 100000 in
theorem b_Split_take_63 {h0 : Nat} {h1 : Nat} {a1_4 : Nat} {h2 : Nat} {J0 : Nat → Int64} {I1 : Nat → Int32} {J1 : Nat → Int64} {I2 : Nat → Int32} {J2 : Nat → Int64} {x2 : Int32} {x3 : Int32} {s0 : Int64} {s1 : Int64}  {Z : (Nat → Int64) × (Nat → Int32) × (Nat → Int64) → Prop} {H : Heap} {locs : List Loc} {ls : Array Slot} (hc : zC p s m args meth c prog_11_method_2_code none 8 "NumberDress$Split") (hA : ∀ q : Nat, s.heap.size ≤ q → A q) (hE : zE gE A s) (hl : lv_has ls 8 [(0, .ref h0), (1, .ref h1), (2, .int x2), (3, .int x3)]) (hK : va_K (dC, dI) zCl [] s) (hP : va_P (dC, dI) zCl [(h0, .inr (10, o_Split J0 h2)), (h1, .inr (11, o_Value I1 J1 a1_4)), (h2, .inr (3, o_Digits I2 J2))] H) (hD : va_D A [(h0, .inr (10, o_Split J0 h2)), (h1, .inr (11, o_Value I1 J1 a1_4)), (h2, .inr (3, o_Digits I2 J2))]) (hS : va_S A s.heap H locs) (hv : v_Split_take_63 J0 I1 J1 I2 J2 x2 x3 s0 s1  Z) : W p l e (headSpec (Cond.code (⟨"NumberDress$Split", "take", "(LNumberDress$Value;)V"⟩ : MethodName) prog_11_method_2_code 8 none :: zT) { frames := 3, cells := 0, slots := 0, locals := 66 }).room s m args below meth c H locs 0 0 (MQ below (va_Qv Z (zB (dC, dI) zCl [] A (fun u : (Nat → Int64) × (Nat → Int32) × (Nat → Int64) => [(h0, .inr (10, o_Split u.1 h2)), (h1, .inr (11, o_Value I1 J1 a1_4)), (h2, .inr (3, o_Digits u.2.1 u.2.2))])) A) args s 0 0 A) (F0 m 63 ls [.long s1, .long s0]) := by
  obtain ⟨hx, hb, hr, hml, hown, ht, hlocks⟩ := id hc
  unfold v_Split_take_63 at hv
  obtain ⟨q_1, hv⟩ := hv
  refine lv_ldiv hx hb d_Split_take_63 q_1 ?_
  exact b_Split_take_64 hc hA hE  (lv_sub hl [0, 1, 2, 3] rfl) hK hP hD hS hv
set_option maxHeartbeats 4000000 in
set_option maxRecDepth 100000 in
theorem b_Split_take_46 {h0 : Nat} {h1 : Nat} {a1_4 : Nat} {h2 : Nat} {J0 : Nat → Int64} {I1 : Nat → Int32} {J1 : Nat → Int64} {I2 : Nat → Int32} {J2 : Nat → Int64} {x2 : Int32} {s0 : Int32}  {Z : (Nat → Int64) × (Nat → Int32) × (Nat → Int64) → Prop} {H : Heap} {locs : List Loc} {ls : Array Slot} (hc : zC p s m args meth c prog_11_method_2_code none 8 "NumberDress$Split") (hA : ∀ q : Nat, s.heap.size ≤ q → A q) (hE : zE gE A s) (hl : lv_has ls 8 [(0, .ref h0), (1, .ref h1), (2, .int x2)]) (hK : va_K (dC, dI) zCl [] s) (hP : va_P (dC, dI) zCl [(h0, .inr (10, o_Split J0 h2)), (h1, .inr (11, o_Value I1 J1 a1_4)), (h2, .inr (3, o_Digits I2 J2))] H) (hD : va_D A [(h0, .inr (10, o_Split J0 h2)), (h1, .inr (11, o_Value I1 J1 a1_4)), (h2, .inr (3, o_Digits I2 J2))]) (hS : va_S A s.heap H locs) (hv : v_Split_take_46 J0 I1 J1 I2 J2 x2 s0  Z) : W p l e (headSpec (Cond.code (⟨"NumberDress$Split", "take", "(LNumberDress$Value;)V"⟩ : MethodName) prog_11_method_2_code 8 none :: zT) { frames := 3, cells := 0, slots := 0, locals := 66 }).room s m args below meth c H locs 0 0 (MQ below (va_Qv Z (zB (dC, dI) zCl [] A (fun u : (Nat → Int64) × (Nat → Int32) × (Nat → Int64) => [(h0, .inr (10, o_Split u.1 h2)), (h1, .inr (11, o_Value I1 J1 a1_4)), (h2, .inr (3, o_Digits u.2.1 u.2.2))])) A) args s 0 0 A) (F0 m 46 ls [.int s0]) := by
  obtain ⟨hx, hb, hr, hml, hown, ht, hlocks⟩ := id hc
  unfold v_Split_take_46 at hv
  refine lv_istore_n (lv' := [(3, .int s0), (0, .ref h0), (1, .ref h1), (2, .int x2)]) hx hb d_Split_take_46 rfl hl (by decide) rfl (fun ls hl => ?_)
  refine lv_iload_n hx hb d_Split_take_47 rfl (lv_at hl 0 rfl) ?_
  refine lv_if_eq (tgt := 55) hx hb d_Split_take_48 (by decide) (fun c_1 => ?_) (fun c_1 => ?_)
  · have hv := hv.1 c_1
    refine lv_aload_n hx hb d_Split_take_55 rfl (lv_at hl 2 rfl) ?_
    refine va_get (D := (dC, dI)) (ci := 11) (v := .long (J1 2)) (C := "NumberDress$Value") (T := T_Value) (N := 6) hx hb ht zin_Value hown hK hP 1 rfl rfl 2 (by decide) (ht _ zw_299) (fun _ h9 => h9) rfl d_Split_take_56 ?_
    refine lv_iload_n hx hb d_Split_take_59 rfl (lv_at hl 3 rfl) ?_
    refine z_calll (wc := []) (wr := [(h0, .inr (10, o_Split J0 h2)), (h1, .inr (11, o_Value I1 J1 a1_4)), (h2, .inr (3, o_Digits I2 J2))]) [] [0, 1, 2] (va_runSN (As := [.int x2]) (rest := [.long (J1 2)]) ⟨hx, hb, hml, hown, ht⟩ (m_ND_tenTo l dC dI hv) ⟨(va_cnB 1 ht (zG_in zi_ND_tenTo) rfl rfl rfl (hE.nest zn_1000) (ht _ zw_110) zh_ND_tenTo ⟨Nat.le_of_ble_eq_true rfl, Nat.le_of_ble_eq_true rfl⟩), (ht _ zw_883), trivial⟩ ⟨zPc_blind, zPc_pre hP hK hD hS hA hE [] [] rfl rfl (by decide) rfl⟩ rfl rfl hl.1 rfl (lv_room (Nat.le_of_ble_eq_true rfl)) d_Split_take_60 ⟨Nat.le_of_ble_eq_true rfl, Nat.le_of_ble_eq_true rfl⟩) hP hD hS hA rfl rfl (by decide) (by decide) (fun r u H locs hv hP hD hS => ?_)
    have hP : va_P (dC, dI) zCl [(h0, .inr (10, o_Split J0 h2)), (h1, .inr (11, o_Value I1 J1 a1_4)), (h2, .inr (3, o_Digits I2 J2))] H := hP.sub [0, 1, 2] rfl
    have hD : va_D A [(h0, .inr (10, o_Split J0 h2)), (h1, .inr (11, o_Value I1 J1 a1_4)), (h2, .inr (3, o_Digits I2 J2))] := hD.sub [0, 1, 2] (by decide) rfl
    exact b_Split_take_63 hc hA hE  (lv_sub hl [1, 2, 3, 0] rfl) hK hP hD hS hv
  · have hv := hv.2 c_1
    refine lv_lconst (v := (0 : Int64)) hx hb d_Split_take_51 (by decide) ?_
    refine lv_goto (tgt := 64) hx hb d_Split_take_52 (by decide) ?_
    exact b_Split_take_64 hc hA hE  (lv_sub hl [1, 2, 3, 0] rfl) hK hP hD hS hv
set_option maxHeartbeats 4000000 in
set_option maxRecDepth 100000 in
theorem b_Split_take_0 {h0 : Nat} {h1 : Nat} {a1_4 : Nat} {h2 : Nat} {J0 : Nat → Int64} {I1 : Nat → Int32} {J1 : Nat → Int64} {I2 : Nat → Int32} {J2 : Nat → Int64}  {Z : (Nat → Int64) × (Nat → Int32) × (Nat → Int64) → Prop} {H : Heap} {locs : List Loc} {ls : Array Slot} (hc : zC p s m args meth c prog_11_method_2_code none 8 "NumberDress$Split") (hA : ∀ q : Nat, s.heap.size ≤ q → A q) (hE : zE gE A s) (hl : lv_has ls 8 [(0, .ref h0), (1, .ref h1)]) (hK : va_K (dC, dI) zCl [] s) (hP : va_P (dC, dI) zCl [(h0, .inr (10, o_Split J0 h2)), (h1, .inr (11, o_Value I1 J1 a1_4)), (h2, .inr (3, o_Digits I2 J2))] H) (hD : va_D A [(h0, .inr (10, o_Split J0 h2)), (h1, .inr (11, o_Value I1 J1 a1_4)), (h2, .inr (3, o_Digits I2 J2))]) (hS : va_S A s.heap H locs) (hv : v_Split_take_0 J0 I1 J1 I2 J2  Z) : W p l e (headSpec (Cond.code (⟨"NumberDress$Split", "take", "(LNumberDress$Value;)V"⟩ : MethodName) prog_11_method_2_code 8 none :: zT) { frames := 3, cells := 0, slots := 0, locals := 66 }).room s m args below meth c H locs 0 0 (MQ below (va_Qv Z (zB (dC, dI) zCl [] A (fun u : (Nat → Int64) × (Nat → Int32) × (Nat → Int64) => [(h0, .inr (10, o_Split u.1 h2)), (h1, .inr (11, o_Value I1 J1 a1_4)), (h2, .inr (3, o_Digits u.2.1 u.2.2))])) A) args s 0 0 A) (F0 m 0 ls []) := by
  obtain ⟨hx, hb, hr, hml, hown, ht, hlocks⟩ := id hc
  unfold v_Split_take_0 at hv
  refine lv_aload_n hx hb d_Split_take_0 rfl (lv_at hl 1 rfl) ?_
  refine va_get (D := (dC, dI)) (ci := 11) (v := .int (I1 3)) (C := "NumberDress$Value") (T := T_Value) (N := 6) hx hb ht zin_Value hown hK hP 1 rfl rfl 3 (by decide) (ht _ zw_304) (fun _ h9 => h9) rfl d_Split_take_1 ?_
  refine lv_if_lt (tgt := 29) hx hb d_Split_take_4 (by decide) (fun c_1 => ?_) (fun c_1 => ?_)
  · have hv := hv.1 c_1
    refine lv_aload_n hx hb d_Split_take_29 rfl (lv_at hl 1 rfl) ?_
    refine va_get (D := (dC, dI)) (ci := 11) (v := .int (I1 3)) (C := "NumberDress$Value") (T := T_Value) (N := 6) hx hb ht zin_Value hown hK hP 1 rfl rfl 3 (by decide) (ht _ zw_304) (fun _ h9 => h9) rfl d_Split_take_30 ?_
    refine lv_ineg hx hb d_Split_take_33 ?_
    refine lv_istore_n (lv' := [(2, .int (-(I1 3))), (0, .ref h0), (1, .ref h1)]) hx hb d_Split_take_34 rfl hl (by decide) rfl (fun ls hl => ?_)
    refine lv_iload_n hx hb d_Split_take_35 rfl (lv_at hl 0 rfl) ?_
    refine lv_bipush (v := (17 : Int32)) hx hb d_Split_take_36 (by decide) ?_
    refine lv_icmp_le (tgt := 45) hx hb d_Split_take_38 (by decide) (fun c_2 => ?_) (fun c_2 => ?_)
    · have hv := hv.1 c_2
      refine lv_iconst (v := (0 : Int32)) hx hb d_Split_take_45 (by decide) ?_
      exact b_Split_take_46 hc hA hE  (lv_sub hl [1, 2, 0] rfl) hK hP hD hS hv
    · have hv := hv.2 c_2
      refine lv_iconst (v := (1 : Int32)) hx hb d_Split_take_41 (by decide) ?_
      refine lv_goto (tgt := 46) hx hb d_Split_take_42 (by decide) ?_
      exact b_Split_take_46 hc hA hE  (lv_sub hl [1, 2, 0] rfl) hK hP hD hS hv
  · have hv := hv.2 c_1
    refine lv_aload_n hx hb d_Split_take_7 rfl (lv_at hl 0 rfl) ?_
    refine va_get (D := (dC, dI)) (ci := 10) (v := .ref h2) (C := "NumberDress$Split") (T := T_Split) (N := 2) hx hb ht zin_Split hown hK hP 0 rfl rfl 0 (by decide) (ht _ zw_380) (fun _ h9 => h9) rfl d_Split_take_8 ?_
    refine lv_aload_n hx hb d_Split_take_11 rfl (lv_at hl 1 rfl) ?_
    refine va_get (D := (dC, dI)) (ci := 11) (v := .long (J1 2)) (C := "NumberDress$Value") (T := T_Value) (N := 6) hx hb ht zin_Value hown hK hP 1 rfl rfl 2 (by decide) (ht _ zw_299) (fun _ h9 => h9) rfl d_Split_take_12 ?_
    refine lv_aload_n hx hb d_Split_take_15 rfl (lv_at hl 1 rfl) ?_
    refine va_get (D := (dC, dI)) (ci := 11) (v := .int (I1 3)) (C := "NumberDress$Value") (T := T_Value) (N := 6) hx hb ht zin_Value hown hK hP 1 rfl rfl 3 (by decide) (ht _ zw_304) (fun _ h9 => h9) rfl d_Split_take_16 ?_
    refine lv_iconst (v := (0 : Int32)) hx hb d_Split_take_19 (by decide) ?_
    refine z_callv (wc := [(h2, .inr (3, o_Digits I2 J2))]) (wr := [(h0, .inr (10, o_Split J0 h2)), (h1, .inr (11, o_Value I1 J1 a1_4))]) [2] [0, 1] (va_runV (As := [.long (J1 2), .int (I1 3), .int (0 : Int32)]) (rest := []) ⟨hx, hb, hml, hown, ht⟩ (m_Digits_take l dC dI hv) ⟨(callB_of 3 ht (zG_in zi_Digits_take) rfl rfl rfl (ht _ zw_117) (ht _ zw_999) zh_Digits_take ⟨Nat.le_of_ble_eq_true rfl, Nat.le_of_ble_eq_true rfl⟩), (ht _ zw_938), (ht _ zw_939)⟩ ⟨zPc_blind, va_recv hK hP (ci := 3) (q0 := 2) rfl rfl, zPc_pre hP hK hD hS hA hE [2] [] rfl rfl (by decide) rfl⟩ rfl rfl hl.1 rfl (lv_room (Nat.le_of_ble_eq_true rfl)) d_Split_take_20 ⟨Nat.le_of_ble_eq_true rfl, Nat.le_of_ble_eq_true rfl⟩) hP hD hS hA rfl rfl (by decide) (by decide) (fun u H locs hv hP hD hS => ?_)
    have hP : va_P (dC, dI) zCl [(h0, .inr (10, o_Split J0 h2)), (h1, .inr (11, o_Value I1 J1 a1_4)), (h2, .inr (3, o_Digits u.1 u.2))] H := hP.sub [0, 1, 2] rfl
    have hD : va_D A [(h0, .inr (10, o_Split J0 h2)), (h1, .inr (11, o_Value I1 J1 a1_4)), (h2, .inr (3, o_Digits u.1 u.2))] := hD.sub [0, 1, 2] (by decide) rfl
    exact b_Split_take_23 hc hA hE  (lv_sub hl [0] rfl) hK hP hD hS hv
theorem zi_Split_take : Cond.code (⟨"NumberDress$Split", "take", "(LNumberDress$Value;)V"⟩ : MethodName) prog_11_method_2_code 8 none ∈ zT := zw_998
theorem zh_Split_take : (((⟨"NumberDress$Split", "take", "(LNumberDress$Value;)V"⟩ : MethodName)).cls ≠ "java/lang/invoke/MethodHandle" ∧ ((⟨"NumberDress$Split", "take", "(LNumberDress$Value;)V"⟩ : MethodName)).cls ≠ "java/lang/invoke/VarHandle" ∧ (parseMethodDescriptor ((⟨"NumberDress$Split", "take", "(LNumberDress$Value;)V"⟩ : MethodName)).desc).map (fun d => d.parameters.length) = some 1) := by decide +kernel
set_option maxHeartbeats 4000000 in
set_option maxRecDepth 100000 in
theorem m_Split_take (l : Launch) (dC : Nat → ClassId) (dI : Nat → Nat → Nat) {gE : zG} {h0 : Nat} {h1 : Nat} {a1_4 : Nat} {h2 : Nat} {J0 : Nat → Int64} {I1 : Nat → Int32} {J1 : Nat → Int64} {I2 : Nat → Int32} {J2 : Nat → Int64} {sz : Nat} {Z : (Nat → Int64) × (Nat → Int32) × (Nat → Int64) → Prop} (hv : v_Split_take_0 J0 I1 J1 I2 J2 Z) : Met l (⟨"NumberDress$Split", "take", "(LNumberDress$Value;)V"⟩ : MethodName) (Cond.code (⟨"NumberDress$Split", "take", "(LNumberDress$Value;)V"⟩ : MethodName) prog_11_method_2_code 8 none :: zT) { frames := 3, cells := 0, slots := 0, locals := 66 } (zPc gE (dC, dI) zCl [] [.ref h0, .ref h1] sz [(h0, .inr (10, o_Split J0 h2)), (h1, .inr (11, o_Value I1 J1 a1_4)), (h2, .inr (3, o_Digits I2 J2))]) (va_Qv Z (zB (dC, dI) zCl [] (va_A [(h0, .inr (10, o_Split J0 h2)), (h1, .inr (11, o_Value I1 J1 a1_4)), (h2, .inr (3, o_Digits I2 J2))] sz) (fun u : (Nat → Int64) × (Nat → Int32) × (Nat → Int64) => [(h0, .inr (10, o_Split u.1 h2)), (h1, .inr (11, o_Value I1 J1 a1_4)), (h2, .inr (3, o_Digits u.2.1 u.2.2))])) (va_A [(h0, .inr (10, o_Split J0 h2)), (h1, .inr (11, o_Value I1 J1 a1_4)), (h2, .inr (3, o_Digits I2 J2))] sz)) 0 0 (va_A [(h0, .inr (10, o_Split J0 h2)), (h1, .inr (11, o_Value I1 J1 a1_4)), (h2, .inr (3, o_Digits I2 J2))] sz) := by
  refine Met.ofW (cc := prog_11_method_2_code) (maxL := 8) (ret := none) (by decide +kernel) rfl ?_
  intro p e s m args below meth c s₁ B hml hp
  obtain ⟨rfl, hsz, hP, hK, hD0, hE⟩ := hp
  have hts := atoms_spec (ws := (Cond.code (⟨"NumberDress$Split", "take", "(LNumberDress$Value;)V"⟩ : MethodName) prog_11_method_2_code 8 none :: zT)) B.pre
  have hown : s.vm.findClass "NumberDress$Split" = some m.cls := findClass_of_methodNamed B.named
  have hc : zC p s m _ meth c prog_11_method_2_code none 8 "NumberDress$Split" := ⟨B.exec, B.bytes, B.returns, hml, hown, fun w h => hts w (List.mem_cons_of_mem _ h), B.notSynchronized⟩
  subst hsz
  have hD := hD0.self (sz := s.heap.size)
  generalize hAe : va_A [(h0, .inr (10, o_Split J0 h2)), (h1, .inr (11, o_Value I1 J1 a1_4)), (h2, .inr (3, o_Digits I2 J2))] s.heap.size = A at hD hE ⊢
  have hA : ∀ q : Nat, s.heap.size ≤ q → A q := fun q h => by rw [← hAe]; exact Or.inr h
  have hl := lv_entry ([.ref h0, .ref h1]) (n := 8) (Nat.le_of_ble_eq_true rfl)
  rw [lg_entry_eq]
  exact b_Split_take_0 hc hA hE hl hK hP hD va_S.rf hv
end
