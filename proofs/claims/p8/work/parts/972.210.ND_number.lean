section
variable {p : Program} {l : Launch} {e : Env} {s : State} {m : MethodId} {args : Array Value} {below : List Frame} {meth : Method} {c : Code} {dC : Nat → ClassId} {dI : Nat → Nat → Nat} {A : Nat → Prop} {gE : zG}
theorem d_ND_number_0 : decode prog_1_method_5_code 0 = .ok (.iload_n 2, 1) := by decide +kernel
theorem d_ND_number_1 : decode prog_1_method_5_code 1 = .ok (.ifCond .lt 35, 3) := by decide +kernel
theorem d_ND_number_4 : decode prog_1_method_5_code 4 = .ok (.iload_n 2, 1) := by decide +kernel
theorem d_ND_number_5 : decode prog_1_method_5_code 5 = .ok (.ldc 76, 2) := by decide +kernel
theorem d_ND_number_7 : decode prog_1_method_5_code 7 = .ok (.if_icmp .gt 29, 3) := by decide +kernel
theorem d_ND_number_10 : decode prog_1_method_5_code 10 = .ok (.iload_n 3, 1) := by decide +kernel
theorem d_ND_number_11 : decode prog_1_method_5_code 11 = .ok (.ifCond .lt 25, 3) := by decide +kernel
theorem d_ND_number_14 : decode prog_1_method_5_code 14 = .ok (.iload_n 3, 1) := by decide +kernel
theorem d_ND_number_15 : decode prog_1_method_5_code 15 = .ok (.ldc 77, 2) := by decide +kernel
theorem d_ND_number_17 : decode prog_1_method_5_code 17 = .ok (.if_icmp .gt 19, 3) := by decide +kernel
theorem d_ND_number_20 : decode prog_1_method_5_code 20 = .ok (.iload 4, 2) := by decide +kernel
theorem d_ND_number_22 : decode prog_1_method_5_code 22 = .ok (.sipush (-350), 3) := by decide +kernel
theorem d_ND_number_25 : decode prog_1_method_5_code 25 = .ok (.if_icmp .lt 11, 3) := by decide +kernel
theorem d_ND_number_28 : decode prog_1_method_5_code 28 = .ok (.iload 4, 2) := by decide +kernel
theorem d_ND_number_30 : decode prog_1_method_5_code 30 = .ok (.sipush 300, 3) := by decide +kernel
theorem d_ND_number_33 : decode prog_1_method_5_code 33 = .ok (.if_icmp .le 13, 3) := by decide +kernel
theorem d_ND_number_36 : decode prog_1_method_5_code 36 = .ok (.new 48, 3) := by decide +kernel
theorem d_ND_number_46 : decode prog_1_method_5_code 46 = .ok (.aload_n 0, 1) := by decide +kernel
theorem d_ND_number_47 : decode prog_1_method_5_code 47 = .ok (.getfield 30, 3) := by decide +kernel
theorem d_ND_number_50 : decode prog_1_method_5_code 50 = .ok (.iload_n 1, 1) := by decide +kernel
theorem d_ND_number_51 : decode prog_1_method_5_code 51 = .ok (.iload_n 2, 1) := by decide +kernel
theorem d_ND_number_52 : decode prog_1_method_5_code 52 = .ok (.i2l, 1) := by decide +kernel
theorem d_ND_number_53 : decode prog_1_method_5_code 53 = .ok (.ldc2_w 80, 3) := by decide +kernel
theorem d_ND_number_56 : decode prog_1_method_5_code 56 = .ok (.lmul, 1) := by decide +kernel
theorem d_ND_number_57 : decode prog_1_method_5_code 57 = .ok (.iload_n 3, 1) := by decide +kernel
theorem d_ND_number_58 : decode prog_1_method_5_code 58 = .ok (.i2l, 1) := by decide +kernel
theorem d_ND_number_59 : decode prog_1_method_5_code 59 = .ok (.ladd, 1) := by decide +kernel
theorem d_ND_number_60 : decode prog_1_method_5_code 60 = .ok (.iload 4, 2) := by decide +kernel
theorem d_ND_number_62 : decode prog_1_method_5_code 62 = .ok (.invokevirtual 82, 3) := by decide +kernel
theorem d_ND_number_65 : decode prog_1_method_5_code 65 = .ok (.aload_n 0, 1) := by decide +kernel
theorem d_ND_number_66 : decode prog_1_method_5_code 66 = .ok (.getfield 44, 3) := by decide +kernel
theorem d_ND_number_69 : decode prog_1_method_5_code 69 = .ok (.iconst 0, 1) := by decide +kernel
theorem d_ND_number_70 : decode prog_1_method_5_code 70 = .ok (.putfield 72, 3) := by decide +kernel
theorem d_ND_number_73 : decode prog_1_method_5_code 73 = .ok (.return_, 1) := by decide +kernel
set_option maxHeartbeats 4000000 in
set_option maxRecDepth 100000 in
theorem b_ND_number_36 {h0 : Nat} {a0_0 : Nat} {a0_2 : Nat} {a0_3 : Nat} {a0_5 : Nat} {h1 : Nat} {a1_4 : Nat} {h2 : Nat} {a2_0 : Nat} {I0 : Nat → Int32} {I1 : Nat → Int32} {J1 : Nat → Int64} {I2 : Nat → Int32}  {Z : (Nat → Int32) × (Nat → Int64) × (Nat → Int32) → Prop} {H : Heap} {locs : List Loc} {ls : Array Slot} (hc : zC p s m args meth c prog_1_method_5_code none 5 "NumberDress") (hA : ∀ q : Nat, s.heap.size ≤ q → A q) (hE : zE gE A s) (hl : lv_has ls 5 []) (hK : va_K (dC, dI) zCl [] s) (hP : va_P (dC, dI) zCl [(h0, .inr (0, o_ND I0 a0_0 a0_2 a0_3 h1 a0_5 h2)), (h1, .inr (11, o_Value I1 J1 a1_4)), (h2, .inr (6, o_Look I2 a2_0))] H) (hD : va_D A [(h0, .inr (0, o_ND I0 a0_0 a0_2 a0_3 h1 a0_5 h2)), (h1, .inr (11, o_Value I1 J1 a1_4)), (h2, .inr (6, o_Look I2 a2_0))]) (hS : va_S A s.heap H locs) (hv : v_ND_number_36 I0 I1 J1 I2  Z) : W p l e (headSpec (Cond.code (⟨"NumberDress", "number", "(ZIII)V"⟩ : MethodName) prog_1_method_5_code 5 none :: zT) { frames := 1, cells := 0, slots := 0, locals := 24 }).room s m args below meth c H locs 0 0 (MQ below (va_Qv Z (zB (dC, dI) zCl [] A (fun u : (Nat → Int32) × (Nat → Int64) × (Nat → Int32) => [(h0, .inr (0, o_ND I0 a0_0 a0_2 a0_3 h1 a0_5 h2)), (h1, .inr (11, o_Value u.1 u.2.1 a1_4)), (h2, .inr (6, o_Look u.2.2 a2_0))])) A) args s 0 0 A) (F0 m 36 ls []) := by
  obtain ⟨hx, hb, hr, hml, hown, ht, hlocks⟩ := id hc
  unfold v_ND_number_36 at hv
  exact hv.elim
set_option maxHeartbeats 4000000 in
set_option maxRecDepth 100000 in
theorem b_ND_number_65 {h0 : Nat} {a0_0 : Nat} {a0_2 : Nat} {a0_3 : Nat} {a0_5 : Nat} {h1 : Nat} {a1_4 : Nat} {h2 : Nat} {a2_0 : Nat} {I0 : Nat → Int32} {I1 : Nat → Int32} {J1 : Nat → Int64} {I2 : Nat → Int32}  {Z : (Nat → Int32) × (Nat → Int64) × (Nat → Int32) → Prop} {H : Heap} {locs : List Loc} {ls : Array Slot} (hc : zC p s m args meth c prog_1_method_5_code none 5 "NumberDress") (hA : ∀ q : Nat, s.heap.size ≤ q → A q) (hE : zE gE A s) (hl : lv_has ls 5 [(0, .ref h0)]) (hK : va_K (dC, dI) zCl [] s) (hP : va_P (dC, dI) zCl [(h0, .inr (0, o_ND I0 a0_0 a0_2 a0_3 h1 a0_5 h2)), (h1, .inr (11, o_Value I1 J1 a1_4)), (h2, .inr (6, o_Look I2 a2_0))] H) (hD : va_D A [(h0, .inr (0, o_ND I0 a0_0 a0_2 a0_3 h1 a0_5 h2)), (h1, .inr (11, o_Value I1 J1 a1_4)), (h2, .inr (6, o_Look I2 a2_0))]) (hS : va_S A s.heap H locs) (hv : v_ND_number_65 I0 I1 J1 I2  Z) : W p l e (headSpec (Cond.code (⟨"NumberDress", "number", "(ZIII)V"⟩ : MethodName) prog_1_method_5_code 5 none :: zT) { frames := 1, cells := 0, slots := 0, locals := 24 }).room s m args below meth c H locs 0 0 (MQ below (va_Qv Z (zB (dC, dI) zCl [] A (fun u : (Nat → Int32) × (Nat → Int64) × (Nat → Int32) => [(h0, .inr (0, o_ND I0 a0_0 a0_2 a0_3 h1 a0_5 h2)), (h1, .inr (11, o_Value u.1 u.2.1 a1_4)), (h2, .inr (6, o_Look u.2.2 a2_0))])) A) args s 0 0 A) (F0 m 65 ls []) := by
  obtain ⟨hx, hb, hr, hml, hown, ht, hlocks⟩ := id hc
  unfold v_ND_number_65 at hv
  refine lv_aload_n hx hb d_ND_number_65 rfl (lv_at hl 0 rfl) ?_
  refine va_get (D := (dC, dI)) (ci := 0) (v := .ref h2) (C := "NumberDress") (T := T_ND) (N := 7) hx hb ht zin_ND hown hK hP 0 rfl rfl 6 (by decide) (ht _ zw_473) (fun _ h9 => h9) rfl d_ND_number_66 ?_
  refine lv_iconst (v := (0 : Int32)) hx hb d_ND_number_69 (by decide) ?_
  refine va_put (D := (dC, dI)) (ci := 6) (v := .int (0 : Int32)) (ty := .boolean) (C := "NumberDress$Look") (T := T_Look) (N := 3) hx hb ht zin_Look ty_Look tyok_Look nm_Look hown hK hP hD hS 2 rfl rfl 2 (by decide) (ht _ zw_459) (fun _ h9 => h9) rfl (by decide +kernel) (by decide) (by decide) (Nat.le_of_ble_eq_true rfl) d_ND_number_70 (fun H locs hP hD hS => ?_)
  have hP : va_P (dC, dI) zCl [(h0, .inr (0, o_ND I0 a0_0 a0_2 a0_3 h1 a0_5 h2)), (h1, .inr (11, o_Value I1 J1 a1_4)), (h2, .inr (6, o_Look (zu I2 2 (0 : Int32)) a2_0))] H := hP
  have hD : va_D A [(h0, .inr (0, o_ND I0 a0_0 a0_2 a0_3 h1 a0_5 h2)), (h1, .inr (11, o_Value I1 J1 a1_4)), (h2, .inr (6, o_Look (zu I2 2 (0 : Int32)) a2_0))] := hD
  exact W.vret hx hb hr (fun t ht hW => ⟨⟨(I1, J1, (zu I2 2 (0 : Int32))), rfl, hv, ⟨by rw [ht]; exact hP, va_K.moved hW.alike hK, hD⟩⟩, hS.F ht⟩) hS.2.2 d_ND_number_73
set_option maxHeartbeats 4000000 in
set_option maxRecDepth 100000 in
theorem b_ND_number_0 {h0 : Nat} {a0_0 : Nat} {a0_2 : Nat} {a0_3 : Nat} {a0_5 : Nat} {h1 : Nat} {a1_4 : Nat} {h2 : Nat} {a2_0 : Nat} {I0 : Nat → Int32} {I1 : Nat → Int32} {J1 : Nat → Int64} {I2 : Nat → Int32} {x1 : Int32} {x2 : Int32} {x3 : Int32} {x4 : Int32}  {Z : (Nat → Int32) × (Nat → Int64) × (Nat → Int32) → Prop} {H : Heap} {locs : List Loc} {ls : Array Slot} (hc : zC p s m args meth c prog_1_method_5_code none 5 "NumberDress") (hA : ∀ q : Nat, s.heap.size ≤ q → A q) (hE : zE gE A s) (hl : lv_has ls 5 [(0, .ref h0), (1, .int x1), (2, .int x2), (3, .int x3), (4, .int x4)]) (hK : va_K (dC, dI) zCl [] s) (hP : va_P (dC, dI) zCl [(h0, .inr (0, o_ND I0 a0_0 a0_2 a0_3 h1 a0_5 h2)), (h1, .inr (11, o_Value I1 J1 a1_4)), (h2, .inr (6, o_Look I2 a2_0))] H) (hD : va_D A [(h0, .inr (0, o_ND I0 a0_0 a0_2 a0_3 h1 a0_5 h2)), (h1, .inr (11, o_Value I1 J1 a1_4)), (h2, .inr (6, o_Look I2 a2_0))]) (hS : va_S A s.heap H locs) (hv : v_ND_number_0 I0 I1 J1 I2 x1 x2 x3 x4  Z) : W p l e (headSpec (Cond.code (⟨"NumberDress", "number", "(ZIII)V"⟩ : MethodName) prog_1_method_5_code 5 none :: zT) { frames := 1, cells := 0, slots := 0, locals := 24 }).room s m args below meth c H locs 0 0 (MQ below (va_Qv Z (zB (dC, dI) zCl [] A (fun u : (Nat → Int32) × (Nat → Int64) × (Nat → Int32) => [(h0, .inr (0, o_ND I0 a0_0 a0_2 a0_3 h1 a0_5 h2)), (h1, .inr (11, o_Value u.1 u.2.1 a1_4)), (h2, .inr (6, o_Look u.2.2 a2_0))])) A) args s 0 0 A) (F0 m 0 ls []) := by
  obtain ⟨hx, hb, hr, hml, hown, ht, hlocks⟩ := id hc
  unfold v_ND_number_0 at hv
  refine lv_iload_n hx hb d_ND_number_0 rfl (lv_at hl 2 rfl) ?_
  refine lv_if_lt (tgt := 36) hx hb d_ND_number_1 (by decide) (fun c_1 => ?_) (fun c_1 => ?_)
  · have hv := hv.1 c_1
    exact b_ND_number_36 hc hA hE  (lv_sub hl [] rfl) hK hP hD hS hv
  · have hv := hv.2 c_1
    refine lv_iload_n hx hb d_ND_number_4 rfl (lv_at hl 2 rfl) ?_
    refine lv_ldc (v := (99999999 : Int32)) hx hb hown (ht _ zw_1237) d_ND_number_5 ?_
    refine lv_icmp_gt (tgt := 36) hx hb d_ND_number_7 (by decide) (fun c_2 => ?_) (fun c_2 => ?_)
    · have hv := hv.1 c_2
      exact b_ND_number_36 hc hA hE  (lv_sub hl [] rfl) hK hP hD hS hv
    · have hv := hv.2 c_2
      refine lv_iload_n hx hb d_ND_number_10 rfl (lv_at hl 3 rfl) ?_
      refine lv_if_lt (tgt := 36) hx hb d_ND_number_11 (by decide) (fun c_3 => ?_) (fun c_3 => ?_)
      · have hv := hv.1 c_3
        exact b_ND_number_36 hc hA hE  (lv_sub hl [] rfl) hK hP hD hS hv
      · have hv := hv.2 c_3
        refine lv_iload_n hx hb d_ND_number_14 rfl (lv_at hl 3 rfl) ?_
        refine lv_ldc (v := (999999999 : Int32)) hx hb hown (ht _ zw_1238) d_ND_number_15 ?_
        refine lv_icmp_gt (tgt := 36) hx hb d_ND_number_17 (by decide) (fun c_4 => ?_) (fun c_4 => ?_)
        · have hv := hv.1 c_4
          exact b_ND_number_36 hc hA hE  (lv_sub hl [] rfl) hK hP hD hS hv
        · have hv := hv.2 c_4
          refine lv_iload hx hb d_ND_number_20 (lv_at hl 4 rfl) ?_
          refine lv_sipush (v := (-350 : Int32)) hx hb d_ND_number_22 (by decide) ?_
          refine lv_icmp_lt (tgt := 36) hx hb d_ND_number_25 (by decide) (fun c_5 => ?_) (fun c_5 => ?_)
          · have hv := hv.1 c_5
            exact b_ND_number_36 hc hA hE  (lv_sub hl [] rfl) hK hP hD hS hv
          · have hv := hv.2 c_5
            refine lv_iload hx hb d_ND_number_28 (lv_at hl 4 rfl) ?_
            refine lv_sipush (v := (300 : Int32)) hx hb d_ND_number_30 (by decide) ?_
            refine lv_icmp_le (tgt := 46) hx hb d_ND_number_33 (by decide) (fun c_6 => ?_) (fun c_6 => ?_)
            · have hv := hv.1 c_6
              refine lv_aload_n hx hb d_ND_number_46 rfl (lv_at hl 0 rfl) ?_
              refine va_get (D := (dC, dI)) (ci := 0) (v := .ref h1) (C := "NumberDress") (T := T_ND) (N := 7) hx hb ht zin_ND hown hK hP 0 rfl rfl 4 (by decide) (ht _ zw_471) (fun _ h9 => h9) rfl d_ND_number_47 ?_
              refine lv_iload_n hx hb d_ND_number_50 rfl (lv_at hl 1 rfl) ?_
              refine lv_iload_n hx hb d_ND_number_51 rfl (lv_at hl 2 rfl) ?_
              refine lv_i2l (v := x2.toInt64) hx hb d_ND_number_52 rfl ?_
              refine lv_ldc2 (v := (1000000000 : Int64)) hx hb hown (ht _ zw_1240) d_ND_number_53 ?_
              refine lv_lmul hx hb d_ND_number_56 ?_
              refine lv_iload_n hx hb d_ND_number_57 rfl (lv_at hl 3 rfl) ?_
              refine lv_i2l (v := x3.toInt64) hx hb d_ND_number_58 rfl ?_
              refine lv_ladd hx hb d_ND_number_59 ?_
              refine lv_iload hx hb d_ND_number_60 (lv_at hl 4 rfl) ?_
              refine z_callv (wc := [(h1, .inr (11, o_Value I1 J1 a1_4))]) (wr := [(h0, .inr (0, o_ND I0 a0_0 a0_2 a0_3 h1 a0_5 h2)), (h2, .inr (6, o_Look I2 a2_0))]) [1] [0, 2] (va_runV (As := [.int x1, .long ((x2.toInt64 * (1000000000 : Int64)) + x3.toInt64), .int x4]) (rest := []) ⟨hx, hb, hml, hown, ht⟩ (m_Value_takeNumber l dC dI hv) ⟨(callB_of 3 ht (zG_in zi_Value_takeNumber) rfl rfl rfl (ht _ zw_114) (ht _ zw_1241) zh_Value_takeNumber ⟨Nat.le_of_ble_eq_true rfl, Nat.le_of_ble_eq_true rfl⟩), (ht _ zw_1242), (ht _ zw_1243)⟩ ⟨zPc_blind, va_recv hK hP (ci := 11) (q0 := 1) rfl rfl, zPc_pre hP hK hD hS hA hE [1] [] rfl rfl (by decide) rfl⟩ rfl rfl hl.1 rfl (lv_room (Nat.le_of_ble_eq_true rfl)) d_ND_number_62 ⟨Nat.le_of_ble_eq_true rfl, Nat.le_of_ble_eq_true rfl⟩) hP hD hS hA rfl rfl (by decide) (by decide) (fun u H locs hv hP hD hS => ?_)
              have hP : va_P (dC, dI) zCl [(h0, .inr (0, o_ND I0 a0_0 a0_2 a0_3 h1 a0_5 h2)), (h1, .inr (11, o_Value u.1 u.2 a1_4)), (h2, .inr (6, o_Look I2 a2_0))] H := hP.sub [0, 2, 1] rfl
              have hD : va_D A [(h0, .inr (0, o_ND I0 a0_0 a0_2 a0_3 h1 a0_5 h2)), (h1, .inr (11, o_Value u.1 u.2 a1_4)), (h2, .inr (6, o_Look I2 a2_0))] := hD.sub [0, 2, 1] (by decide) rfl
              exact b_ND_number_65 hc hA hE  (lv_sub hl [0] rfl) hK hP hD hS hv
            · have hv := hv.2 c_6
              exact b_ND_number_36 hc hA hE  (lv_sub hl [] rfl) hK hP hD hS hv
theorem zi_ND_number : Cond.code (⟨"NumberDress", "number", "(ZIII)V"⟩ : MethodName) prog_1_method_5_code 5 none ∈ zT := zw_1236
theorem zh_ND_number : (((⟨"NumberDress", "number", "(ZIII)V"⟩ : MethodName)).cls ≠ "java/lang/invoke/MethodHandle" ∧ ((⟨"NumberDress", "number", "(ZIII)V"⟩ : MethodName)).cls ≠ "java/lang/invoke/VarHandle" ∧ (parseMethodDescriptor ((⟨"NumberDress", "number", "(ZIII)V"⟩ : MethodName)).desc).map (fun d => d.parameters.length) = some 4) := by decide +kernel
set_option maxHeartbeats 4000000 in
set_option maxRecDepth 100000 in
theorem m_ND_number (l : Launch) (dC : Nat → ClassId) (dI : Nat → Nat → Nat) {gE : zG} {h0 : Nat} {a0_0 : Nat} {a0_2 : Nat} {a0_3 : Nat} {a0_5 : Nat} {h1 : Nat} {a1_4 : Nat} {h2 : Nat} {a2_0 : Nat} {I0 : Nat → Int32} {I1 : Nat → Int32} {J1 : Nat → Int64} {I2 : Nat → Int32} {x1 : Int32} {x2 : Int32} {x3 : Int32} {x4 : Int32} {sz : Nat} {Z : (Nat → Int32) × (Nat → Int64) × (Nat → Int32) → Prop} (hv : v_ND_number_0 I0 I1 J1 I2 x1 x2 x3 x4 Z) : Met l (⟨"NumberDress", "number", "(ZIII)V"⟩ : MethodName) (Cond.code (⟨"NumberDress", "number", "(ZIII)V"⟩ : MethodName) prog_1_method_5_code 5 none :: zT) { frames := 1, cells := 0, slots := 0, locals := 24 } (zPc gE (dC, dI) zCl [] [.ref h0, .int x1, .int x2, .int x3, .int x4] sz [(h0, .inr (0, o_ND I0 a0_0 a0_2 a0_3 h1 a0_5 h2)), (h1, .inr (11, o_Value I1 J1 a1_4)), (h2, .inr (6, o_Look I2 a2_0))]) (va_Qv Z (zB (dC, dI) zCl [] (va_A [(h0, .inr (0, o_ND I0 a0_0 a0_2 a0_3 h1 a0_5 h2)), (h1, .inr (11, o_Value I1 J1 a1_4)), (h2, .inr (6, o_Look I2 a2_0))] sz) (fun u : (Nat → Int32) × (Nat → Int64) × (Nat → Int32) => [(h0, .inr (0, o_ND I0 a0_0 a0_2 a0_3 h1 a0_5 h2)), (h1, .inr (11, o_Value u.1 u.2.1 a1_4)), (h2, .inr (6, o_Look u.2.2 a2_0))])) (va_A [(h0, .inr (0, o_ND I0 a0_0 a0_2 a0_3 h1 a0_5 h2)), (h1, .inr (11, o_Value I1 J1 a1_4)), (h2, .inr (6, o_Look I2 a2_0))] sz)) 0 0 (va_A [(h0, .inr (0, o_ND I0 a0_0 a0_2 a0_3 h1 a0_5 h2)), (h1, .inr (11, o_Value I1 J1 a1_4)), (h2, .inr (6, o_Look I2 a2_0))] sz) := by
  refine Met.ofW (cc := prog_1_method_5_code) (maxL := 5) (ret := none) (by decide +kernel) rfl ?_
  intro p e s m args below meth c s₁ B hml hp
  obtain ⟨rfl, hsz, hP, hK, hD0, hE⟩ := hp
  have hts := atoms_spec (ws := (Cond.code (⟨"NumberDress", "number", "(ZIII)V"⟩ : MethodName) prog_1_method_5_code 5 none :: zT)) B.pre
  have hown : s.vm.findClass "NumberDress" = some m.cls := findClass_of_methodNamed B.named
  have hc : zC p s m _ meth c prog_1_method_5_code none 5 "NumberDress" := ⟨B.exec, B.bytes, B.returns, hml, hown, fun w h => hts w (List.mem_cons_of_mem _ h), B.notSynchronized⟩
  subst hsz
  have hD := hD0.self (sz := s.heap.size)
  generalize hAe : va_A [(h0, .inr (0, o_ND I0 a0_0 a0_2 a0_3 h1 a0_5 h2)), (h1, .inr (11, o_Value I1 J1 a1_4)), (h2, .inr (6, o_Look I2 a2_0))] s.heap.size = A at hD hE ⊢
  have hA : ∀ q : Nat, s.heap.size ≤ q → A q := fun q h => by rw [← hAe]; exact Or.inr h
  have hl := lv_entry ([.ref h0, .int x1, .int x2, .int x3, .int x4]) (n := 5) (Nat.le_of_ble_eq_true rfl)
  rw [lg_entry_eq]
  exact b_ND_number_0 hc hA hE hl hK hP hD va_S.rf hv
theorem d_Value_takeText_0 : decode prog_12_method_3_code 0 = .ok (.aload_n 0, 1) := by decide +kernel
theorem d_Value_takeText_1 : decode prog_12_method_3_code 1 = .ok (.iconst 1, 1) := by decide +kernel
theorem d_Value_takeText_2 : decode prog_12_method_3_code 2 = .ok (.putfield 15, 3) := by decide +kernel
theorem d_Value_takeText_5 : decode prog_12_method_3_code 5 = .ok (.aload_n 0, 1) := by decide +kernel
theorem d_Value_takeText_6 : decode prog_12_method_3_code 6 = .ok (.iconst 0, 1) := by decide +kernel
theorem d_Value_takeText_7 : decode prog_12_method_3_code 7 = .ok (.putfield 30, 3) := by decide +kernel
theorem d_Value_takeText_10 : decode prog_12_method_3_code 10 = .ok (.iconst 0, 1) := by decide +kernel
theorem d_Value_takeText_11 : decode prog_12_method_3_code 11 = .ok (.istore_n 3, 1) := by decide +kernel
theorem d_Value_takeText_12 : decode prog_12_method_3_code 12 = .ok (.iload_n 3, 1) := by decide +kernel
theorem d_Value_takeText_13 : decode prog_12_method_3_code 13 = .ok (.iload_n 2, 1) := by decide +kernel
theorem d_Value_takeText_14 : decode prog_12_method_3_code 14 = .ok (.if_icmp .ge 43, 3) := by decide +kernel
theorem d_Value_takeText_17 : decode prog_12_method_3_code 17 = .ok (.iload_n 3, 1) := by decide +kernel
theorem d_Value_takeText_18 : decode prog_12_method_3_code 18 = .ok (.aload_n 1, 1) := by decide +kernel
theorem d_Value_takeText_19 : decode prog_12_method_3_code 19 = .ok (.arraylength, 1) := by decide +kernel
theorem d_Value_takeText_20 : decode prog_12_method_3_code 20 = .ok (.if_icmp .ge 37, 3) := by decide +kernel
theorem d_Value_takeText_23 : decode prog_12_method_3_code 23 = .ok (.iload_n 3, 1) := by decide +kernel
theorem d_Value_takeText_24 : decode prog_12_method_3_code 24 = .ok (.aload_n 0, 1) := by decide +kernel
theorem d_Value_takeText_25 : decode prog_12_method_3_code 25 = .ok (.getfield 9, 3) := by decide +kernel
theorem d_Value_takeText_28 : decode prog_12_method_3_code 28 = .ok (.arraylength, 1) := by decide +kernel
theorem d_Value_takeText_29 : decode prog_12_method_3_code 29 = .ok (.if_icmp .ge 28, 3) := by decide +kernel
theorem d_Value_takeText_32 : decode prog_12_method_3_code 32 = .ok (.aload_n 0, 1) := by decide +kernel
theorem d_Value_takeText_33 : decode prog_12_method_3_code 33 = .ok (.getfield 9, 3) := by decide +kernel
theorem d_Value_takeText_36 : decode prog_12_method_3_code 36 = .ok (.iload_n 3, 1) := by decide +kernel
theorem d_Value_takeText_37 : decode prog_12_method_3_code 37 = .ok (.aload_n 1, 1) := by decide +kernel
theorem d_Value_takeText_38 : decode prog_12_method_3_code 38 = .ok (.iload_n 3, 1) := by decide +kernel
theorem d_Value_takeText_39 : decode prog_12_method_3_code 39 = .ok (.caload, 1) := by decide +kernel
theorem d_Value_takeText_40 : decode prog_12_method_3_code 40 = .ok (.castore, 1) := by decide +kernel
theorem d_Value_takeText_41 : decode prog_12_method_3_code 41 = .ok (.aload_n 0, 1) := by decide +kernel
theorem d_Value_takeText_42 : decode prog_12_method_3_code 42 = .ok (.dup, 1) := by decide +kernel
theorem d_Value_takeText_43 : decode prog_12_method_3_code 43 = .ok (.getfield 30, 3) := by decide +kernel
theorem d_Value_takeText_46 : decode prog_12_method_3_code 46 = .ok (.iconst 1, 1) := by decide +kernel
theorem d_Value_takeText_47 : decode prog_12_method_3_code 47 = .ok (.iadd, 1) := by decide +kernel
theorem d_Value_takeText_48 : decode prog_12_method_3_code 48 = .ok (.putfield 30, 3) := by decide +kernel
theorem d_Value_takeText_51 : decode prog_12_method_3_code 51 = .ok (.iinc 3 1, 3) := by decide +kernel
theorem d_Value_takeText_54 : decode prog_12_method_3_code 54 = .ok (.goto (-42), 3) := by decide +kernel
theorem d_Value_takeText_57 : decode prog_12_method_3_code 57 = .ok (.return_, 1) := by decide +kernel
set_option maxHeartbeats 4000000 in
set_option maxRecDepth 100000 in
theorem b_Value_takeText_12 {h0 : Nat} {h1 : Nat} {cA1 : ClassId} {h2 : Nat} {cA2 : ClassId} {J0 : Nat → Int64} {n1 : Nat} {f1 : Nat → Int32} {n2 : Nat} {x2 : Int32}  {Z : (Nat → Int32) × (Nat → Int32) → Prop} (hc : zC p s m args meth c prog_12_method_3_code none 4 "NumberDress$Value") (hA : ∀ q : Nat, s.heap.size ≤ q → A q) (hE : zE gE A s) : ∀ (N : Nat) (I0 : Nat → Int32) (f2 : Nat → Int32) (x3 : Int32) (H : Heap) (locs : List Loc) (ls : Array Slot), lv_has ls 4 [(0, .ref h0), (1, .ref h1), (2, .int x2), (3, .int x3)] → va_K (dC, dI) zCl [(cA1, .char), (cA2, .char)] s → va_P (dC, dI) zCl [(h0, .inr (11, o_Value I0 J0 h2)), (h1, .inl (cA1, n1, .inl f1)), (h2, .inl (cA2, n2, .inl f2))] H → va_D A [(h0, .inr (11, o_Value I0 J0 h2)), (h1, .inl (cA1, n1, .inl f1)), (h2, .inl (cA2, n2, .inl f2))] → va_S A s.heap H locs → v_Value_takeText_12 J0 n1 f1 n2 x2  Z N I0 f2 x3 → W p l e (headSpec (Cond.code (⟨"NumberDress$Value", "takeText", "([CI)V"⟩ : MethodName) prog_12_method_3_code 4 none :: zT) { frames := 0, cells := 0, slots := 0, locals := 0 }).room s m args below meth c H locs 0 0 (MQ below (va_Qv Z (zB (dC, dI) zCl [(cA1, .char), (cA2, .char)] A (fun u : (Nat → Int32) × (Nat → Int32) => [(h0, .inr (11, o_Value u.1 J0 h2)), (h1, .inl (cA1, n1, .inl f1)), (h2, .inl (cA2, n2, .inl u.2))])) A) args s 0 0 A) (F0 m 12 ls []) := by
  obtain ⟨hx, hb, hr, hml, hown, ht, hlocks⟩ := id hc
  intro N
  induction N with
  | zero => intro I0 f2 x3 H locs ls hl hK hP hD hS hv; exact hv.elim
  | succ N hk12 =>
    intro I0 f2 x3 H locs ls hl hK hP hD hS hv
    unfold v_Value_takeText_12 at hv
    refine lv_iload_n hx hb d_Value_takeText_12 rfl (lv_at hl 3 rfl) ?_
    refine lv_iload_n hx hb d_Value_takeText_13 rfl (lv_at hl 2 rfl) ?_
    refine lv_icmp_ge (tgt := 57) hx hb d_Value_takeText_14 (by decide) (fun c_1 => ?_) (fun c_1 => ?_)
    · have hv := hv.1 c_1
      exact W.vret hx hb hr (fun t ht hW => ⟨⟨(I0, f2), rfl, hv, ⟨by rw [ht]; exact hP, va_K.moved hW.alike hK, hD⟩⟩, hS.F ht⟩) hS.2.2 d_Value_takeText_57
    · have hv := hv.2 c_1
      refine lv_iload_n hx hb d_Value_takeText_17 rfl (lv_at hl 3 rfl) ?_
      refine lv_aload_n hx hb d_Value_takeText_18 rfl (lv_at hl 1 rfl) ?_
      refine va_alen (v := (nI n1)) hx hb hK hP 1 0 rfl rfl rfl d_Value_takeText_19 ?_
      refine lv_icmp_ge (tgt := 57) hx hb d_Value_takeText_20 (by decide) (fun c_2 => ?_) (fun c_2 => ?_)
      · have hv := hv.1 c_2
        exact W.vret hx hb hr (fun t ht hW => ⟨⟨(I0, f2), rfl, hv, ⟨by rw [ht]; exact hP, va_K.moved hW.alike hK, hD⟩⟩, hS.F ht⟩) hS.2.2 d_Value_takeText_57
      · have hv := hv.2 c_2
        refine lv_iload_n hx hb d_Value_takeText_23 rfl (lv_at hl 3 rfl) ?_
        refine lv_aload_n hx hb d_Value_takeText_24 rfl (lv_at hl 0 rfl) ?_
        refine va_get (D := (dC, dI)) (ci := 11) (v := .ref h2) (C := "NumberDress$Value") (T := T_Value) (N := 6) hx hb ht zin_Value hown hK hP 0 rfl rfl 4 (by decide) (ht _ zw_308) (fun _ h9 => h9) rfl d_Value_takeText_25 ?_
        refine va_alen (v := (nI n2)) hx hb hK hP 2 1 rfl rfl rfl d_Value_takeText_28 ?_
        refine lv_icmp_ge (tgt := 57) hx hb d_Value_takeText_29 (by decide) (fun c_3 => ?_) (fun c_3 => ?_)
        · have hv := hv.1 c_3
          exact W.vret hx hb hr (fun t ht hW => ⟨⟨(I0, f2), rfl, hv, ⟨by rw [ht]; exact hP, va_K.moved hW.alike hK, hD⟩⟩, hS.F ht⟩) hS.2.2 d_Value_takeText_57
        · have hv := hv.2 c_3
          refine lv_aload_n hx hb d_Value_takeText_32 rfl (lv_at hl 0 rfl) ?_
          refine va_get (D := (dC, dI)) (ci := 11) (v := .ref h2) (C := "NumberDress$Value") (T := T_Value) (N := 6) hx hb ht zin_Value hown hK hP 0 rfl rfl 4 (by decide) (ht _ zw_308) (fun _ h9 => h9) rfl d_Value_takeText_33 ?_
          refine lv_iload_n hx hb d_Value_takeText_36 rfl (lv_at hl 3 rfl) ?_
          refine lv_aload_n hx hb d_Value_takeText_37 rfl (lv_at hl 1 rfl) ?_
          refine lv_iload_n hx hb d_Value_takeText_38 rfl (lv_at hl 3 rfl) ?_
          obtain ⟨q_4, hv⟩ := hv
          refine va_cald hx hb hK hP 1 0 rfl rfl q_4 d_Value_takeText_39 ?_
          obtain ⟨q_5, hv⟩ := hv
          refine va_cast hx hb hK hP hD hS 2 1 rfl rfl q_5 d_Value_takeText_40 (fun H locs hP hD hS => ?_)
          have hP : va_P (dC, dI) zCl [(h0, .inr (11, o_Value I0 J0 h2)), (h1, .inl (cA1, n1, .inl f1)), (h2, .inl (cA2, n2, .inl (upd f2 x3.toNatClampNeg (vp_nar .char (f1 x3.toNatClampNeg)))))] H := hP
          have hD : va_D A [(h0, .inr (11, o_Value I0 J0 h2)), (h1, .inl (cA1, n1, .inl f1)), (h2, .inl (cA2, n2, .inl (upd f2 x3.toNatClampNeg (vp_nar .char (f1 x3.toNatClampNeg)))))] := hD
          refine lv_aload_n hx hb d_Value_takeText_41 rfl (lv_at hl 0 rfl) ?_
          refine lv_dup hx hb d_Value_takeText_42 rfl ?_
          refine va_get (D := (dC, dI)) (ci := 11) (v := .int (I0 5)) (C := "NumberDress$Value") (T := T_Value) (N := 6) hx hb ht zin_Value hown hK hP 0 rfl rfl 5 (by decide) (ht _ zw_310) (fun _ h9 => h9) rfl d_Value_takeText_43 ?_
          refine lv_iconst (v := (1 : Int32)) hx hb d_Value_takeText_46 (by decide) ?_
          refine lv_iadd hx hb d_Value_takeText_47 ?_
          refine va_put (D := (dC, dI)) (ci := 11) (v := .int ((I0 5) + (1 : Int32))) (ty := .int) (C := "NumberDress$Value") (T := T_Value) (N := 6) hx hb ht zin_Value ty_Value tyok_Value nm_Value hown hK hP hD hS 0 rfl rfl 5 (by decide) (ht _ zw_310) (fun _ h9 => h9) rfl (by decide +kernel) rfl rfl (Nat.le_of_ble_eq_true rfl) d_Value_takeText_48 (fun H locs hP hD hS => ?_)
          have hP : va_P (dC, dI) zCl [(h0, .inr (11, o_Value (zu I0 5 ((I0 5) + (1 : Int32))) J0 h2)), (h1, .inl (cA1, n1, .inl f1)), (h2, .inl (cA2, n2, .inl (upd f2 x3.toNatClampNeg (vp_nar .char (f1 x3.toNatClampNeg)))))] H := hP
          have hD : va_D A [(h0, .inr (11, o_Value (zu I0 5 ((I0 5) + (1 : Int32))) J0 h2)), (h1, .inl (cA1, n1, .inl f1)), (h2, .inl (cA2, n2, .inl (upd f2 x3.toNatClampNeg (vp_nar .char (f1 x3.toNatClampNeg)))))] := hD
          refine lv_iinc (v := (x3 + (1 : Int32))) (lv' := [(3, .int (x3 + (1 : Int32))), (0, .ref h0), (1, .ref h1), (2, .int x2)]) hx hb d_Value_takeText_51 hl (k := 3) rfl rfl (by decide) rfl (fun ls hl => ?_)
          refine lv_goto (tgt := 12) hx hb d_Value_takeText_54 (by decide) ?_
          exact hk12 (zu I0 5 ((I0 5) + (1 : Int32))) (upd f2 x3.toNatClampNeg (vp_nar .char (f1 x3.toNatClampNeg))) (x3 + (1 : Int32)) _ _ _ (lv_sub hl [1, 2, 3, 0] rfl) hK hP hD hS hv
set_option maxHeartbeats 4000000 in
set_option maxRecDepth 100000 in
theorem b_Value_takeText_0 {h0 : Nat} {h1 : Nat} {cA1 : ClassId} {h2 : Nat} {cA2 : ClassId} {I0 : Nat → Int32} {J0 : Nat → Int64} {n1 : Nat} {f1 : Nat → Int32} {n2 : Nat} {f2 : Nat → Int32} {x2 : Int32}  {Z : (Nat → Int32) × (Nat → Int32) → Prop} {H : Heap} {locs : List Loc} {ls : Array Slot} (hc : zC p s m args meth c prog_12_method_3_code none 4 "NumberDress$Value") (hA : ∀ q : Nat, s.heap.size ≤ q → A q) (hE : zE gE A s) (hl : lv_has ls 4 [(0, .ref h0), (1, .ref h1), (2, .int x2)]) (hK : va_K (dC, dI) zCl [(cA1, .char), (cA2, .char)] s) (hP : va_P (dC, dI) zCl [(h0, .inr (11, o_Value I0 J0 h2)), (h1, .inl (cA1, n1, .inl f1)), (h2, .inl (cA2, n2, .inl f2))] H) (hD : va_D A [(h0, .inr (11, o_Value I0 J0 h2)), (h1, .inl (cA1, n1, .inl f1)), (h2, .inl (cA2, n2, .inl f2))]) (hS : va_S A s.heap H locs) (hv : v_Value_takeText_0 I0 J0 n1 f1 n2 f2 x2  Z) : W p l e (headSpec (Cond.code (⟨"NumberDress$Value", "takeText", "([CI)V"⟩ : MethodName) prog_12_method_3_code 4 none :: zT) { frames := 0, cells := 0, slots := 0, locals := 0 }).room s m args below meth c H locs 0 0 (MQ below (va_Qv Z (zB (dC, dI) zCl [(cA1, .char), (cA2, .char)] A (fun u : (Nat → Int32) × (Nat → Int32) => [(h0, .inr (11, o_Value u.1 J0 h2)), (h1, .inl (cA1, n1, .inl f1)), (h2, .inl (cA2, n2, .inl u.2))])) A) args s 0 0 A) (F0 m 0 ls []) := by
  obtain ⟨hx, hb, hr, hml, hown, ht, hlocks⟩ := id hc
  unfold v_Value_takeText_0 at hv
  refine lv_aload_n hx hb d_Value_takeText_0 rfl (lv_at hl 0 rfl) ?_
  refine lv_iconst (v := (1 : Int32)) hx hb d_Value_takeText_1 (by decide) ?_
  refine va_put (D := (dC, dI)) (ci := 11) (v := .int (1 : Int32)) (ty := .boolean) (C := "NumberDress$Value") (T := T_Value) (N := 6) hx hb ht zin_Value ty_Value tyok_Value nm_Value hown hK hP hD hS 0 rfl rfl 0 (by decide) (ht _ zw_293) (fun _ h9 => h9) rfl (by decide +kernel) (by decide) (by decide) (Nat.le_of_ble_eq_true rfl) d_Value_takeText_2 (fun H locs hP hD hS => ?_)
  have hP : va_P (dC, dI) zCl [(h0, .inr (11, o_Value (zu I0 0 (1 : Int32)) J0 h2)), (h1, .inl (cA1, n1, .inl f1)), (h2, .inl (cA2, n2, .inl f2))] H := hP
  have hD : va_D A [(h0, .inr (11, o_Value (zu I0 0 (1 : Int32)) J0 h2)), (h1, .inl (cA1, n1, .inl f1)), (h2, .inl (cA2, n2, .inl f2))] := hD
  refine lv_aload_n hx hb d_Value_takeText_5 rfl (lv_at hl 0 rfl) ?_
  refine lv_iconst (v := (0 : Int32)) hx hb d_Value_takeText_6 (by decide) ?_
  refine va_put (D := (dC, dI)) (ci := 11) (v := .int (0 : Int32)) (ty := .int) (C := "NumberDress$Value") (T := T_Value) (N := 6) hx hb ht zin_Value ty_Value tyok_Value nm_Value hown hK hP hD hS 0 rfl rfl 5 (by decide) (ht _ zw_310) (fun _ h9 => h9) rfl (by decide +kernel) rfl rfl (Nat.le_of_ble_eq_true rfl) d_Value_takeText_7 (fun H locs hP hD hS => ?_)
  have hP : va_P (dC, dI) zCl [(h0, .inr (11, o_Value (zu (zu I0 0 (1 : Int32)) 5 (0 : Int32)) J0 h2)), (h1, .inl (cA1, n1, .inl f1)), (h2, .inl (cA2, n2, .inl f2))] H := hP
  have hD : va_D A [(h0, .inr (11, o_Value (zu (zu I0 0 (1 : Int32)) 5 (0 : Int32)) J0 h2)), (h1, .inl (cA1, n1, .inl f1)), (h2, .inl (cA2, n2, .inl f2))] := hD
  refine lv_iconst (v := (0 : Int32)) hx hb d_Value_takeText_10 (by decide) ?_
  refine lv_istore_n (lv' := [(3, .int (0 : Int32)), (0, .ref h0), (1, .ref h1), (2, .int x2)]) hx hb d_Value_takeText_11 rfl hl (by decide) rfl (fun ls hl => ?_)
  obtain ⟨Nx, hv⟩ := hv
  exact b_Value_takeText_12 hc hA hE  Nx (zu (zu I0 0 (1 : Int32)) 5 (0 : Int32)) f2 (0 : Int32) _ _ _ (lv_sub hl [1, 2, 3, 0] rfl) hK hP hD hS hv
theorem zi_Value_takeText : Cond.code (⟨"NumberDress$Value", "takeText", "([CI)V"⟩ : MethodName) prog_12_method_3_code 4 none ∈ zT := zw_829
theorem zh_Value_takeText : (((⟨"NumberDress$Value", "takeText", "([CI)V"⟩ : MethodName)).cls ≠ "java/lang/invoke/MethodHandle" ∧ ((⟨"NumberDress$Value", "takeText", "([CI)V"⟩ : MethodName)).cls ≠ "java/lang/invoke/VarHandle" ∧ (parseMethodDescriptor ((⟨"NumberDress$Value", "takeText", "([CI)V"⟩ : MethodName)).desc).map (fun d => d.parameters.length) = some 2) := by decide +kernel
set_option maxHeartbeats 4000000 in
set_option maxRecDepth 100000 in
theorem m_Value_takeText (l : Launch) (dC : Nat → ClassId) (dI : Nat → Nat → Nat) {gE : zG} {h0 : Nat} {h1 : Nat} {cA1 : ClassId} {h2 : Nat} {cA2 : ClassId} {I0 : Nat → Int32} {J0 : Nat → Int64} {n1 : Nat} {f1 : Nat → Int32} {n2 : Nat} {f2 : Nat → Int32} {x2 : Int32} {sz : Nat} {Z : (Nat → Int32) × (Nat → Int32) → Prop} (hv : v_Value_takeText_0 I0 J0 n1 f1 n2 f2 x2 Z) : Met l (⟨"NumberDress$Value", "takeText", "([CI)V"⟩ : MethodName) (Cond.code (⟨"NumberDress$Value", "takeText", "([CI)V"⟩ : MethodName) prog_12_method_3_code 4 none :: zT) { frames := 0, cells := 0, slots := 0, locals := 0 } (zPc gE (dC, dI) zCl [(cA1, .char), (cA2, .char)] [.ref h0, .ref h1, .int x2] sz [(h0, .inr (11, o_Value I0 J0 h2)), (h1, .inl (cA1, n1, .inl f1)), (h2, .inl (cA2, n2, .inl f2))]) (va_Qv Z (zB (dC, dI) zCl [(cA1, .char), (cA2, .char)] (va_A [(h0, .inr (11, o_Value I0 J0 h2)), (h1, .inl (cA1, n1, .inl f1)), (h2, .inl (cA2, n2, .inl f2))] sz) (fun u : (Nat → Int32) × (Nat → Int32) => [(h0, .inr (11, o_Value u.1 J0 h2)), (h1, .inl (cA1, n1, .inl f1)), (h2, .inl (cA2, n2, .inl u.2))])) (va_A [(h0, .inr (11, o_Value I0 J0 h2)), (h1, .inl (cA1, n1, .inl f1)), (h2, .inl (cA2, n2, .inl f2))] sz)) 0 0 (va_A [(h0, .inr (11, o_Value I0 J0 h2)), (h1, .inl (cA1, n1, .inl f1)), (h2, .inl (cA2, n2, .inl f2))] sz) := by
  refine Met.ofW (cc := prog_12_method_3_code) (maxL := 4) (ret := none) (by decide +kernel) rfl ?_
  intro p e s m args below meth c s₁ B hml hp
  obtain ⟨rfl, hsz, hP, hK, hD0, hE⟩ := hp
  have hts := atoms_spec (ws := (Cond.code (⟨"NumberDress$Value", "takeText", "([CI)V"⟩ : MethodName) prog_12_method_3_code 4 none :: zT)) B.pre
  have hown : s.vm.findClass "NumberDress$Value" = some m.cls := findClass_of_methodNamed B.named
  have hc : zC p s m _ meth c prog_12_method_3_code none 4 "NumberDress$Value" := ⟨B.exec, B.bytes, B.returns, hml, hown, fun w h => hts w (List.mem_cons_of_mem _ h), B.notSynchronized⟩
  subst hsz
  have hD := hD0.self (sz := s.heap.size)
  generalize hAe : va_A [(h0, .inr (11, o_Value I0 J0 h2)), (h1, .inl (cA1, n1, .inl f1)), (h2, .inl (cA2, n2, .inl f2))] s.heap.size = A at hD hE ⊢
  have hA : ∀ q : Nat, s.heap.size ≤ q → A q := fun q h => by rw [← hAe]; exact Or.inr h
  have hl := lv_entry ([.ref h0, .ref h1, .int x2]) (n := 4) (Nat.le_of_ble_eq_true rfl)
  rw [lg_entry_eq]
  exact b_Value_takeText_0 hc hA hE hl hK hP hD va_S.rf hv
theorem d_ND_text_0 : decode prog_1_method_6_code 0 = .ok (.aload_n 0, 1) := by decide +kernel
theorem d_ND_text_1 : decode prog_1_method_6_code 1 = .ok (.getfield 30, 3) := by decide +kernel
theorem d_ND_text_4 : decode prog_1_method_6_code 4 = .ok (.aload_n 0, 1) := by decide +kernel
theorem d_ND_text_5 : decode prog_1_method_6_code 5 = .ok (.getfield 9, 3) := by decide +kernel
theorem d_ND_text_8 : decode prog_1_method_6_code 8 = .ok (.aload_n 0, 1) := by decide +kernel
theorem d_ND_text_9 : decode prog_1_method_6_code 9 = .ok (.getfield 55, 3) := by decide +kernel
theorem d_ND_text_12 : decode prog_1_method_6_code 12 = .ok (.invokevirtual 86, 3) := by decide +kernel
theorem d_ND_text_15 : decode prog_1_method_6_code 15 = .ok (.aload_n 0, 1) := by decide +kernel
theorem d_ND_text_16 : decode prog_1_method_6_code 16 = .ok (.getfield 44, 3) := by decide +kernel
theorem d_ND_text_19 : decode prog_1_method_6_code 19 = .ok (.iconst 0, 1) := by decide +kernel
theorem d_ND_text_20 : decode prog_1_method_6_code 20 = .ok (.putfield 72, 3) := by decide +kernel
theorem d_ND_text_23 : decode prog_1_method_6_code 23 = .ok (.return_, 1) := by decide +kernel
set_option maxHeartbeats 4000000 in
set_option maxRecDepth 100000 in
theorem b_ND_text_15 {h0 : Nat} {a0_2 : Nat} {a0_3 : Nat} {a0_5 : Nat} {h1 : Nat} {h2 : Nat} {cA2 : ClassId} {h3 : Nat} {cA3 : ClassId} {h4 : Nat} {a4_0 : Nat} {I0 : Nat → Int32} {I1 : Nat → Int32} {J1 : Nat → Int64} {n2 : Nat} {f2 : Nat → Int32} {n3 : Nat} {f3 : Nat → Int32} {I4 : Nat → Int32}  {Z : (Nat → Int32) × (Nat → Int32) × (Nat → Int32) → Prop} {H : Heap} {locs : List Loc} {ls : Array Slot} (hc : zC p s m args meth c prog_1_method_6_code none 1 "NumberDress") (hA : ∀ q : Nat, s.heap.size ≤ q → A q) (hE : zE gE A s) (hl : lv_has ls 1 [(0, .ref h0)]) (hK : va_K (dC, dI) zCl [(cA2, .char), (cA3, .char)] s) (hP : va_P (dC, dI) zCl [(h0, .inr (0, o_ND I0 h2 a0_2 a0_3 h1 a0_5 h4)), (h1, .inr (11, o_Value I1 J1 h3)), (h2, .inl (cA2, n2, .inl f2)), (h3, .inl (cA3, n3, .inl f3)), (h4, .inr (6, o_Look I4 a4_0))] H) (hD : va_D A [(h0, .inr (0, o_ND I0 h2 a0_2 a0_3 h1 a0_5 h4)), (h1, .inr (11, o_Value I1 J1 h3)), (h2, .inl (cA2, n2, .inl f2)), (h3, .inl (cA3, n3, .inl f3)), (h4, .inr (6, o_Look I4 a4_0))]) (hS : va_S A s.heap H locs) (hv : v_ND_text_15 I0 I1 J1 n2 f2 n3 f3 I4  Z) : W p l e (headSpec (Cond.code (⟨"NumberDress", "text", "()V"⟩ : MethodName) prog_1_method_6_code 1 none :: zT) { frames := 1, cells := 0, slots := 0, locals := 23 }).room s m args below meth c H locs 0 0 (MQ below (va_Qv Z (zB (dC, dI) zCl [(cA2, .char), (cA3, .char)] A (fun u : (Nat → Int32) × (Nat → Int32) × (Nat → Int32) => [(h0, .inr (0, o_ND I0 h2 a0_2 a0_3 h1 a0_5 h4)), (h1, .inr (11, o_Value u.1 J1 h3)), (h2, .inl (cA2, n2, .inl f2)), (h3, .inl (cA3, n3, .inl u.2.1)), (h4, .inr (6, o_Look u.2.2 a4_0))])) A) args s 0 0 A) (F0 m 15 ls []) := by
  obtain ⟨hx, hb, hr, hml, hown, ht, hlocks⟩ := id hc
  unfold v_ND_text_15 at hv
  refine lv_aload_n hx hb d_ND_text_15 rfl (lv_at hl 0 rfl) ?_
  refine va_get (D := (dC, dI)) (ci := 0) (v := .ref h4) (C := "NumberDress") (T := T_ND) (N := 7) hx hb ht zin_ND hown hK hP 0 rfl rfl 6 (by decide) (ht _ zw_473) (fun _ h9 => h9) rfl d_ND_text_16 ?_
  refine lv_iconst (v := (0 : Int32)) hx hb d_ND_text_19 (by decide) ?_
  refine va_put (D := (dC, dI)) (ci := 6) (v := .int (0 : Int32)) (ty := .boolean) (C := "NumberDress$Look") (T := T_Look) (N := 3) hx hb ht zin_Look ty_Look tyok_Look nm_Look hown hK hP hD hS 4 rfl rfl 2 (by decide) (ht _ zw_459) (fun _ h9 => h9) rfl (by decide +kernel) (by decide) (by decide) (Nat.le_of_ble_eq_true rfl) d_ND_text_20 (fun H locs hP hD hS => ?_)
  have hP : va_P (dC, dI) zCl [(h0, .inr (0, o_ND I0 h2 a0_2 a0_3 h1 a0_5 h4)), (h1, .inr (11, o_Value I1 J1 h3)), (h2, .inl (cA2, n2, .inl f2)), (h3, .inl (cA3, n3, .inl f3)), (h4, .inr (6, o_Look (zu I4 2 (0 : Int32)) a4_0))] H := hP
  have hD : va_D A [(h0, .inr (0, o_ND I0 h2 a0_2 a0_3 h1 a0_5 h4)), (h1, .inr (11, o_Value I1 J1 h3)), (h2, .inl (cA2, n2, .inl f2)), (h3, .inl (cA3, n3, .inl f3)), (h4, .inr (6, o_Look (zu I4 2 (0 : Int32)) a4_0))] := hD
  exact W.vret hx hb hr (fun t ht hW => ⟨⟨(I1, f3, (zu I4 2 (0 : Int32))), rfl, hv, ⟨by rw [ht]; exact hP, va_K.moved hW.alike hK, hD⟩⟩, hS.F ht⟩) hS.2.2 d_ND_text_23
set_option maxHeartbeats 4000000 in
set_option maxRecDepth 100000 in
theorem b_ND_text_0 {h0 : Nat} {a0_2 : Nat} {a0_3 : Nat} {a0_5 : Nat} {h1 : Nat} {h2 : Nat} {cA2 : ClassId} {h3 : Nat} {cA3 : ClassId} {h4 : Nat} {a4_0 : Nat} {I0 : Nat → Int32} {I1 : Nat → Int32} {J1 : Nat → Int64} {n2 : Nat} {f2 : Nat → Int32} {n3 : Nat} {f3 : Nat → Int32} {I4 : Nat → Int32}  {Z : (Nat → Int32) × (Nat → Int32) × (Nat → Int32) → Prop} {H : Heap} {locs : List Loc} {ls : Array Slot} (hc : zC p s m args meth c prog_1_method_6_code none 1 "NumberDress") (hA : ∀ q : Nat, s.heap.size ≤ q → A q) (hE : zE gE A s) (hl : lv_has ls 1 [(0, .ref h0)]) (hK : va_K (dC, dI) zCl [(cA2, .char), (cA3, .char)] s) (hP : va_P (dC, dI) zCl [(h0, .inr (0, o_ND I0 h2 a0_2 a0_3 h1 a0_5 h4)), (h1, .inr (11, o_Value I1 J1 h3)), (h2, .inl (cA2, n2, .inl f2)), (h3, .inl (cA3, n3, .inl f3)), (h4, .inr (6, o_Look I4 a4_0))] H) (hD : va_D A [(h0, .inr (0, o_ND I0 h2 a0_2 a0_3 h1 a0_5 h4)), (h1, .inr (11, o_Value I1 J1 h3)), (h2, .inl (cA2, n2, .inl f2)), (h3, .inl (cA3, n3, .inl f3)), (h4, .inr (6, o_Look I4 a4_0))]) (hS : va_S A s.heap H locs) (hv : v_ND_text_0 I0 I1 J1 n2 f2 n3 f3 I4  Z) : W p l e (headSpec (Cond.code (⟨"NumberDress", "text", "()V"⟩ : MethodName) prog_1_method_6_code 1 none :: zT) { frames := 1, cells := 0, slots := 0, locals := 23 }).room s m args below meth c H locs 0 0 (MQ below (va_Qv Z (zB (dC, dI) zCl [(cA2, .char), (cA3, .char)] A (fun u : (Nat → Int32) × (Nat → Int32) × (Nat → Int32) => [(h0, .inr (0, o_ND I0 h2 a0_2 a0_3 h1 a0_5 h4)), (h1, .inr (11, o_Value u.1 J1 h3)), (h2, .inl (cA2, n2, .inl f2)), (h3, .inl (cA3, n3, .inl u.2.1)), (h4, .inr (6, o_Look u.2.2 a4_0))])) A) args s 0 0 A) (F0 m 0 ls []) := by
  obtain ⟨hx, hb, hr, hml, hown, ht, hlocks⟩ := id hc
  unfold v_ND_text_0 at hv
  refine lv_aload_n hx hb d_ND_text_0 rfl (lv_at hl 0 rfl) ?_
  refine va_get (D := (dC, dI)) (ci := 0) (v := .ref h1) (C := "NumberDress") (T := T_ND) (N := 7) hx hb ht zin_ND hown hK hP 0 rfl rfl 4 (by decide) (ht _ zw_471) (fun _ h9 => h9) rfl d_ND_text_1 ?_
  refine lv_aload_n hx hb d_ND_text_4 rfl (lv_at hl 0 rfl) ?_
  refine va_get (D := (dC, dI)) (ci := 0) (v := .ref h2) (C := "NumberDress") (T := T_ND) (N := 7) hx hb ht zin_ND hown hK hP 0 rfl rfl 0 (by decide) (ht _ zw_467) (fun _ h9 => h9) rfl d_ND_text_5 ?_
  refine lv_aload_n hx hb d_ND_text_8 rfl (lv_at hl 0 rfl) ?_
  refine va_get (D := (dC, dI)) (ci := 0) (v := .int (I0 1)) (C := "NumberDress") (T := T_ND) (N := 7) hx hb ht zin_ND hown hK hP 0 rfl rfl 1 (by decide) (ht _ zw_468) (fun _ h9 => h9) rfl d_ND_text_9 ?_
  refine z_callv (wc := [(h1, .inr (11, o_Value I1 J1 h3)), (h2, .inl (cA2, n2, .inl f2)), (h3, .inl (cA3, n3, .inl f3))]) (wr := [(h0, .inr (0, o_ND I0 h2 a0_2 a0_3 h1 a0_5 h4)), (h4, .inr (6, o_Look I4 a4_0))]) [1, 2, 3] [0, 4] (va_runV (As := [.ref h2, .int (I0 1)]) (rest := []) ⟨hx, hb, hml, hown, ht⟩ (m_Value_takeText l dC dI hv) ⟨(callB_of 2 ht (zG_in zi_Value_takeText) rfl rfl rfl (ht _ zw_114) (ht _ zw_826) zh_Value_takeText ⟨Nat.le_of_ble_eq_true rfl, Nat.le_of_ble_eq_true rfl⟩), (ht _ zw_827), (ht _ zw_828)⟩ ⟨zPc_blind, va_recv hK hP (ci := 11) (q0 := 1) rfl rfl, zPc_pre hP hK hD hS hA hE [1, 2, 3] [0, 1] rfl rfl (by decide) rfl⟩ rfl rfl hl.1 rfl (lv_room (Nat.le_of_ble_eq_true rfl)) d_ND_text_12 ⟨Nat.le_of_ble_eq_true rfl, Nat.le_of_ble_eq_true rfl⟩) hP hD hS hA rfl rfl (by decide) (by decide) (fun u H locs hv hP hD hS => ?_)
  have hP : va_P (dC, dI) zCl [(h0, .inr (0, o_ND I0 h2 a0_2 a0_3 h1 a0_5 h4)), (h1, .inr (11, o_Value u.1 J1 h3)), (h2, .inl (cA2, n2, .inl f2)), (h3, .inl (cA3, n3, .inl u.2)), (h4, .inr (6, o_Look I4 a4_0))] H := hP.sub [0, 2, 3, 4, 1] rfl
  have hD : va_D A [(h0, .inr (0, o_ND I0 h2 a0_2 a0_3 h1 a0_5 h4)), (h1, .inr (11, o_Value u.1 J1 h3)), (h2, .inl (cA2, n2, .inl f2)), (h3, .inl (cA3, n3, .inl u.2)), (h4, .inr (6, o_Look I4 a4_0))] := hD.sub [0, 2, 3, 4, 1] (by decide) rfl
  exact b_ND_text_15 hc hA hE  (lv_sub hl [0] rfl) hK hP hD hS hv
theorem zi_ND_text : Cond.code (⟨"NumberDress", "text", "()V"⟩ : MethodName) prog_1_method_6_code 1 none ∈ zT := zw_825
theorem zh_ND_text : (((⟨"NumberDress", "text", "()V"⟩ : MethodName)).cls ≠ "java/lang/invoke/MethodHandle" ∧ ((⟨"NumberDress", "text", "()V"⟩ : MethodName)).cls ≠ "java/lang/invoke/VarHandle" ∧ (parseMethodDescriptor ((⟨"NumberDress", "text", "()V"⟩ : MethodName)).desc).map (fun d => d.parameters.length) = some 0) := by decide +kernel
set_option maxHeartbeats 4000000 in
set_option maxRecDepth 100000 in
theorem m_ND_text (l : Launch) (dC : Nat → ClassId) (dI : Nat → Nat → Nat) {gE : zG} {h0 : Nat} {a0_2 : Nat} {a0_3 : Nat} {a0_5 : Nat} {h1 : Nat} {h2 : Nat} {cA2 : ClassId} {h3 : Nat} {cA3 : ClassId} {h4 : Nat} {a4_0 : Nat} {I0 : Nat → Int32} {I1 : Nat → Int32} {J1 : Nat → Int64} {n2 : Nat} {f2 : Nat → Int32} {n3 : Nat} {f3 : Nat → Int32} {I4 : Nat → Int32} {sz : Nat} {Z : (Nat → Int32) × (Nat → Int32) × (Nat → Int32) → Prop} (hv : v_ND_text_0 I0 I1 J1 n2 f2 n3 f3 I4 Z) : Met l (⟨"NumberDress", "text", "()V"⟩ : MethodName) (Cond.code (⟨"NumberDress", "text", "()V"⟩ : MethodName) prog_1_method_6_code 1 none :: zT) { frames := 1, cells := 0, slots := 0, locals := 23 } (zPc gE (dC, dI) zCl [(cA2, .char), (cA3, .char)] [.ref h0] sz [(h0, .inr (0, o_ND I0 h2 a0_2 a0_3 h1 a0_5 h4)), (h1, .inr (11, o_Value I1 J1 h3)), (h2, .inl (cA2, n2, .inl f2)), (h3, .inl (cA3, n3, .inl f3)), (h4, .inr (6, o_Look I4 a4_0))]) (va_Qv Z (zB (dC, dI) zCl [(cA2, .char), (cA3, .char)] (va_A [(h0, .inr (0, o_ND I0 h2 a0_2 a0_3 h1 a0_5 h4)), (h1, .inr (11, o_Value I1 J1 h3)), (h2, .inl (cA2, n2, .inl f2)), (h3, .inl (cA3, n3, .inl f3)), (h4, .inr (6, o_Look I4 a4_0))] sz) (fun u : (Nat → Int32) × (Nat → Int32) × (Nat → Int32) => [(h0, .inr (0, o_ND I0 h2 a0_2 a0_3 h1 a0_5 h4)), (h1, .inr (11, o_Value u.1 J1 h3)), (h2, .inl (cA2, n2, .inl f2)), (h3, .inl (cA3, n3, .inl u.2.1)), (h4, .inr (6, o_Look u.2.2 a4_0))])) (va_A [(h0, .inr (0, o_ND I0 h2 a0_2 a0_3 h1 a0_5 h4)), (h1, .inr (11, o_Value I1 J1 h3)), (h2, .inl (cA2, n2, .inl f2)), (h3, .inl (cA3, n3, .inl f3)), (h4, .inr (6, o_Look I4 a4_0))] sz)) 0 0 (va_A [(h0, .inr (0, o_ND I0 h2 a0_2 a0_3 h1 a0_5 h4)), (h1, .inr (11, o_Value I1 J1 h3)), (h2, .inl (cA2, n2, .inl f2)), (h3, .inl (cA3, n3, .inl f3)), (h4, .inr (6, o_Look I4 a4_0))] sz) := by
  refine Met.ofW (cc := prog_1_method_6_code) (maxL := 1) (ret := none) (by decide +kernel) rfl ?_
  intro p e s m args below meth c s₁ B hml hp
  obtain ⟨rfl, hsz, hP, hK, hD0, hE⟩ := hp
  have hts := atoms_spec (ws := (Cond.code (⟨"NumberDress", "text", "()V"⟩ : MethodName) prog_1_method_6_code 1 none :: zT)) B.pre
  have hown : s.vm.findClass "NumberDress" = some m.cls := findClass_of_methodNamed B.named
  have hc : zC p s m _ meth c prog_1_method_6_code none 1 "NumberDress" := ⟨B.exec, B.bytes, B.returns, hml, hown, fun w h => hts w (List.mem_cons_of_mem _ h), B.notSynchronized⟩
  subst hsz
  have hD := hD0.self (sz := s.heap.size)
  generalize hAe : va_A [(h0, .inr (0, o_ND I0 h2 a0_2 a0_3 h1 a0_5 h4)), (h1, .inr (11, o_Value I1 J1 h3)), (h2, .inl (cA2, n2, .inl f2)), (h3, .inl (cA3, n3, .inl f3)), (h4, .inr (6, o_Look I4 a4_0))] s.heap.size = A at hD hE ⊢
  have hA : ∀ q : Nat, s.heap.size ≤ q → A q := fun q h => by rw [← hAe]; exact Or.inr h
  have hl := lv_entry ([.ref h0]) (n := 1) (Nat.le_of_ble_eq_true rfl)
  rw [lg_entry_eq]
  exact b_ND_text_0 hc hA hE hl hK hP hD va_S.rf hv
theorem d_Code_section_0 : decode prog_2_method_4_code 0 = .ok (.iload_n 1, 1) := by decide +kernel
theorem d_Code_section_1 : decode prog_2_method_4_code 1 = .ok (.ifCond .lt 29, 3) := by decide +kernel
theorem d_Code_section_4 : decode prog_2_method_4_code 4 = .ok (.iload_n 1, 1) := by decide +kernel
theorem d_Code_section_5 : decode prog_2_method_4_code 5 = .ok (.aload_n 0, 1) := by decide +kernel
theorem d_Code_section_6 : decode prog_2_method_4_code 6 = .ok (.getfield 17, 3) := by decide +kernel
theorem d_Code_section_9 : decode prog_2_method_4_code 9 = .ok (.if_icmp .ge 21, 3) := by decide +kernel
theorem d_Code_section_12 : decode prog_2_method_4_code 12 = .ok (.iload_n 1, 1) := by decide +kernel
theorem d_Code_section_13 : decode prog_2_method_4_code 13 = .ok (.aload_n 0, 1) := by decide +kernel
theorem d_Code_section_14 : decode prog_2_method_4_code 14 = .ok (.getfield 11, 3) := by decide +kernel
theorem d_Code_section_17 : decode prog_2_method_4_code 17 = .ok (.arraylength, 1) := by decide +kernel
theorem d_Code_section_18 : decode prog_2_method_4_code 18 = .ok (.if_icmp .ge 12, 3) := by decide +kernel
theorem d_Code_section_21 : decode prog_2_method_4_code 21 = .ok (.aload_n 0, 1) := by decide +kernel
theorem d_Code_section_22 : decode prog_2_method_4_code 22 = .ok (.getfield 11, 3) := by decide +kernel
theorem d_Code_section_25 : decode prog_2_method_4_code 25 = .ok (.iload_n 1, 1) := by decide +kernel
theorem d_Code_section_26 : decode prog_2_method_4_code 26 = .ok (.aaload, 1) := by decide +kernel
theorem d_Code_section_27 : decode prog_2_method_4_code 27 = .ok (.goto 4, 3) := by decide +kernel
theorem d_Code_section_30 : decode prog_2_method_4_code 30 = .ok (.aconst_null, 1) := by decide +kernel
theorem d_Code_section_31 : decode prog_2_method_4_code 31 = .ok (.areturn, 1) := by decide +kernel
set_option maxHeartbeats 4000000 in
set_option maxRecDepth 100000 in
theorem b_Code_section_0 {h0 : Nat} {a0_2 : Nat} {a0_3 : Nat} {h1 : Nat} {cA1 : ClassId} {ad1 : Nat → Nat} {I0 : Nat → Int32} {x1 : Int32}  {Z : Option Nat → Unit → Prop} {H : Heap} {locs : List Loc} {ls : Array Slot} (hc : zC p s m args meth c prog_2_method_4_code (some (.object "NumberDress$Section")) 2 "NumberDress$Code") (hA : ∀ q : Nat, s.heap.size ≤ q → A q) (hE : zE gE A s) (hl : lv_has ls 2 [(0, .ref h0), (1, .int x1)]) (hK : va_K (dC, dI) zCl [(cA1, .object "NumberDress$Section")] s) (hP : va_P (dC, dI) zCl [(h0, .inr (1, o_Code I0 h1 a0_2 a0_3)), (h1, .inl (cA1, 4, .inr (.inr (.inr (.inr (zra ad1 4))))))] H) (hD : va_D A [(h0, .inr (1, o_Code I0 h1 a0_2 a0_3)), (h1, .inl (cA1, 4, .inr (.inr (.inr (.inr (zra ad1 4))))))]) (hS : va_S A s.heap H locs) (hv : v_Code_section_0 I0 x1  Z) : W p l e (headSpec (Cond.code (⟨"NumberDress$Code", "section", "(I)LNumberDress$Section;"⟩ : MethodName) prog_2_method_4_code 2 (some (.object "NumberDress$Section")) :: zT) { frames := 0, cells := 0, slots := 0, locals := 0 }).room s m args below meth c H locs 0 0 (MQ below (va_Qq (fun r (u : (Unit) × Option Nat) => r = u.2.map ad1 ∧ Z u.2 u.1) (zB (dC, dI) zCl [(cA1, .object "NumberDress$Section")] A (fun u : (Unit) × Option Nat => [(h0, .inr (1, o_Code I0 h1 a0_2 a0_3)), (h1, .inl (cA1, 4, .inr (.inr (.inr (.inr (zra ad1 4))))))])) A) args s 0 0 A) (F0 m 0 ls []) := by
  obtain ⟨hx, hb, hr, hml, hown, ht, hlocks⟩ := id hc
  unfold v_Code_section_0 at hv
  refine lv_iload_n hx hb d_Code_section_0 rfl (lv_at hl 1 rfl) ?_
  refine lv_if_lt (tgt := 30) hx hb d_Code_section_1 (by decide) (fun c_1 => ?_) (fun c_1 => ?_)
  · have hv := hv.1 c_1
    refine lv_null hx hb d_Code_section_30 ?_
    exact W.aret (v := .null) hx hb hr (Or.inl ⟨_, rfl⟩) (Or.inl rfl) (fun t ht hW => ⟨⟨_, ((), none), rfl, ⟨rfl, hv⟩, ⟨by rw [ht]; exact hP, va_K.moved hW.alike hK, hD⟩⟩, hS.F ht⟩) hS.2.2 d_Code_section_31
  · have hv := hv.2 c_1
    refine lv_iload_n hx hb d_Code_section_4 rfl (lv_at hl 1 rfl) ?_
    refine lv_aload_n hx hb d_Code_section_5 rfl (lv_at hl 0 rfl) ?_
    refine va_get (D := (dC, dI)) (ci := 1) (v := .int (I0 1)) (C := "NumberDress$Code") (T := T_Code) (N := 5) hx hb ht zin_Code hown hK hP 0 rfl rfl 1 (by decide) (ht _ zw_244) (fun _ h9 => h9) rfl d_Code_section_6 ?_
    refine lv_icmp_ge (tgt := 30) hx hb d_Code_section_9 (by decide) (fun c_2 => ?_) (fun c_2 => ?_)
    · have hv := hv.1 c_2
      refine lv_null hx hb d_Code_section_30 ?_
      exact W.aret (v := .null) hx hb hr (Or.inl ⟨_, rfl⟩) (Or.inl rfl) (fun t ht hW => ⟨⟨_, ((), none), rfl, ⟨rfl, hv⟩, ⟨by rw [ht]; exact hP, va_K.moved hW.alike hK, hD⟩⟩, hS.F ht⟩) hS.2.2 d_Code_section_31
    · have hv := hv.2 c_2
      refine lv_iload_n hx hb d_Code_section_12 rfl (lv_at hl 1 rfl) ?_
      refine lv_aload_n hx hb d_Code_section_13 rfl (lv_at hl 0 rfl) ?_
      refine va_get (D := (dC, dI)) (ci := 1) (v := .ref h1) (C := "NumberDress$Code") (T := T_Code) (N := 5) hx hb ht zin_Code hown hK hP 0 rfl rfl 0 (by decide) (ht _ zw_243) (fun _ h9 => h9) rfl d_Code_section_14 ?_
      refine va_alen (v := (nI 4)) hx hb hK hP 1 0 rfl rfl rfl d_Code_section_17 ?_
      refine lv_icmp_ge (tgt := 30) hx hb d_Code_section_18 (by decide) (fun c_3 => ?_) (fun c_3 => ?_)
      · have hv := hv.1 c_3
        refine lv_null hx hb d_Code_section_30 ?_
        exact W.aret (v := .null) hx hb hr (Or.inl ⟨_, rfl⟩) (Or.inl rfl) (fun t ht hW => ⟨⟨_, ((), none), rfl, ⟨rfl, hv⟩, ⟨by rw [ht]; exact hP, va_K.moved hW.alike hK, hD⟩⟩, hS.F ht⟩) hS.2.2 d_Code_section_31
      · have hv := hv.2 c_3
        refine lv_aload_n hx hb d_Code_section_21 rfl (lv_at hl 0 rfl) ?_
        refine va_get (D := (dC, dI)) (ci := 1) (v := .ref h1) (C := "NumberDress$Code") (T := T_Code) (N := 5) hx hb ht zin_Code hown hK hP 0 rfl rfl 0 (by decide) (ht _ zw_243) (fun _ h9 => h9) rfl d_Code_section_22 ?_
        refine lv_iload_n hx hb d_Code_section_25 rfl (lv_at hl 1 rfl) ?_
        obtain ⟨q_4, hv⟩ := hv
        refine z_aald hx hb hK hP 1 0 rfl rfl q_4 d_Code_section_26 (fun j_5 ej_5 => ?_)
        have hv := hv j_5 ej_5
        refine lv_goto (tgt := 31) hx hb d_Code_section_27 (by decide) ?_
        exact W.aret (v := .ref (ad1 j_5)) hx hb hr (Or.inl ⟨_, rfl⟩) (Or.inr ⟨_, rfl⟩) (fun t ht hW => ⟨⟨_, ((), (some j_5)), rfl, ⟨rfl, hv⟩, ⟨by rw [ht]; exact hP, va_K.moved hW.alike hK, hD⟩⟩, hS.F ht⟩) hS.2.2 d_Code_section_31
theorem zi_Code_section : Cond.code (⟨"NumberDress$Code", "section", "(I)LNumberDress$Section;"⟩ : MethodName) prog_2_method_4_code 2 (some (.object "NumberDress$Section")) ∈ zT := zw_853
theorem zh_Code_section : (((⟨"NumberDress$Code", "section", "(I)LNumberDress$Section;"⟩ : MethodName)).cls ≠ "java/lang/invoke/MethodHandle" ∧ ((⟨"NumberDress$Code", "section", "(I)LNumberDress$Section;"⟩ : MethodName)).cls ≠ "java/lang/invoke/VarHandle" ∧ (parseMethodDescriptor ((⟨"NumberDress$Code", "section", "(I)LNumberDress$Section;"⟩ : MethodName)).desc).map (fun d => d.parameters.length) = some 1) := by decide +kernel
set_option maxHeartbeats 4000000 in
set_option maxRecDepth 100000 in
theorem m_Code_section (l : Launch) (dC : Nat → ClassId) (dI : Nat → Nat → Nat) {gE : zG} {h0 : Nat} {a0_2 : Nat} {a0_3 : Nat} {h1 : Nat} {cA1 : ClassId} {ad1 : Nat → Nat} {I0 : Nat → Int32} {x1 : Int32} {sz : Nat} {Z : Option Nat → Unit → Prop} (hv : v_Code_section_0 I0 x1 Z) : Met l (⟨"NumberDress$Code", "section", "(I)LNumberDress$Section;"⟩ : MethodName) (Cond.code (⟨"NumberDress$Code", "section", "(I)LNumberDress$Section;"⟩ : MethodName) prog_2_method_4_code 2 (some (.object "NumberDress$Section")) :: zT) { frames := 0, cells := 0, slots := 0, locals := 0 } (zPc gE (dC, dI) zCl [(cA1, .object "NumberDress$Section")] [.ref h0, .int x1] sz [(h0, .inr (1, o_Code I0 h1 a0_2 a0_3)), (h1, .inl (cA1, 4, .inr (.inr (.inr (.inr (zra ad1 4))))))]) (va_Qq (fun r (u : (Unit) × Option Nat) => r = u.2.map ad1 ∧ Z u.2 u.1) (zB (dC, dI) zCl [(cA1, .object "NumberDress$Section")] (va_A [(h0, .inr (1, o_Code I0 h1 a0_2 a0_3)), (h1, .inl (cA1, 4, .inr (.inr (.inr (.inr (zra ad1 4))))))] sz) (fun u : (Unit) × Option Nat => [(h0, .inr (1, o_Code I0 h1 a0_2 a0_3)), (h1, .inl (cA1, 4, .inr (.inr (.inr (.inr (zra ad1 4))))))])) (va_A [(h0, .inr (1, o_Code I0 h1 a0_2 a0_3)), (h1, .inl (cA1, 4, .inr (.inr (.inr (.inr (zra ad1 4))))))] sz)) 0 0 (va_A [(h0, .inr (1, o_Code I0 h1 a0_2 a0_3)), (h1, .inl (cA1, 4, .inr (.inr (.inr (.inr (zra ad1 4))))))] sz) := by
  refine Met.ofW (cc := prog_2_method_4_code) (maxL := 2) (ret := (some (.object "NumberDress$Section"))) (by decide +kernel) rfl ?_
  intro p e s m args below meth c s₁ B hml hp
  obtain ⟨rfl, hsz, hP, hK, hD0, hE⟩ := hp
  have hts := atoms_spec (ws := (Cond.code (⟨"NumberDress$Code", "section", "(I)LNumberDress$Section;"⟩ : MethodName) prog_2_method_4_code 2 (some (.object "NumberDress$Section")) :: zT)) B.pre
  have hown : s.vm.findClass "NumberDress$Code" = some m.cls := findClass_of_methodNamed B.named
  have hc : zC p s m _ meth c prog_2_method_4_code (some (.object "NumberDress$Section")) 2 "NumberDress$Code" := ⟨B.exec, B.bytes, B.returns, hml, hown, fun w h => hts w (List.mem_cons_of_mem _ h), B.notSynchronized⟩
  subst hsz
  have hD := hD0.self (sz := s.heap.size)
  generalize hAe : va_A [(h0, .inr (1, o_Code I0 h1 a0_2 a0_3)), (h1, .inl (cA1, 4, .inr (.inr (.inr (.inr (zra ad1 4))))))] s.heap.size = A at hD hE ⊢
  have hA : ∀ q : Nat, s.heap.size ≤ q → A q := fun q h => by rw [← hAe]; exact Or.inr h
  have hl := lv_entry ([.ref h0, .int x1]) (n := 2) (Nat.le_of_ble_eq_true rfl)
  rw [lg_entry_eq]
  exact b_Code_section_0 hc hA hE hl hK hP hD va_S.rf hv
theorem d_Code_numberSections_0 : decode prog_2_method_9_code 0 = .ok (.iconst 0, 1) := by decide +kernel
theorem d_Code_numberSections_1 : decode prog_2_method_9_code 1 = .ok (.istore_n 1, 1) := by decide +kernel
theorem d_Code_numberSections_2 : decode prog_2_method_9_code 2 = .ok (.iconst 0, 1) := by decide +kernel
theorem d_Code_numberSections_3 : decode prog_2_method_9_code 3 = .ok (.istore_n 2, 1) := by decide +kernel
theorem d_Code_numberSections_4 : decode prog_2_method_9_code 4 = .ok (.iload_n 2, 1) := by decide +kernel
theorem d_Code_numberSections_5 : decode prog_2_method_9_code 5 = .ok (.iconst 3, 1) := by decide +kernel
theorem d_Code_numberSections_6 : decode prog_2_method_9_code 6 = .ok (.if_icmp .ge 31, 3) := by decide +kernel
theorem d_Code_numberSections_9 : decode prog_2_method_9_code 9 = .ok (.aload_n 0, 1) := by decide +kernel
theorem d_Code_numberSections_10 : decode prog_2_method_9_code 10 = .ok (.iload_n 2, 1) := by decide +kernel
theorem d_Code_numberSections_11 : decode prog_2_method_9_code 11 = .ok (.invokevirtual 36, 3) := by decide +kernel
theorem d_Code_numberSections_14 : decode prog_2_method_9_code 14 = .ok (.astore_n 3, 1) := by decide +kernel
theorem d_Code_numberSections_15 : decode prog_2_method_9_code 15 = .ok (.aload_n 3, 1) := by decide +kernel
theorem d_Code_numberSections_16 : decode prog_2_method_9_code 16 = .ok (.ifnull 15, 3) := by decide +kernel
theorem d_Code_numberSections_19 : decode prog_2_method_9_code 19 = .ok (.aload_n 3, 1) := by decide +kernel
theorem d_Code_numberSections_20 : decode prog_2_method_9_code 20 = .ok (.getfield 40, 3) := by decide +kernel
theorem d_Code_numberSections_23 : decode prog_2_method_9_code 23 = .ok (.bipush 6, 2) := by decide +kernel
theorem d_Code_numberSections_25 : decode prog_2_method_9_code 25 = .ok (.if_icmp .eq 6, 3) := by decide +kernel
theorem d_Code_numberSections_28 : decode prog_2_method_9_code 28 = .ok (.iinc 1 1, 3) := by decide +kernel
theorem d_Code_numberSections_31 : decode prog_2_method_9_code 31 = .ok (.iinc 2 1, 3) := by decide +kernel
theorem d_Code_numberSections_34 : decode prog_2_method_9_code 34 = .ok (.goto (-30), 3) := by decide +kernel
theorem d_Code_numberSections_37 : decode prog_2_method_9_code 37 = .ok (.iload_n 1, 1) := by decide +kernel
theorem d_Code_numberSections_38 : decode prog_2_method_9_code 38 = .ok (.ireturn, 1) := by decide +kernel
set_option maxHeartbeats 4000000 in
set_option maxRecDepth 100000 in
theorem b_Code_numberSections_31 {h0 : Nat} {a0_2 : Nat} {a0_3 : Nat} {h1 : Nat} {cA1 : ClassId} {ad1 : Nat → Nat} {I0 : Nat → Int32} {I2 : Nat → Int32} {I3 : Nat → Int32} {I4 : Nat → Int32} {I5 : Nat → Int32} {x1 : Int32} {x2 : Int32} {k4 : Int32 → Int32 → Prop} {Z : Int32 → Unit → Prop} {H : Heap} {locs : List Loc} {ls : Array Slot} (hc : zC p s m args meth c prog_2_method_9_code (some .int) 4 "NumberDress$Code") (hA : ∀ q : Nat, s.heap.size ≤ q → A q) (hE : zE gE A s) (hk4 : ∀ (x1 : Int32) (x2 : Int32) (H : Heap) (locs : List Loc) (ls : Array Slot), lv_has ls 4 [(0, .ref h0), (1, .int x1), (2, .int x2)] → va_K (dC, dI) zCl [(cA1, .object "NumberDress$Section")] s → va_P (dC, dI) zCl [(h0, .inr (1, o_Code I0 h1 a0_2 a0_3)), (h1, .inl (cA1, 4, .inr (.inr (.inr (.inr (zra ad1 4)))))), ((ad1 0), .inr (9, o_Section I2)), ((ad1 1), .inr (9, o_Section I3)), ((ad1 2), .inr (9, o_Section I4)), ((ad1 3), .inr (9, o_Section I5))] H → va_D A [(h0, .inr (1, o_Code I0 h1 a0_2 a0_3)), (h1, .inl (cA1, 4, .inr (.inr (.inr (.inr (zra ad1 4)))))), ((ad1 0), .inr (9, o_Section I2)), ((ad1 1), .inr (9, o_Section I3)), ((ad1 2), .inr (9, o_Section I4)), ((ad1 3), .inr (9, o_Section I5))] → va_S A s.heap H locs → k4 x1 x2 → W p l e (headSpec (Cond.code (⟨"NumberDress$Code", "numberSections", "()I"⟩ : MethodName) prog_2_method_9_code 4 (some .int) :: zT) { frames := 1, cells := 0, slots := 0, locals := 21 }).room s m args below meth c H locs 0 0 (MQ below (va_Qi Z (zB (dC, dI) zCl [(cA1, .object "NumberDress$Section")] A (fun u : Unit => [(h0, .inr (1, o_Code I0 h1 a0_2 a0_3)), (h1, .inl (cA1, 4, .inr (.inr (.inr (.inr (zra ad1 4)))))), ((ad1 0), .inr (9, o_Section I2)), ((ad1 1), .inr (9, o_Section I3)), ((ad1 2), .inr (9, o_Section I4)), ((ad1 3), .inr (9, o_Section I5))])) A) args s 0 0 A) (F0 m 4 ls [])) (hl : lv_has ls 4 [(0, .ref h0), (1, .int x1), (2, .int x2)]) (hK : va_K (dC, dI) zCl [(cA1, .object "NumberDress$Section")] s) (hP : va_P (dC, dI) zCl [(h0, .inr (1, o_Code I0 h1 a0_2 a0_3)), (h1, .inl (cA1, 4, .inr (.inr (.inr (.inr (zra ad1 4)))))), ((ad1 0), .inr (9, o_Section I2)), ((ad1 1), .inr (9, o_Section I3)), ((ad1 2), .inr (9, o_Section I4)), ((ad1 3), .inr (9, o_Section I5))] H) (hD : va_D A [(h0, .inr (1, o_Code I0 h1 a0_2 a0_3)), (h1, .inl (cA1, 4, .inr (.inr (.inr (.inr (zra ad1 4)))))), ((ad1 0), .inr (9, o_Section I2)), ((ad1 1), .inr (9, o_Section I3)), ((ad1 2), .inr (9, o_Section I4)), ((ad1 3), .inr (9, o_Section I5))]) (hS : va_S A s.heap H locs) (hv : v_Code_numberSections_31 I0 I2 I3 I4 I5 x1 x2 k4 Z) : W p l e (headSpec (Cond.code (⟨"NumberDress$Code", "numberSections", "()I"⟩ : MethodName) prog_2_method_9_code 4 (some .int) :: zT) { frames := 1, cells := 0, slots := 0, locals := 21 }).room s m args below meth c H locs 0 0 (MQ below (va_Qi Z (zB (dC, dI) zCl [(cA1, .object "NumberDress$Section")] A (fun u : Unit => [(h0, .inr (1, o_Code I0 h1 a0_2 a0_3)), (h1, .inl (cA1, 4, .inr (.inr (.inr (.inr (zra ad1 4)))))), ((ad1 0), .inr (9, o_Section I2)), ((ad1 1), .inr (9, o_Section I3)), ((ad1 2), .inr (9, o_Section I4)), ((ad1 3), .inr (9, o_Section I5))])) A) args s 0 0 A) (F0 m 31 ls []) := by
  obtain ⟨hx, hb, hr, hml, hown, ht, hlocks⟩ := id hc
  unfold v_Code_numberSections_31 at hv
  refine lv_iinc (v := (x2 + (1 : Int32))) (lv' := [(2, .int (x2 + (1 : Int32))), (0, .ref h0), (1, .int x1)]) hx hb d_Code_numberSections_31 hl (k := 2) rfl rfl (by decide) rfl (fun ls hl => ?_)
  refine lv_goto (tgt := 4) hx hb d_Code_numberSections_34 (by decide) ?_
  exact hk4 x1 (x2 + (1 : Int32)) _ _ _ (lv_sub hl [1, 2, 0] rfl) hK hP hD hS hv
set_option maxHeartbeats 4000000 in
set_option maxRecDepth 100000 in
theorem b_Code_numberSections_14 {h0 : Nat} {a0_2 : Nat} {a0_3 : Nat} {h1 : Nat} {cA1 : ClassId} {ad1 : Nat → Nat} {I0 : Nat → Int32} {I2 : Nat → Int32} {I3 : Nat → Int32} {I4 : Nat → Int32} {I5 : Nat → Int32} {x1 : Int32} {x2 : Int32} {k4 : Int32 → Int32 → Prop} {Z : Int32 → Unit → Prop} {H : Heap} {locs : List Loc} {ls : Array Slot} (hc : zC p s m args meth c prog_2_method_9_code (some .int) 4 "NumberDress$Code") (hA : ∀ q : Nat, s.heap.size ≤ q → A q) (hE : zE gE A s) (hk4 : ∀ (x1 : Int32) (x2 : Int32) (H : Heap) (locs : List Loc) (ls : Array Slot), lv_has ls 4 [(0, .ref h0), (1, .int x1), (2, .int x2)] → va_K (dC, dI) zCl [(cA1, .object "NumberDress$Section")] s → va_P (dC, dI) zCl [(h0, .inr (1, o_Code I0 h1 a0_2 a0_3)), (h1, .inl (cA1, 4, .inr (.inr (.inr (.inr (zra ad1 4)))))), ((ad1 0), .inr (9, o_Section I2)), ((ad1 1), .inr (9, o_Section I3)), ((ad1 2), .inr (9, o_Section I4)), ((ad1 3), .inr (9, o_Section I5))] H → va_D A [(h0, .inr (1, o_Code I0 h1 a0_2 a0_3)), (h1, .inl (cA1, 4, .inr (.inr (.inr (.inr (zra ad1 4)))))), ((ad1 0), .inr (9, o_Section I2)), ((ad1 1), .inr (9, o_Section I3)), ((ad1 2), .inr (9, o_Section I4)), ((ad1 3), .inr (9, o_Section I5))] → va_S A s.heap H locs → k4 x1 x2 → W p l e (headSpec (Cond.code (⟨"NumberDress$Code", "numberSections", "()I"⟩ : MethodName) prog_2_method_9_code 4 (some .int) :: zT) { frames := 1, cells := 0, slots := 0, locals := 21 }).room s m args below meth c H locs 0 0 (MQ below (va_Qi Z (zB (dC, dI) zCl [(cA1, .object "NumberDress$Section")] A (fun u : Unit => [(h0, .inr (1, o_Code I0 h1 a0_2 a0_3)), (h1, .inl (cA1, 4, .inr (.inr (.inr (.inr (zra ad1 4)))))), ((ad1 0), .inr (9, o_Section I2)), ((ad1 1), .inr (9, o_Section I3)), ((ad1 2), .inr (9, o_Section I4)), ((ad1 3), .inr (9, o_Section I5))])) A) args s 0 0 A) (F0 m 4 ls [])) (hl : lv_has ls 4 [(0, .ref h0), (1, .int x1), (2, .int x2)]) (hK : va_K (dC, dI) zCl [(cA1, .object "NumberDress$Section")] s) (hP : va_P (dC, dI) zCl [(h0, .inr (1, o_Code I0 h1 a0_2 a0_3)), (h1, .inl (cA1, 4, .inr (.inr (.inr (.inr (zra ad1 4)))))), ((ad1 0), .inr (9, o_Section I2)), ((ad1 1), .inr (9, o_Section I3)), ((ad1 2), .inr (9, o_Section I4)), ((ad1 3), .inr (9, o_Section I5))] H) (hD : va_D A [(h0, .inr (1, o_Code I0 h1 a0_2 a0_3)), (h1, .inl (cA1, 4, .inr (.inr (.inr (.inr (zra ad1 4)))))), ((ad1 0), .inr (9, o_Section I2)), ((ad1 1), .inr (9, o_Section I3)), ((ad1 2), .inr (9, o_Section I4)), ((ad1 3), .inr (9, o_Section I5))]) (hS : va_S A s.heap H locs) (hv : v_Code_numberSections_14 I0 I2 I3 I4 I5 x1 x2 k4 Z) : W p l e (headSpec (Cond.code (⟨"NumberDress$Code", "numberSections", "()I"⟩ : MethodName) prog_2_method_9_code 4 (some .int) :: zT) { frames := 1, cells := 0, slots := 0, locals := 21 }).room s m args below meth c H locs 0 0 (MQ below (va_Qi Z (zB (dC, dI) zCl [(cA1, .object "NumberDress$Section")] A (fun u : Unit => [(h0, .inr (1, o_Code I0 h1 a0_2 a0_3)), (h1, .inl (cA1, 4, .inr (.inr (.inr (.inr (zra ad1 4)))))), ((ad1 0), .inr (9, o_Section I2)), ((ad1 1), .inr (9, o_Section I3)), ((ad1 2), .inr (9, o_Section I4)), ((ad1 3), .inr (9, o_Section I5))])) A) args s 0 0 A) (F0 m 14 ls [.null]) := by
  obtain ⟨hx, hb, hr, hml, hown, ht, hlocks⟩ := id hc
  unfold v_Code_numberSections_14 at hv
  refine lv_astore_nN (lv' := [(3, .null), (0, .ref h0), (1, .int x1), (2, .int x2)]) hx hb d_Code_numberSections_14 rfl hl (by decide) rfl (fun ls hl => ?_)
  refine lv_aload_nN hx hb d_Code_numberSections_15 rfl (lv_at hl 0 rfl) ?_
  refine lv_ifnullN (tgt := 31) hx hb d_Code_numberSections_16 (by decide) ?_
  exact b_Code_numberSections_31 hc hA hE hk4 (lv_sub hl [1, 2, 3] rfl) hK hP hD hS hv
set_option maxHeartbeats 4000000 in
set_option maxRecDepth 100000 in
theorem b_Code_numberSections_14v1 {h0 : Nat} {a0_2 : Nat} {a0_3 : Nat} {h1 : Nat} {cA1 : ClassId} {ad1 : Nat → Nat} {I0 : Nat → Int32} {I2 : Nat → Int32} {I3 : Nat → Int32} {I4 : Nat → Int32} {I5 : Nat → Int32} {x1 : Int32} {x2 : Int32} {s0 : Nat} {k4 : Int32 → Int32 → Prop} {Z : Int32 → Unit → Prop} {H : Heap} {locs : List Loc} {ls : Array Slot} (hc : zC p s m args meth c prog_2_method_9_code (some .int) 4 "NumberDress$Code") (hA : ∀ q : Nat, s.heap.size ≤ q → A q) (hE : zE gE A s) (hk4 : ∀ (x1 : Int32) (x2 : Int32) (H : Heap) (locs : List Loc) (ls : Array Slot), lv_has ls 4 [(0, .ref h0), (1, .int x1), (2, .int x2)] → va_K (dC, dI) zCl [(cA1, .object "NumberDress$Section")] s → va_P (dC, dI) zCl [(h0, .inr (1, o_Code I0 h1 a0_2 a0_3)), (h1, .inl (cA1, 4, .inr (.inr (.inr (.inr (zra ad1 4)))))), ((ad1 0), .inr (9, o_Section I2)), ((ad1 1), .inr (9, o_Section I3)), ((ad1 2), .inr (9, o_Section I4)), ((ad1 3), .inr (9, o_Section I5))] H → va_D A [(h0, .inr (1, o_Code I0 h1 a0_2 a0_3)), (h1, .inl (cA1, 4, .inr (.inr (.inr (.inr (zra ad1 4)))))), ((ad1 0), .inr (9, o_Section I2)), ((ad1 1), .inr (9, o_Section I3)), ((ad1 2), .inr (9, o_Section I4)), ((ad1 3), .inr (9, o_Section I5))] → va_S A s.heap H locs → k4 x1 x2 → W p l e (headSpec (Cond.code (⟨"NumberDress$Code", "numberSections", "()I"⟩ : MethodName) prog_2_method_9_code 4 (some .int) :: zT) { frames := 1, cells := 0, slots := 0, locals := 21 }).room s m args below meth c H locs 0 0 (MQ below (va_Qi Z (zB (dC, dI) zCl [(cA1, .object "NumberDress$Section")] A (fun u : Unit => [(h0, .inr (1, o_Code I0 h1 a0_2 a0_3)), (h1, .inl (cA1, 4, .inr (.inr (.inr (.inr (zra ad1 4)))))), ((ad1 0), .inr (9, o_Section I2)), ((ad1 1), .inr (9, o_Section I3)), ((ad1 2), .inr (9, o_Section I4)), ((ad1 3), .inr (9, o_Section I5))])) A) args s 0 0 A) (F0 m 4 ls [])) (hl : lv_has ls 4 [(0, .ref h0), (1, .int x1), (2, .int x2)]) (hK : va_K (dC, dI) zCl [(cA1, .object "NumberDress$Section")] s) (hP : va_P (dC, dI) zCl [(h0, .inr (1, o_Code I0 h1 a0_2 a0_3)), (h1, .inl (cA1, 4, .inr (.inr (.inr (.inr (zra ad1 4)))))), ((ad1 0), .inr (9, o_Section I2)), ((ad1 1), .inr (9, o_Section I3)), ((ad1 2), .inr (9, o_Section I4)), ((ad1 3), .inr (9, o_Section I5))] H) (hD : va_D A [(h0, .inr (1, o_Code I0 h1 a0_2 a0_3)), (h1, .inl (cA1, 4, .inr (.inr (.inr (.inr (zra ad1 4)))))), ((ad1 0), .inr (9, o_Section I2)), ((ad1 1), .inr (9, o_Section I3)), ((ad1 2), .inr (9, o_Section I4)), ((ad1 3), .inr (9, o_Section I5))]) (hS : va_S A s.heap H locs) (hv : v_Code_numberSections_14v1 I0 I2 I3 I4 I5 x1 x2 s0 k4 Z) : W p l e (headSpec (Cond.code (⟨"NumberDress$Code", "numberSections", "()I"⟩ : MethodName) prog_2_method_9_code 4 (some .int) :: zT) { frames := 1, cells := 0, slots := 0, locals := 21 }).room s m args below meth c H locs 0 0 (MQ below (va_Qi Z (zB (dC, dI) zCl [(cA1, .object "NumberDress$Section")] A (fun u : Unit => [(h0, .inr (1, o_Code I0 h1 a0_2 a0_3)), (h1, .inl (cA1, 4, .inr (.inr (.inr (.inr (zra ad1 4)))))), ((ad1 0), .inr (9, o_Section I2)), ((ad1 1), .inr (9, o_Section I3)), ((ad1 2), .inr (9, o_Section I4)), ((ad1 3), .inr (9, o_Section I5))])) A) args s 0 0 A) (F0 m 14 ls [.ref (ad1 s0)]) := by
  obtain ⟨hx, hb, hr, hml, hown, ht, hlocks⟩ := id hc
  unfold v_Code_numberSections_14v1 at hv
  refine lv_astore_n (lv' := [(3, .ref (ad1 s0)), (0, .ref h0), (1, .int x1), (2, .int x2)]) hx hb d_Code_numberSections_14 rfl hl (by decide) rfl (fun ls hl => ?_)
  refine lv_aload_n hx hb d_Code_numberSections_15 rfl (lv_at hl 0 rfl) ?_
  refine lv_ifnull hx hb d_Code_numberSections_16 ?_
  refine lv_aload_n hx hb d_Code_numberSections_19 rfl (lv_at hl 0 rfl) ?_
  obtain ⟨q_1, hv⟩ := hv
  rcases z4 q_1 with rfl | rfl | rfl | rfl
  · have hv := hv.1 rfl
    refine va_get (D := (dC, dI)) (ci := 9) (v := .int (I2 0)) (C := "NumberDress$Section") (T := T_Section) (N := 15) hx hb ht zin_Section hown hK hP 2 rfl rfl 0 (by decide) (ht _ zw_160) (fun _ h9 => h9) rfl d_Code_numberSections_20 ?_
    refine lv_bipush (v := (6 : Int32)) hx hb d_Code_numberSections_23 (by decide) ?_
    refine lv_icmp_eq (tgt := 31) hx hb d_Code_numberSections_25 (by decide) (fun c_2 => ?_) (fun c_2 => ?_)
    · have hv := hv.1 c_2
      exact b_Code_numberSections_31 hc hA hE hk4 (lv_sub hl [1, 2, 3] rfl) hK hP hD hS hv
    · have hv := hv.2 c_2
      refine lv_iinc (v := (x1 + (1 : Int32))) (lv' := [(1, .int (x1 + (1 : Int32))), (3, .ref (ad1 0)), (0, .ref h0), (2, .int x2)]) hx hb d_Code_numberSections_28 hl (k := 2) rfl rfl (by decide) rfl (fun ls hl => ?_)
      exact b_Code_numberSections_31 hc hA hE hk4 (lv_sub hl [2, 0, 3] rfl) hK hP hD hS hv
  · have hv := hv.2.1 rfl
    refine va_get (D := (dC, dI)) (ci := 9) (v := .int (I3 0)) (C := "NumberDress$Section") (T := T_Section) (N := 15) hx hb ht zin_Section hown hK hP 3 rfl rfl 0 (by decide) (ht _ zw_160) (fun _ h9 => h9) rfl d_Code_numberSections_20 ?_
    refine lv_bipush (v := (6 : Int32)) hx hb d_Code_numberSections_23 (by decide) ?_
    refine lv_icmp_eq (tgt := 31) hx hb d_Code_numberSections_25 (by decide) (fun c_3 => ?_) (fun c_3 => ?_)
    · have hv := hv.1 c_3
      exact b_Code_numberSections_31 hc hA hE hk4 (lv_sub hl [1, 2, 3] rfl) hK hP hD hS hv
    · have hv := hv.2 c_3
      refine lv_iinc (v := (x1 + (1 : Int32))) (lv' := [(1, .int (x1 + (1 : Int32))), (3, .ref (ad1 1)), (0, .ref h0), (2, .int x2)]) hx hb d_Code_numberSections_28 hl (k := 2) rfl rfl (by decide) rfl (fun ls hl => ?_)
      exact b_Code_numberSections_31 hc hA hE hk4 (lv_sub hl [2, 0, 3] rfl) hK hP hD hS hv
  · have hv := hv.2.2.1 rfl
    refine va_get (D := (dC, dI)) (ci := 9) (v := .int (I4 0)) (C := "NumberDress$Section") (T := T_Section) (N := 15) hx hb ht zin_Section hown hK hP 4 rfl rfl 0 (by decide) (ht _ zw_160) (fun _ h9 => h9) rfl d_Code_numberSections_20 ?_
    refine lv_bipush (v := (6 : Int32)) hx hb d_Code_numberSections_23 (by decide) ?_
    refine lv_icmp_eq (tgt := 31) hx hb d_Code_numberSections_25 (by decide) (fun c_4 => ?_) (fun c_4 => ?_)
    · have hv := hv.1 c_4
      exact b_Code_numberSections_31 hc hA hE hk4 (lv_sub hl [1, 2, 3] rfl) hK hP hD hS hv
    · have hv := hv.2 c_4
      refine lv_iinc (v := (x1 + (1 : Int32))) (lv' := [(1, .int (x1 + (1 : Int32))), (3, .ref (ad1 2)), (0, .ref h0), (2, .int x2)]) hx hb d_Code_numberSections_28 hl (k := 2) rfl rfl (by decide) rfl (fun ls hl => ?_)
      exact b_Code_numberSections_31 hc hA hE hk4 (lv_sub hl [2, 0, 3] rfl) hK hP hD hS hv
  · have hv := hv.2.2.2 rfl
    refine va_get (D := (dC, dI)) (ci := 9) (v := .int (I5 0)) (C := "NumberDress$Section") (T := T_Section) (N := 15) hx hb ht zin_Section hown hK hP 5 rfl rfl 0 (by decide) (ht _ zw_160) (fun _ h9 => h9) rfl d_Code_numberSections_20 ?_
    refine lv_bipush (v := (6 : Int32)) hx hb d_Code_numberSections_23 (by decide) ?_
    refine lv_icmp_eq (tgt := 31) hx hb d_Code_numberSections_25 (by decide) (fun c_5 => ?_) (fun c_5 => ?_)
    · have hv := hv.1 c_5
      exact b_Code_numberSections_31 hc hA hE hk4 (lv_sub hl [1, 2, 3] rfl) hK hP hD hS hv
    · have hv := hv.2 c_5
      refine lv_iinc (v := (x1 + (1 : Int32))) (lv' := [(1, .int (x1 + (1 : Int32))), (3, .ref (ad1 3)), (0, .ref h0), (2, .int x2)]) hx hb d_Code_numberSections_28 hl (k := 2) rfl rfl (by decide) rfl (fun ls hl => ?_)
      exact b_Code_numberSections_31 hc hA hE hk4 (lv_sub hl [2, 0, 3] rfl) hK hP hD hS hv
set_option maxHeartbeats 4000000 in
set_option maxRecDepth 100000 in
theorem b_Code_numberSections_4 {h0 : Nat} {a0_2 : Nat} {a0_3 : Nat} {h1 : Nat} {cA1 : ClassId} {ad1 : Nat → Nat} {I0 : Nat → Int32} {I2 : Nat → Int32} {I3 : Nat → Int32} {I4 : Nat → Int32} {I5 : Nat → Int32}  {Z : Int32 → Unit → Prop} (hc : zC p s m args meth c prog_2_method_9_code (some .int) 4 "NumberDress$Code") (hA : ∀ q : Nat, s.heap.size ≤ q → A q) (hE : zE gE A s) : ∀ (N : Nat) (x1 : Int32) (x2 : Int32) (H : Heap) (locs : List Loc) (ls : Array Slot), lv_has ls 4 [(0, .ref h0), (1, .int x1), (2, .int x2)] → va_K (dC, dI) zCl [(cA1, .object "NumberDress$Section")] s → va_P (dC, dI) zCl [(h0, .inr (1, o_Code I0 h1 a0_2 a0_3)), (h1, .inl (cA1, 4, .inr (.inr (.inr (.inr (zra ad1 4)))))), ((ad1 0), .inr (9, o_Section I2)), ((ad1 1), .inr (9, o_Section I3)), ((ad1 2), .inr (9, o_Section I4)), ((ad1 3), .inr (9, o_Section I5))] H → va_D A [(h0, .inr (1, o_Code I0 h1 a0_2 a0_3)), (h1, .inl (cA1, 4, .inr (.inr (.inr (.inr (zra ad1 4)))))), ((ad1 0), .inr (9, o_Section I2)), ((ad1 1), .inr (9, o_Section I3)), ((ad1 2), .inr (9, o_Section I4)), ((ad1 3), .inr (9, o_Section I5))] → va_S A s.heap H locs → v_Code_numberSections_4 I0 I2 I3 I4 I5  Z N x1 x2 → W p l e (headSpec (Cond.code (⟨"NumberDress$Code", "numberSections", "()I"⟩ : MethodName) prog_2_method_9_code 4 (some .int) :: zT) { frames := 1, cells := 0, slots := 0, locals := 21 }).room s m args below meth c H locs 0 0 (MQ below (va_Qi Z (zB (dC, dI) zCl [(cA1, .object "NumberDress$Section")] A (fun u : Unit => [(h0, .inr (1, o_Code I0 h1 a0_2 a0_3)), (h1, .inl (cA1, 4, .inr (.inr (.inr (.inr (zra ad1 4)))))), ((ad1 0), .inr (9, o_Section I2)), ((ad1 1), .inr (9, o_Section I3)), ((ad1 2), .inr (9, o_Section I4)), ((ad1 3), .inr (9, o_Section I5))])) A) args s 0 0 A) (F0 m 4 ls []) := by
  obtain ⟨hx, hb, hr, hml, hown, ht, hlocks⟩ := id hc
  intro N
  induction N with
  | zero => intro x1 x2 H locs ls hl hK hP hD hS hv; exact hv.elim
  | succ N hk4 =>
    intro x1 x2 H locs ls hl hK hP hD hS hv
    unfold v_Code_numberSections_4 at hv
    refine lv_iload_n hx hb d_Code_numberSections_4 rfl (lv_at hl 2 rfl) ?_
    refine lv_iconst (v := (3 : Int32)) hx hb d_Code_numberSections_5 (by decide) ?_
    refine lv_icmp_ge (tgt := 37) hx hb d_Code_numberSections_6 (by decide) (fun c_1 => ?_) (fun c_1 => ?_)
    · have hv := hv.1 c_1
      refine lv_iload_n hx hb d_Code_numberSections_37 rfl (lv_at hl 1 rfl) ?_
      exact W.iret (v := x1) hx hb hr (fun t ht hW => ⟨⟨_, (), rfl, hv, ⟨by rw [ht]; exact hP, va_K.moved hW.alike hK, hD⟩⟩, hS.F ht⟩) hS.2.2 d_Code_numberSections_38
    · have hv := hv.2 c_1
      refine lv_aload_n hx hb d_Code_numberSections_9 rfl (lv_at hl 0 rfl) ?_
      refine lv_iload_n hx hb d_Code_numberSections_10 rfl (lv_at hl 2 rfl) ?_
      refine z_callq (wc := [(h0, .inr (1, o_Code I0 h1 a0_2 a0_3)), (h1, .inl (cA1, 4, .inr (.inr (.inr (.inr (zra ad1 4))))))]) (wr := [((ad1 0), .inr (9, o_Section I2)), ((ad1 1), .inr (9, o_Section I3)), ((ad1 2), .inr (9, o_Section I4)), ((ad1 3), .inr (9, o_Section I5))]) [0, 1] [2, 3, 4, 5] (va_runV (As := [.int x2]) (rest := []) ⟨hx, hb, hml, hown, ht⟩ (m_Code_section l dC dI hv) ⟨(callB_of 1 ht (zG_in zi_Code_section) rfl rfl rfl (ht _ zw_111) (ht _ zw_850) zh_Code_section ⟨Nat.le_of_ble_eq_true rfl, Nat.le_of_ble_eq_true rfl⟩), (ht _ zw_851), (ht _ zw_852)⟩ ⟨zPc_blind, va_recv hK hP (ci := 1) (q0 := 0) rfl rfl, zPc_pre hP hK hD hS hA hE [0, 1] [0] rfl rfl (by decide) rfl⟩ rfl rfl hl.1 rfl (lv_room (Nat.le_of_ble_eq_true rfl)) d_Code_numberSections_11 ⟨Nat.le_of_ble_eq_true rfl, Nat.le_of_ble_eq_true rfl⟩) hP hD hS hA rfl rfl (by decide) (by decide) (fun r u H locs hv hP0 hD0 hS => ?_)
      have hP : va_P (dC, dI) zCl [(h0, .inr (1, o_Code I0 h1 a0_2 a0_3)), (h1, .inl (cA1, 4, .inr (.inr (.inr (.inr (zra ad1 4)))))), ((ad1 0), .inr (9, o_Section I2)), ((ad1 1), .inr (9, o_Section I3)), ((ad1 2), .inr (9, o_Section I4)), ((ad1 3), .inr (9, o_Section I5))] H := hP0.sub [4, 5, 0, 1, 2, 3] rfl
      have hD : va_D A [(h0, .inr (1, o_Code I0 h1 a0_2 a0_3)), (h1, .inl (cA1, 4, .inr (.inr (.inr (.inr (zra ad1 4)))))), ((ad1 0), .inr (9, o_Section I2)), ((ad1 1), .inr (9, o_Section I3)), ((ad1 2), .inr (9, o_Section I4)), ((ad1 3), .inr (9, o_Section I5))] := hD0.sub [4, 5, 0, 1, 2, 3] (by decide) rfl
      clear hP0 hD0
      rcases r with _ | j
      · have hv := hv.1 rfl
        exact b_Code_numberSections_14 hc hA hE hk4 (lv_sub hl [0, 1, 2] rfl) hK hP hD hS hv
      · have hv := hv.2 j rfl
        exact b_Code_numberSections_14v1 hc hA hE hk4 (lv_sub hl [0, 1, 2] rfl) hK hP hD hS hv
set_option maxHeartbeats 4000000 in
set_option maxRecDepth 100000 in
theorem b_Code_numberSections_0 {h0 : Nat} {a0_2 : Nat} {a0_3 : Nat} {h1 : Nat} {cA1 : ClassId} {ad1 : Nat → Nat} {I0 : Nat → Int32} {I2 : Nat → Int32} {I3 : Nat → Int32} {I4 : Nat → Int32} {I5 : Nat → Int32}  {Z : Int32 → Unit → Prop} {H : Heap} {locs : List Loc} {ls : Array Slot} (hc : zC p s m args meth c prog_2_method_9_code (some .int) 4 "NumberDress$Code") (hA : ∀ q : Nat, s.heap.size ≤ q → A q) (hE : zE gE A s) (hl : lv_has ls 4 [(0, .ref h0)]) (hK : va_K (dC, dI) zCl [(cA1, .object "NumberDress$Section")] s) (hP : va_P (dC, dI) zCl [(h0, .inr (1, o_Code I0 h1 a0_2 a0_3)), (h1, .inl (cA1, 4, .inr (.inr (.inr (.inr (zra ad1 4)))))), ((ad1 0), .inr (9, o_Section I2)), ((ad1 1), .inr (9, o_Section I3)), ((ad1 2), .inr (9, o_Section I4)), ((ad1 3), .inr (9, o_Section I5))] H) (hD : va_D A [(h0, .inr (1, o_Code I0 h1 a0_2 a0_3)), (h1, .inl (cA1, 4, .inr (.inr (.inr (.inr (zra ad1 4)))))), ((ad1 0), .inr (9, o_Section I2)), ((ad1 1), .inr (9, o_Section I3)), ((ad1 2), .inr (9, o_Section I4)), ((ad1 3), .inr (9, o_Section I5))]) (hS : va_S A s.heap H locs) (hv : v_Code_numberSections_0 I0 I2 I3 I4 I5  Z) : W p l e (headSpec (Cond.code (⟨"NumberDress$Code", "numberSections", "()I"⟩ : MethodName) prog_2_method_9_code 4 (some .int) :: zT) { frames := 1, cells := 0, slots := 0, locals := 21 }).room s m args below meth c H locs 0 0 (MQ below (va_Qi Z (zB (dC, dI) zCl [(cA1, .object "NumberDress$Section")] A (fun u : Unit => [(h0, .inr (1, o_Code I0 h1 a0_2 a0_3)), (h1, .inl (cA1, 4, .inr (.inr (.inr (.inr (zra ad1 4)))))), ((ad1 0), .inr (9, o_Section I2)), ((ad1 1), .inr (9, o_Section I3)), ((ad1 2), .inr (9, o_Section I4)), ((ad1 3), .inr (9, o_Section I5))])) A) args s 0 0 A) (F0 m 0 ls []) := by
  obtain ⟨hx, hb, hr, hml, hown, ht, hlocks⟩ := id hc
  unfold v_Code_numberSections_0 at hv
  refine lv_iconst (v := (0 : Int32)) hx hb d_Code_numberSections_0 (by decide) ?_
  refine lv_istore_n (lv' := [(1, .int (0 : Int32)), (0, .ref h0)]) hx hb d_Code_numberSections_1 rfl hl (by decide) rfl (fun ls hl => ?_)
  refine lv_iconst (v := (0 : Int32)) hx hb d_Code_numberSections_2 (by decide) ?_
  refine lv_istore_n (lv' := [(2, .int (0 : Int32)), (1, .int (0 : Int32)), (0, .ref h0)]) hx hb d_Code_numberSections_3 rfl hl (by decide) rfl (fun ls hl => ?_)
  obtain ⟨Nx, hv⟩ := hv
  exact b_Code_numberSections_4 hc hA hE  Nx (0 : Int32) (0 : Int32) _ _ _ (lv_sub hl [2, 1, 0] rfl) hK hP hD hS hv
theorem zi_Code_numberSections : Cond.code (⟨"NumberDress$Code", "numberSections", "()I"⟩ : MethodName) prog_2_method_9_code 4 (some .int) ∈ zT := zw_857
theorem zh_Code_numberSections : (((⟨"NumberDress$Code", "numberSections", "()I"⟩ : MethodName)).cls ≠ "java/lang/invoke/MethodHandle" ∧ ((⟨"NumberDress$Code", "numberSections", "()I"⟩ : MethodName)).cls ≠ "java/lang/invoke/VarHandle" ∧ (parseMethodDescriptor ((⟨"NumberDress$Code", "numberSections", "()I"⟩ : MethodName)).desc).map (fun d => d.parameters.length) = some 0) := by decide +kernel
set_option maxHeartbeats 4000000 in
set_option maxRecDepth 100000 in
theorem m_Code_numberSections (l : Launch) (dC : Nat → ClassId) (dI : Nat → Nat → Nat) {gE : zG} {h0 : Nat} {a0_2 : Nat} {a0_3 : Nat} {h1 : Nat} {cA1 : ClassId} {ad1 : Nat → Nat} {I0 : Nat → Int32} {I2 : Nat → Int32} {I3 : Nat → Int32} {I4 : Nat → Int32} {I5 : Nat → Int32} {sz : Nat} {Z : Int32 → Unit → Prop} (hv : v_Code_numberSections_0 I0 I2 I3 I4 I5 Z) : Met l (⟨"NumberDress$Code", "numberSections", "()I"⟩ : MethodName) (Cond.code (⟨"NumberDress$Code", "numberSections", "()I"⟩ : MethodName) prog_2_method_9_code 4 (some .int) :: zT) { frames := 1, cells := 0, slots := 0, locals := 21 } (zPc gE (dC, dI) zCl [(cA1, .object "NumberDress$Section")] [.ref h0] sz [(h0, .inr (1, o_Code I0 h1 a0_2 a0_3)), (h1, .inl (cA1, 4, .inr (.inr (.inr (.inr (zra ad1 4)))))), ((ad1 0), .inr (9, o_Section I2)), ((ad1 1), .inr (9, o_Section I3)), ((ad1 2), .inr (9, o_Section I4)), ((ad1 3), .inr (9, o_Section I5))]) (va_Qi Z (zB (dC, dI) zCl [(cA1, .object "NumberDress$Section")] (va_A [(h0, .inr (1, o_Code I0 h1 a0_2 a0_3)), (h1, .inl (cA1, 4, .inr (.inr (.inr (.inr (zra ad1 4)))))), ((ad1 0), .inr (9, o_Section I2)), ((ad1 1), .inr (9, o_Section I3)), ((ad1 2), .inr (9, o_Section I4)), ((ad1 3), .inr (9, o_Section I5))] sz) (fun u : Unit => [(h0, .inr (1, o_Code I0 h1 a0_2 a0_3)), (h1, .inl (cA1, 4, .inr (.inr (.inr (.inr (zra ad1 4)))))), ((ad1 0), .inr (9, o_Section I2)), ((ad1 1), .inr (9, o_Section I3)), ((ad1 2), .inr (9, o_Section I4)), ((ad1 3), .inr (9, o_Section I5))])) (va_A [(h0, .inr (1, o_Code I0 h1 a0_2 a0_3)), (h1, .inl (cA1, 4, .inr (.inr (.inr (.inr (zra ad1 4)))))), ((ad1 0), .inr (9, o_Section I2)), ((ad1 1), .inr (9, o_Section I3)), ((ad1 2), .inr (9, o_Section I4)), ((ad1 3), .inr (9, o_Section I5))] sz)) 0 0 (va_A [(h0, .inr (1, o_Code I0 h1 a0_2 a0_3)), (h1, .inl (cA1, 4, .inr (.inr (.inr (.inr (zra ad1 4)))))), ((ad1 0), .inr (9, o_Section I2)), ((ad1 1), .inr (9, o_Section I3)), ((ad1 2), .inr (9, o_Section I4)), ((ad1 3), .inr (9, o_Section I5))] sz) := by
  refine Met.ofW (cc := prog_2_method_9_code) (maxL := 4) (ret := (some .int)) (by decide +kernel) rfl ?_
  intro p e s m args below meth c s₁ B hml hp
  obtain ⟨rfl, hsz, hP, hK, hD0, hE⟩ := hp
  have hts := atoms_spec (ws := (Cond.code (⟨"NumberDress$Code", "numberSections", "()I"⟩ : MethodName) prog_2_method_9_code 4 (some .int) :: zT)) B.pre
  have hown : s.vm.findClass "NumberDress$Code" = some m.cls := findClass_of_methodNamed B.named
  have hc : zC p s m _ meth c prog_2_method_9_code (some .int) 4 "NumberDress$Code" := ⟨B.exec, B.bytes, B.returns, hml, hown, fun w h => hts w (List.mem_cons_of_mem _ h), B.notSynchronized⟩
  subst hsz
  have hD := hD0.self (sz := s.heap.size)
  generalize hAe : va_A [(h0, .inr (1, o_Code I0 h1 a0_2 a0_3)), (h1, .inl (cA1, 4, .inr (.inr (.inr (.inr (zra ad1 4)))))), ((ad1 0), .inr (9, o_Section I2)), ((ad1 1), .inr (9, o_Section I3)), ((ad1 2), .inr (9, o_Section I4)), ((ad1 3), .inr (9, o_Section I5))] s.heap.size = A at hD hE ⊢
  have hA : ∀ q : Nat, s.heap.size ≤ q → A q := fun q h => by rw [← hAe]; exact Or.inr h
  have hl := lv_entry ([.ref h0]) (n := 4) (Nat.le_of_ble_eq_true rfl)
  rw [lg_entry_eq]
  exact b_Code_numberSections_0 hc hA hE hl hK hP hD va_S.rf hv
theorem d_Code_sectionForText_0 : decode prog_2_method_11_code 0 = .ok (.aload_n 0, 1) := by decide +kernel
theorem d_Code_sectionForText_1 : decode prog_2_method_11_code 1 = .ok (.aload_n 0, 1) := by decide +kernel
theorem d_Code_sectionForText_2 : decode prog_2_method_11_code 2 = .ok (.getfield 17, 3) := by decide +kernel
theorem d_Code_sectionForText_5 : decode prog_2_method_11_code 5 = .ok (.iconst 1, 1) := by decide +kernel
theorem d_Code_sectionForText_6 : decode prog_2_method_11_code 6 = .ok (.isub, 1) := by decide +kernel
theorem d_Code_sectionForText_7 : decode prog_2_method_11_code 7 = .ok (.invokevirtual 36, 3) := by decide +kernel
theorem d_Code_sectionForText_10 : decode prog_2_method_11_code 10 = .ok (.astore_n 1, 1) := by decide +kernel
theorem d_Code_sectionForText_11 : decode prog_2_method_11_code 11 = .ok (.aload_n 1, 1) := by decide +kernel
theorem d_Code_sectionForText_12 : decode prog_2_method_11_code 12 = .ok (.ifnull 24, 3) := by decide +kernel
theorem d_Code_sectionForText_15 : decode prog_2_method_11_code 15 = .ok (.aload_n 1, 1) := by decide +kernel
theorem d_Code_sectionForText_16 : decode prog_2_method_11_code 16 = .ok (.getfield 40, 3) := by decide +kernel
theorem d_Code_sectionForText_19 : decode prog_2_method_11_code 19 = .ok (.bipush 6, 2) := by decide +kernel
theorem d_Code_sectionForText_21 : decode prog_2_method_11_code 21 = .ok (.if_icmp .eq 11, 3) := by decide +kernel
theorem d_Code_sectionForText_24 : decode prog_2_method_11_code 24 = .ok (.aload_n 0, 1) := by decide +kernel
theorem d_Code_sectionForText_25 : decode prog_2_method_11_code 25 = .ok (.getfield 17, 3) := by decide +kernel
theorem d_Code_sectionForText_28 : decode prog_2_method_11_code 28 = .ok (.iconst 4, 1) := by decide +kernel
theorem d_Code_sectionForText_29 : decode prog_2_method_11_code 29 = .ok (.if_icmp .ne 7, 3) := by decide +kernel
theorem d_Code_sectionForText_32 : decode prog_2_method_11_code 32 = .ok (.iconst 1, 1) := by decide +kernel
theorem d_Code_sectionForText_33 : decode prog_2_method_11_code 33 = .ok (.goto 4, 3) := by decide +kernel
theorem d_Code_sectionForText_36 : decode prog_2_method_11_code 36 = .ok (.iconst 0, 1) := by decide +kernel
theorem d_Code_sectionForText_37 : decode prog_2_method_11_code 37 = .ok (.istore_n 2, 1) := by decide +kernel
theorem d_Code_sectionForText_38 : decode prog_2_method_11_code 38 = .ok (.iload_n 2, 1) := by decide +kernel
theorem d_Code_sectionForText_39 : decode prog_2_method_11_code 39 = .ok (.ifCond .eq 12, 3) := by decide +kernel
theorem d_Code_sectionForText_42 : decode prog_2_method_11_code 42 = .ok (.aload_n 0, 1) := by decide +kernel
theorem d_Code_sectionForText_43 : decode prog_2_method_11_code 43 = .ok (.getfield 17, 3) := by decide +kernel
theorem d_Code_sectionForText_46 : decode prog_2_method_11_code 46 = .ok (.iconst 1, 1) := by decide +kernel
theorem d_Code_sectionForText_47 : decode prog_2_method_11_code 47 = .ok (.isub, 1) := by decide +kernel
theorem d_Code_sectionForText_48 : decode prog_2_method_11_code 48 = .ok (.goto 4, 3) := by decide +kernel
theorem d_Code_sectionForText_51 : decode prog_2_method_11_code 51 = .ok (.iconst (-1), 1) := by decide +kernel
theorem d_Code_sectionForText_52 : decode prog_2_method_11_code 52 = .ok (.ireturn, 1) := by decide +kernel
set_option maxHeartbeats 4000000 in
set_option maxRecDepth 100000 in
theorem b_Code_sectionForText_37 {h0 : Nat} {a0_2 : Nat} {a0_3 : Nat} {h1 : Nat} {cA1 : ClassId} {ad1 : Nat → Nat} {I0 : Nat → Int32} {I2 : Nat → Int32} {I3 : Nat → Int32} {I4 : Nat → Int32} {I5 : Nat → Int32} {s0 : Int32}  {Z : Int32 → Unit → Prop} {H : Heap} {locs : List Loc} {ls : Array Slot} (hc : zC p s m args meth c prog_2_method_11_code (some .int) 3 "NumberDress$Code") (hA : ∀ q : Nat, s.heap.size ≤ q → A q) (hE : zE gE A s) (hl : lv_has ls 3 [(0, .ref h0)]) (hK : va_K (dC, dI) zCl [(cA1, .object "NumberDress$Section")] s) (hP : va_P (dC, dI) zCl [(h0, .inr (1, o_Code I0 h1 a0_2 a0_3)), (h1, .inl (cA1, 4, .inr (.inr (.inr (.inr (zra ad1 4)))))), ((ad1 0), .inr (9, o_Section I2)), ((ad1 1), .inr (9, o_Section I3)), ((ad1 2), .inr (9, o_Section I4)), ((ad1 3), .inr (9, o_Section I5))] H) (hD : va_D A [(h0, .inr (1, o_Code I0 h1 a0_2 a0_3)), (h1, .inl (cA1, 4, .inr (.inr (.inr (.inr (zra ad1 4)))))), ((ad1 0), .inr (9, o_Section I2)), ((ad1 1), .inr (9, o_Section I3)), ((ad1 2), .inr (9, o_Section I4)), ((ad1 3), .inr (9, o_Section I5))]) (hS : va_S A s.heap H locs) (hv : v_Code_sectionForText_37 I0 I2 I3 I4 I5 s0  Z) : W p l e (headSpec (Cond.code (⟨"NumberDress$Code", "sectionForText", "()I"⟩ : MethodName) prog_2_method_11_code 3 (some .int) :: zT) { frames := 1, cells := 0, slots := 0, locals := 21 }).room s m args below meth c H locs 0 0 (MQ below (va_Qi Z (zB (dC, dI) zCl [(cA1, .object "NumberDress$Section")] A (fun u : Unit => [(h0, .inr (1, o_Code I0 h1 a0_2 a0_3)), (h1, .inl (cA1, 4, .inr (.inr (.inr (.inr (zra ad1 4)))))), ((ad1 0), .inr (9, o_Section I2)), ((ad1 1), .inr (9, o_Section I3)), ((ad1 2), .inr (9, o_Section I4)), ((ad1 3), .inr (9, o_Section I5))])) A) args s 0 0 A) (F0 m 37 ls [.int s0]) := by
  obtain ⟨hx, hb, hr, hml, hown, ht, hlocks⟩ := id hc
  unfold v_Code_sectionForText_37 at hv
  refine lv_istore_n (lv' := [(2, .int s0), (0, .ref h0)]) hx hb d_Code_sectionForText_37 rfl hl (by decide) rfl (fun ls hl => ?_)
  refine lv_iload_n hx hb d_Code_sectionForText_38 rfl (lv_at hl 0 rfl) ?_
  refine lv_if_eq (tgt := 51) hx hb d_Code_sectionForText_39 (by decide) (fun c_1 => ?_) (fun c_1 => ?_)
  · have hv := hv.1 c_1
    refine lv_iconst (v := (-1 : Int32)) hx hb d_Code_sectionForText_51 (by decide) ?_
    exact W.iret (v := (-1 : Int32)) hx hb hr (fun t ht hW => ⟨⟨_, (), rfl, hv, ⟨by rw [ht]; exact hP, va_K.moved hW.alike hK, hD⟩⟩, hS.F ht⟩) hS.2.2 d_Code_sectionForText_52
  · have hv := hv.2 c_1
    refine lv_aload_n hx hb d_Code_sectionForText_42 rfl (lv_at hl 1 rfl) ?_
    refine va_get (D := (dC, dI)) (ci := 1) (v := .int (I0 1)) (C := "NumberDress$Code") (T := T_Code) (N := 5) hx hb ht zin_Code hown hK hP 0 rfl rfl 1 (by decide) (ht _ zw_244) (fun _ h9 => h9) rfl d_Code_sectionForText_43 ?_
    refine lv_iconst (v := (1 : Int32)) hx hb d_Code_sectionForText_46 (by decide) ?_
    refine lv_isub hx hb d_Code_sectionForText_47 ?_
    refine lv_goto (tgt := 52) hx hb d_Code_sectionForText_48 (by decide) ?_
    exact W.iret (v := ((I0 1) - (1 : Int32))) hx hb hr (fun t ht hW => ⟨⟨_, (), rfl, hv, ⟨by rw [ht]; exact hP, va_K.moved hW.alike hK, hD⟩⟩, hS.F ht⟩) hS.2.2 d_Code_sectionForText_52
set_option maxHeartbeats 4000000 in
set_option maxRecDepth 100000 in
theorem b_Code_sectionForText_36 {h0 : Nat} {a0_2 : Nat} {a0_3 : Nat} {h1 : Nat} {cA1 : ClassId} {ad1 : Nat → Nat} {I0 : Nat → Int32} {I2 : Nat → Int32} {I3 : Nat → Int32} {I4 : Nat → Int32} {I5 : Nat → Int32}  {Z : Int32 → Unit → Prop} {H : Heap} {locs : List Loc} {ls : Array Slot} (hc : zC p s m args meth c prog_2_method_11_code (some .int) 3 "NumberDress$Code") (hA : ∀ q : Nat, s.heap.size ≤ q → A q) (hE : zE gE A s) (hl : lv_has ls 3 [(0, .ref h0)]) (hK : va_K (dC, dI) zCl [(cA1, .object "NumberDress$Section")] s) (hP : va_P (dC, dI) zCl [(h0, .inr (1, o_Code I0 h1 a0_2 a0_3)), (h1, .inl (cA1, 4, .inr (.inr (.inr (.inr (zra ad1 4)))))), ((ad1 0), .inr (9, o_Section I2)), ((ad1 1), .inr (9, o_Section I3)), ((ad1 2), .inr (9, o_Section I4)), ((ad1 3), .inr (9, o_Section I5))] H) (hD : va_D A [(h0, .inr (1, o_Code I0 h1 a0_2 a0_3)), (h1, .inl (cA1, 4, .inr (.inr (.inr (.inr (zra ad1 4)))))), ((ad1 0), .inr (9, o_Section I2)), ((ad1 1), .inr (9, o_Section I3)), ((ad1 2), .inr (9, o_Section I4)), ((ad1 3), .inr (9, o_Section I5))]) (hS : va_S A s.heap H locs) (hv : v_Code_sectionForText_36 I0 I2 I3 I4 I5  Z) : W p l e (headSpec (Cond.code (⟨"NumberDress$Code", "sectionForText", "()I"⟩ : MethodName) prog_2_method_11_code 3 (some .int) :: zT) { frames := 1, cells := 0, slots := 0, locals := 21 }).room s m args below meth c H locs 0 0 (MQ below (va_Qi Z (zB (dC, dI) zCl [(cA1, .object "NumberDress$Section")] A (fun u : Unit => [(h0, .inr (1, o_Code I0 h1 a0_2 a0_3)), (h1, .inl (cA1, 4, .inr (.inr (.inr (.inr (zra ad1 4)))))), ((ad1 0), .inr (9, o_Section I2)), ((ad1 1), .inr (9, o_Section I3)), ((ad1 2), .inr (9, o_Section I4)), ((ad1 3), .inr (9, o_Section I5))])) A) args s 0 0 A) (F0 m 36 ls []) := by
  obtain ⟨hx, hb, hr, hml, hown, ht, hlocks⟩ := id hc
  unfold v_Code_sectionForText_36 at hv
  refine lv_iconst (v := (0 : Int32)) hx hb d_Code_sectionForText_36 (by decide) ?_
  exact b_Code_sectionForText_37 hc hA hE  (lv_sub hl [0] rfl) hK hP hD hS hv
set_option maxHeartbeats 4000000 in
set_option maxRecDepth 100000 in
theorem b_Code_sectionForText_10 {h0 : Nat} {a0_2 : Nat} {a0_3 : Nat} {h1 : Nat} {cA1 : ClassId} {ad1 : Nat → Nat} {I0 : Nat → Int32} {I2 : Nat → Int32} {I3 : Nat → Int32} {I4 : Nat → Int32} {I5 : Nat → Int32}  {Z : Int32 → Unit → Prop} {H : Heap} {locs : List Loc} {ls : Array Slot} (hc : zC p s m args meth c prog_2_method_11_code (some .int) 3 "NumberDress$Code") (hA : ∀ q : Nat, s.heap.size ≤ q → A q) (hE : zE gE A s) (hl : lv_has ls 3 [(0, .ref h0)]) (hK : va_K (dC, dI) zCl [(cA1, .object "NumberDress$Section")] s) (hP : va_P (dC, dI) zCl [(h0, .inr (1, o_Code I0 h1 a0_2 a0_3)), (h1, .inl (cA1, 4, .inr (.inr (.inr (.inr (zra ad1 4)))))), ((ad1 0), .inr (9, o_Section I2)), ((ad1 1), .inr (9, o_Section I3)), ((ad1 2), .inr (9, o_Section I4)), ((ad1 3), .inr (9, o_Section I5))] H) (hD : va_D A [(h0, .inr (1, o_Code I0 h1 a0_2 a0_3)), (h1, .inl (cA1, 4, .inr (.inr (.inr (.inr (zra ad1 4)))))), ((ad1 0), .inr (9, o_Section I2)), ((ad1 1), .inr (9, o_Section I3)), ((ad1 2), .inr (9, o_Section I4)), ((ad1 3), .inr (9, o_Section I5))]) (hS : va_S A s.heap H locs) (hv : v_Code_sectionForText_10 I0 I2 I3 I4 I5  Z) : W p l e (headSpec (Cond.code (⟨"NumberDress$Code", "sectionForText", "()I"⟩ : MethodName) prog_2_method_11_code 3 (some .int) :: zT) { frames := 1, cells := 0, slots := 0, locals := 21 }).room s m args below meth c H locs 0 0 (MQ below (va_Qi Z (zB (dC, dI) zCl [(cA1, .object "NumberDress$Section")] A (fun u : Unit => [(h0, .inr (1, o_Code I0 h1 a0_2 a0_3)), (h1, .inl (cA1, 4, .inr (.inr (.inr (.inr (zra ad1 4)))))), ((ad1 0), .inr (9, o_Section I2)), ((ad1 1), .inr (9, o_Section I3)), ((ad1 2), .inr (9, o_Section I4)), ((ad1 3), .inr (9, o_Section I5))])) A) args s 0 0 A) (F0 m 10 ls [.null]) := by
  obtain ⟨hx, hb, hr, hml, hown, ht, hlocks⟩ := id hc
  unfold v_Code_sectionForText_10 at hv
  refine lv_astore_nN (lv' := [(1, .null), (0, .ref h0)]) hx hb d_Code_sectionForText_10 rfl hl (by decide) rfl (fun ls hl => ?_)
  refine lv_aload_nN hx hb d_Code_sectionForText_11 rfl (lv_at hl 0 rfl) ?_
  refine lv_ifnullN (tgt := 36) hx hb d_Code_sectionForText_12 (by decide) ?_
  exact b_Code_sectionForText_36 hc hA hE  (lv_sub hl [1] rfl) hK hP hD hS hv
set_option maxHeartbeats 4000000 in
set_option maxRecDepth 100000 in
theorem b_Code_sectionForText_32 {h0 : Nat} {a0_2 : Nat} {a0_3 : Nat} {h1 : Nat} {cA1 : ClassId} {ad1 : Nat → Nat} {I0 : Nat → Int32} {I2 : Nat → Int32} {I3 : Nat → Int32} {I4 : Nat → Int32} {I5 : Nat → Int32}  {Z : Int32 → Unit → Prop} {H : Heap} {locs : List Loc} {ls : Array Slot} (hc : zC p s m args meth c prog_2_method_11_code (some .int) 3 "NumberDress$Code") (hA : ∀ q : Nat, s.heap.size ≤ q → A q) (hE : zE gE A s) (hl : lv_has ls 3 [(0, .ref h0)]) (hK : va_K (dC, dI) zCl [(cA1, .object "NumberDress$Section")] s) (hP : va_P (dC, dI) zCl [(h0, .inr (1, o_Code I0 h1 a0_2 a0_3)), (h1, .inl (cA1, 4, .inr (.inr (.inr (.inr (zra ad1 4)))))), ((ad1 0), .inr (9, o_Section I2)), ((ad1 1), .inr (9, o_Section I3)), ((ad1 2), .inr (9, o_Section I4)), ((ad1 3), .inr (9, o_Section I5))] H) (hD : va_D A [(h0, .inr (1, o_Code I0 h1 a0_2 a0_3)), (h1, .inl (cA1, 4, .inr (.inr (.inr (.inr (zra ad1 4)))))), ((ad1 0), .inr (9, o_Section I2)), ((ad1 1), .inr (9, o_Section I3)), ((ad1 2), .inr (9, o_Section I4)), ((ad1 3), .inr (9, o_Section I5))]) (hS : va_S A s.heap H locs) (hv : v_Code_sectionForText_32 I0 I2 I3 I4 I5  Z) : W p l e (headSpec (Cond.code (⟨"NumberDress$Code", "sectionForText", "()I"⟩ : MethodName) prog_2_method_11_code 3 (some .int) :: zT) { frames := 1, cells := 0, slots := 0, locals := 21 }).room s m args below meth c H locs 0 0 (MQ below (va_Qi Z (zB (dC, dI) zCl [(cA1, .object "NumberDress$Section")] A (fun u : Unit => [(h0, .inr (1, o_Code I0 h1 a0_2 a0_3)), (h1, .inl (cA1, 4, .inr (.inr (.inr (.inr (zra ad1 4)))))), ((ad1 0), .inr (9, o_Section I2)), ((ad1 1), .inr (9, o_Section I3)), ((ad1 2), .inr (9, o_Section I4)), ((ad1 3), .inr (9, o_Section I5))])) A) args s 0 0 A) (F0 m 32 ls []) := by
  obtain ⟨hx, hb, hr, hml, hown, ht, hlocks⟩ := id hc
  unfold v_Code_sectionForText_32 at hv
  refine lv_iconst (v := (1 : Int32)) hx hb d_Code_sectionForText_32 (by decide) ?_
  refine lv_goto (tgt := 37) hx hb d_Code_sectionForText_33 (by decide) ?_
  exact b_Code_sectionForText_37 hc hA hE  (lv_sub hl [0] rfl) hK hP hD hS hv
set_option maxHeartbeats 4000000 in
set_option maxRecDepth 100000 in
theorem b_Code_sectionForText_10v1 {h0 : Nat} {a0_2 : Nat} {a0_3 : Nat} {h1 : Nat} {cA1 : ClassId} {ad1 : Nat → Nat} {I0 : Nat → Int32} {I2 : Nat → Int32} {I3 : Nat → Int32} {I4 : Nat → Int32} {I5 : Nat → Int32} {s0 : Nat}  {Z : Int32 → Unit → Prop} {H : Heap} {locs : List Loc} {ls : Array Slot} (hc : zC p s m args meth c prog_2_method_11_code (some .int) 3 "NumberDress$Code") (hA : ∀ q : Nat, s.heap.size ≤ q → A q) (hE : zE gE A s) (hl : lv_has ls 3 [(0, .ref h0)]) (hK : va_K (dC, dI) zCl [(cA1, .object "NumberDress$Section")] s) (hP : va_P (dC, dI) zCl [(h0, .inr (1, o_Code I0 h1 a0_2 a0_3)), (h1, .inl (cA1, 4, .inr (.inr (.inr (.inr (zra ad1 4)))))), ((ad1 0), .inr (9, o_Section I2)), ((ad1 1), .inr (9, o_Section I3)), ((ad1 2), .inr (9, o_Section I4)), ((ad1 3), .inr (9, o_Section I5))] H) (hD : va_D A [(h0, .inr (1, o_Code I0 h1 a0_2 a0_3)), (h1, .inl (cA1, 4, .inr (.inr (.inr (.inr (zra ad1 4)))))), ((ad1 0), .inr (9, o_Section I2)), ((ad1 1), .inr (9, o_Section I3)), ((ad1 2), .inr (9, o_Section I4)), ((ad1 3), .inr (9, o_Section I5))]) (hS : va_S A s.heap H locs) (hv : v_Code_sectionForText_10v1 I0 I2 I3 I4 I5 s0  Z) : W p l e (headSpec (Cond.code (⟨"NumberDress$Code", "sectionForText", "()I"⟩ : MethodName) prog_2_method_11_code 3 (some .int) :: zT) { frames := 1, cells := 0, slots := 0, locals := 21 }).room s m args below meth c H locs 0 0 (MQ below (va_Qi Z (zB (dC, dI) zCl [(cA1, .object "NumberDress$Section")] A (fun u : Unit => [(h0, .inr (1, o_Code I0 h1 a0_2 a0_3)), (h1, .inl (cA1, 4, .inr (.inr (.inr (.inr (zra ad1 4)))))), ((ad1 0), .inr (9, o_Section I2)), ((ad1 1), .inr (9, o_Section I3)), ((ad1 2), .inr (9, o_Section I4)), ((ad1 3), .inr (9, o_Section I5))])) A) args s 0 0 A) (F0 m 10 ls [.ref (ad1 s0)]) := by
  obtain ⟨hx, hb, hr, hml, hown, ht, hlocks⟩ := id hc
  unfold v_Code_sectionForText_10v1 at hv
  refine lv_astore_n (lv' := [(1, .ref (ad1 s0)), (0, .ref h0)]) hx hb d_Code_sectionForText_10 rfl hl (by decide) rfl (fun ls hl => ?_)
  refine lv_aload_n hx hb d_Code_sectionForText_11 rfl (lv_at hl 0 rfl) ?_
  refine lv_ifnull hx hb d_Code_sectionForText_12 ?_
  refine lv_aload_n hx hb d_Code_sectionForText_15 rfl (lv_at hl 0 rfl) ?_
  obtain ⟨q_1, hv⟩ := hv
  rcases z4 q_1 with rfl | rfl | rfl | rfl
  · have hv := hv.1 rfl
    refine va_get (D := (dC, dI)) (ci := 9) (v := .int (I2 0)) (C := "NumberDress$Section") (T := T_Section) (N := 15) hx hb ht zin_Section hown hK hP 2 rfl rfl 0 (by decide) (ht _ zw_160) (fun _ h9 => h9) rfl d_Code_sectionForText_16 ?_
    refine lv_bipush (v := (6 : Int32)) hx hb d_Code_sectionForText_19 (by decide) ?_
    refine lv_icmp_eq (tgt := 32) hx hb d_Code_sectionForText_21 (by decide) (fun c_2 => ?_) (fun c_2 => ?_)
    · have hv := hv.1 c_2
      exact b_Code_sectionForText_32 hc hA hE  (lv_sub hl [1] rfl) hK hP hD hS hv
    · have hv := hv.2 c_2
      refine lv_aload_n hx hb d_Code_sectionForText_24 rfl (lv_at hl 1 rfl) ?_
      refine va_get (D := (dC, dI)) (ci := 1) (v := .int (I0 1)) (C := "NumberDress$Code") (T := T_Code) (N := 5) hx hb ht zin_Code hown hK hP 0 rfl rfl 1 (by decide) (ht _ zw_244) (fun _ h9 => h9) rfl d_Code_sectionForText_25 ?_
      refine lv_iconst (v := (4 : Int32)) hx hb d_Code_sectionForText_28 (by decide) ?_
      refine lv_icmp_ne (tgt := 36) hx hb d_Code_sectionForText_29 (by decide) (fun c_3 => ?_) (fun c_3 => ?_)
      · have hv := hv.1 c_3
        exact b_Code_sectionForText_36 hc hA hE  (lv_sub hl [1] rfl) hK hP hD hS hv
      · have hv := hv.2 c_3
        exact b_Code_sectionForText_32 hc hA hE  (lv_sub hl [1] rfl) hK hP hD hS hv
  · have hv := hv.2.1 rfl
    refine va_get (D := (dC, dI)) (ci := 9) (v := .int (I3 0)) (C := "NumberDress$Section") (T := T_Section) (N := 15) hx hb ht zin_Section hown hK hP 3 rfl rfl 0 (by decide) (ht _ zw_160) (fun _ h9 => h9) rfl d_Code_sectionForText_16 ?_
    refine lv_bipush (v := (6 : Int32)) hx hb d_Code_sectionForText_19 (by decide) ?_
    refine lv_icmp_eq (tgt := 32) hx hb d_Code_sectionForText_21 (by decide) (fun c_4 => ?_) (fun c_4 => ?_)
    · have hv := hv.1 c_4
      exact b_Code_sectionForText_32 hc hA hE  (lv_sub hl [1] rfl) hK hP hD hS hv
    · have hv := hv.2 c_4
      refine lv_aload_n hx hb d_Code_sectionForText_24 rfl (lv_at hl 1 rfl) ?_
      refine va_get (D := (dC, dI)) (ci := 1) (v := .int (I0 1)) (C := "NumberDress$Code") (T := T_Code) (N := 5) hx hb ht zin_Code hown hK hP 0 rfl rfl 1 (by decide) (ht _ zw_244) (fun _ h9 => h9) rfl d_Code_sectionForText_25 ?_
      refine lv_iconst (v := (4 : Int32)) hx hb d_Code_sectionForText_28 (by decide) ?_
      refine lv_icmp_ne (tgt := 36) hx hb d_Code_sectionForText_29 (by decide) (fun c_5 => ?_) (fun c_5 => ?_)
      · have hv := hv.1 c_5
        exact b_Code_sectionForText_36 hc hA hE  (lv_sub hl [1] rfl) hK hP hD hS hv
      · have hv := hv.2 c_5
        exact b_Code_sectionForText_32 hc hA hE  (lv_sub hl [1] rfl) hK hP hD hS hv
  · have hv := hv.2.2.1 rfl
    refine va_get (D := (dC, dI)) (ci := 9) (v := .int (I4 0)) (C := "NumberDress$Section") (T := T_Section) (N := 15) hx hb ht zin_Section hown hK hP 4 rfl rfl 0 (by decide) (ht _ zw_160) (fun _ h9 => h9) rfl d_Code_sectionForText_16 ?_
    refine lv_bipush (v := (6 : Int32)) hx hb d_Code_sectionForText_19 (by decide) ?_
    refine lv_icmp_eq (tgt := 32) hx hb d_Code_sectionForText_21 (by decide) (fun c_6 => ?_) (fun c_6 => ?_)
    · have hv := hv.1 c_6
      exact b_Code_sectionForText_32 hc hA hE  (lv_sub hl [1] rfl) hK hP hD hS hv
    · have hv := hv.2 c_6
      refine lv_aload_n hx hb d_Code_sectionForText_24 rfl (lv_at hl 1 rfl) ?_
      refine va_get (D := (dC, dI)) (ci := 1) (v := .int (I0 1)) (C := "NumberDress$Code") (T := T_Code) (N := 5) hx hb ht zin_Code hown hK hP 0 rfl rfl 1 (by decide) (ht _ zw_244) (fun _ h9 => h9) rfl d_Code_sectionForText_25 ?_
      refine lv_iconst (v := (4 : Int32)) hx hb d_Code_sectionForText_28 (by decide) ?_
      refine lv_icmp_ne (tgt := 36) hx hb d_Code_sectionForText_29 (by decide) (fun c_7 => ?_) (fun c_7 => ?_)
      · have hv := hv.1 c_7
        exact b_Code_sectionForText_36 hc hA hE  (lv_sub hl [1] rfl) hK hP hD hS hv
      · have hv := hv.2 c_7
        exact b_Code_sectionForText_32 hc hA hE  (lv_sub hl [1] rfl) hK hP hD hS hv
  · have hv := hv.2.2.2 rfl
    refine va_get (D := (dC, dI)) (ci := 9) (v := .int (I5 0)) (C := "NumberDress$Section") (T := T_Section) (N := 15) hx hb ht zin_Section hown hK hP 5 rfl rfl 0 (by decide) (ht _ zw_160) (fun _ h9 => h9) rfl d_Code_sectionForText_16 ?_
    refine lv_bipush (v := (6 : Int32)) hx hb d_Code_sectionForText_19 (by decide) ?_
    refine lv_icmp_eq (tgt := 32) hx hb d_Code_sectionForText_21 (by decide) (fun c_8 => ?_) (fun c_8 => ?_)
    · have hv := hv.1 c_8
      exact b_Code_sectionForText_32 hc hA hE  (lv_sub hl [1] rfl) hK hP hD hS hv
    · have hv := hv.2 c_8
      refine lv_aload_n hx hb d_Code_sectionForText_24 rfl (lv_at hl 1 rfl) ?_
      refine va_get (D := (dC, dI)) (ci := 1) (v := .int (I0 1)) (C := "NumberDress$Code") (T := T_Code) (N := 5) hx hb ht zin_Code hown hK hP 0 rfl rfl 1 (by decide) (ht _ zw_244) (fun _ h9 => h9) rfl d_Code_sectionForText_25 ?_
      refine lv_iconst (v := (4 : Int32)) hx hb d_Code_sectionForText_28 (by decide) ?_
      refine lv_icmp_ne (tgt := 36) hx hb d_Code_sectionForText_29 (by decide) (fun c_9 => ?_) (fun c_9 => ?_)
      · have hv := hv.1 c_9
        exact b_Code_sectionForText_36 hc hA hE  (lv_sub hl [1] rfl) hK hP hD hS hv
      · have hv := hv.2 c_9
        exact b_Code_sectionForText_32 hc hA hE  (lv_sub hl [1] rfl) hK hP hD hS hv
set_option maxHeartbeats 4000000 in
set_option maxRecDepth 100000 in
theorem b_Code_sectionForText_0 {h0 : Nat} {a0_2 : Nat} {a0_3 : Nat} {h1 : Nat} {cA1 : ClassId} {ad1 : Nat → Nat} {I0 : Nat → Int32} {I2 : Nat → Int32} {I3 : Nat → Int32} {I4 : Nat → Int32} {I5 : Nat → Int32}  {Z : Int32 → Unit → Prop} {H : Heap} {locs : List Loc} {ls : Array Slot} (hc : zC p s m args meth c prog_2_method_11_code (some .int) 3 "NumberDress$Code") (hA : ∀ q : Nat, s.heap.size ≤ q → A q) (hE : zE gE A s) (hl : lv_has ls 3 [(0, .ref h0)]) (hK : va_K (dC, dI) zCl [(cA1, .object "NumberDress$Section")] s) (hP : va_P (dC, dI) zCl [(h0, .inr (1, o_Code I0 h1 a0_2 a0_3)), (h1, .inl (cA1, 4, .inr (.inr (.inr (.inr (zra ad1 4)))))), ((ad1 0), .inr (9, o_Section I2)), ((ad1 1), .inr (9, o_Section I3)), ((ad1 2), .inr (9, o_Section I4)), ((ad1 3), .inr (9, o_Section I5))] H) (hD : va_D A [(h0, .inr (1, o_Code I0 h1 a0_2 a0_3)), (h1, .inl (cA1, 4, .inr (.inr (.inr (.inr (zra ad1 4)))))), ((ad1 0), .inr (9, o_Section I2)), ((ad1 1), .inr (9, o_Section I3)), ((ad1 2), .inr (9, o_Section I4)), ((ad1 3), .inr (9, o_Section I5))]) (hS : va_S A s.heap H locs) (hv : v_Code_sectionForText_0 I0 I2 I3 I4 I5  Z) : W p l e (headSpec (Cond.code (⟨"NumberDress$Code", "sectionForText", "()I"⟩ : MethodName) prog_2_method_11_code 3 (some .int) :: zT) { frames := 1, cells := 0, slots := 0, locals := 21 }).room s m args below meth c H locs 0 0 (MQ below (va_Qi Z (zB (dC, dI) zCl [(cA1, .object "NumberDress$Section")] A (fun u : Unit => [(h0, .inr (1, o_Code I0 h1 a0_2 a0_3)), (h1, .inl (cA1, 4, .inr (.inr (.inr (.inr (zra ad1 4)))))), ((ad1 0), .inr (9, o_Section I2)), ((ad1 1), .inr (9, o_Section I3)), ((ad1 2), .inr (9, o_Section I4)), ((ad1 3), .inr (9, o_Section I5))])) A) args s 0 0 A) (F0 m 0 ls []) := by
  obtain ⟨hx, hb, hr, hml, hown, ht, hlocks⟩ := id hc
  unfold v_Code_sectionForText_0 at hv
  refine lv_aload_n hx hb d_Code_sectionForText_0 rfl (lv_at hl 0 rfl) ?_
  refine lv_aload_n hx hb d_Code_sectionForText_1 rfl (lv_at hl 0 rfl) ?_
  refine va_get (D := (dC, dI)) (ci := 1) (v := .int (I0 1)) (C := "NumberDress$Code") (T := T_Code) (N := 5) hx hb ht zin_Code hown hK hP 0 rfl rfl 1 (by decide) (ht _ zw_244) (fun _ h9 => h9) rfl d_Code_sectionForText_2 ?_
  refine lv_iconst (v := (1 : Int32)) hx hb d_Code_sectionForText_5 (by decide) ?_
  refine lv_isub hx hb d_Code_sectionForText_6 ?_
  refine z_callq (wc := [(h0, .inr (1, o_Code I0 h1 a0_2 a0_3)), (h1, .inl (cA1, 4, .inr (.inr (.inr (.inr (zra ad1 4))))))]) (wr := [((ad1 0), .inr (9, o_Section I2)), ((ad1 1), .inr (9, o_Section I3)), ((ad1 2), .inr (9, o_Section I4)), ((ad1 3), .inr (9, o_Section I5))]) [0, 1] [2, 3, 4, 5] (va_runV (As := [.int ((I0 1) - (1 : Int32))]) (rest := []) ⟨hx, hb, hml, hown, ht⟩ (m_Code_section l dC dI hv) ⟨(callB_of 1 ht (zG_in zi_Code_section) rfl rfl rfl (ht _ zw_111) (ht _ zw_850) zh_Code_section ⟨Nat.le_of_ble_eq_true rfl, Nat.le_of_ble_eq_true rfl⟩), (ht _ zw_851), (ht _ zw_852)⟩ ⟨zPc_blind, va_recv hK hP (ci := 1) (q0 := 0) rfl rfl, zPc_pre hP hK hD hS hA hE [0, 1] [0] rfl rfl (by decide) rfl⟩ rfl rfl hl.1 rfl (lv_room (Nat.le_of_ble_eq_true rfl)) d_Code_sectionForText_7 ⟨Nat.le_of_ble_eq_true rfl, Nat.le_of_ble_eq_true rfl⟩) hP hD hS hA rfl rfl (by decide) (by decide) (fun r u H locs hv hP0 hD0 hS => ?_)
  have hP : va_P (dC, dI) zCl [(h0, .inr (1, o_Code I0 h1 a0_2 a0_3)), (h1, .inl (cA1, 4, .inr (.inr (.inr (.inr (zra ad1 4)))))), ((ad1 0), .inr (9, o_Section I2)), ((ad1 1), .inr (9, o_Section I3)), ((ad1 2), .inr (9, o_Section I4)), ((ad1 3), .inr (9, o_Section I5))] H := hP0.sub [4, 5, 0, 1, 2, 3] rfl
  have hD : va_D A [(h0, .inr (1, o_Code I0 h1 a0_2 a0_3)), (h1, .inl (cA1, 4, .inr (.inr (.inr (.inr (zra ad1 4)))))), ((ad1 0), .inr (9, o_Section I2)), ((ad1 1), .inr (9, o_Section I3)), ((ad1 2), .inr (9, o_Section I4)), ((ad1 3), .inr (9, o_Section I5))] := hD0.sub [4, 5, 0, 1, 2, 3] (by decide) rfl
  clear hP0 hD0
  rcases r with _ | j
  · have hv := hv.1 rfl
    exact b_Code_sectionForText_10 hc hA hE  (lv_sub hl [0] rfl) hK hP hD hS hv
  · have hv := hv.2 j rfl
    exact b_Code_sectionForText_10v1 hc hA hE  (lv_sub hl [0] rfl) hK hP hD hS hv
theorem zi_Code_sectionForText : Cond.code (⟨"NumberDress$Code", "sectionForText", "()I"⟩ : MethodName) prog_2_method_11_code 3 (some .int) ∈ zT := zw_849
theorem zh_Code_sectionForText : (((⟨"NumberDress$Code", "sectionForText", "()I"⟩ : MethodName)).cls ≠ "java/lang/invoke/MethodHandle" ∧ ((⟨"NumberDress$Code", "sectionForText", "()I"⟩ : MethodName)).cls ≠ "java/lang/invoke/VarHandle" ∧ (parseMethodDescriptor ((⟨"NumberDress$Code", "sectionForText", "()I"⟩ : MethodName)).desc).map (fun d => d.parameters.length) = some 0) := by decide +kernel
set_option maxHeartbeats 4000000 in
set_option maxRecDepth 100000 in
theorem m_Code_sectionForText (l : Launch) (dC : Nat → ClassId) (dI : Nat → Nat → Nat) {gE : zG} {h0 : Nat} {a0_2 : Nat} {a0_3 : Nat} {h1 : Nat} {cA1 : ClassId} {ad1 : Nat → Nat} {I0 : Nat → Int32} {I2 : Nat → Int32} {I3 : Nat → Int32} {I4 : Nat → Int32} {I5 : Nat → Int32} {sz : Nat} {Z : Int32 → Unit → Prop} (hv : v_Code_sectionForText_0 I0 I2 I3 I4 I5 Z) : Met l (⟨"NumberDress$Code", "sectionForText", "()I"⟩ : MethodName) (Cond.code (⟨"NumberDress$Code", "sectionForText", "()I"⟩ : MethodName) prog_2_method_11_code 3 (some .int) :: zT) { frames := 1, cells := 0, slots := 0, locals := 21 } (zPc gE (dC, dI) zCl [(cA1, .object "NumberDress$Section")] [.ref h0] sz [(h0, .inr (1, o_Code I0 h1 a0_2 a0_3)), (h1, .inl (cA1, 4, .inr (.inr (.inr (.inr (zra ad1 4)))))), ((ad1 0), .inr (9, o_Section I2)), ((ad1 1), .inr (9, o_Section I3)), ((ad1 2), .inr (9, o_Section I4)), ((ad1 3), .inr (9, o_Section I5))]) (va_Qi Z (zB (dC, dI) zCl [(cA1, .object "NumberDress$Section")] (va_A [(h0, .inr (1, o_Code I0 h1 a0_2 a0_3)), (h1, .inl (cA1, 4, .inr (.inr (.inr (.inr (zra ad1 4)))))), ((ad1 0), .inr (9, o_Section I2)), ((ad1 1), .inr (9, o_Section I3)), ((ad1 2), .inr (9, o_Section I4)), ((ad1 3), .inr (9, o_Section I5))] sz) (fun u : Unit => [(h0, .inr (1, o_Code I0 h1 a0_2 a0_3)), (h1, .inl (cA1, 4, .inr (.inr (.inr (.inr (zra ad1 4)))))), ((ad1 0), .inr (9, o_Section I2)), ((ad1 1), .inr (9, o_Section I3)), ((ad1 2), .inr (9, o_Section I4)), ((ad1 3), .inr (9, o_Section I5))])) (va_A [(h0, .inr (1, o_Code I0 h1 a0_2 a0_3)), (h1, .inl (cA1, 4, .inr (.inr (.inr (.inr (zra ad1 4)))))), ((ad1 0), .inr (9, o_Section I2)), ((ad1 1), .inr (9, o_Section I3)), ((ad1 2), .inr (9, o_Section I4)), ((ad1 3), .inr (9, o_Section I5))] sz)) 0 0 (va_A [(h0, .inr (1, o_Code I0 h1 a0_2 a0_3)), (h1, .inl (cA1, 4, .inr (.inr (.inr (.inr (zra ad1 4)))))), ((ad1 0), .inr (9, o_Section I2)), ((ad1 1), .inr (9, o_Section I3)), ((ad1 2), .inr (9, o_Section I4)), ((ad1 3), .inr (9, o_Section I5))] sz) := by
  refine Met.ofW (cc := prog_2_method_11_code) (maxL := 3) (ret := (some .int)) (by decide +kernel) rfl ?_
  intro p e s m args below meth c s₁ B hml hp
  obtain ⟨rfl, hsz, hP, hK, hD0, hE⟩ := hp
  have hts := atoms_spec (ws := (Cond.code (⟨"NumberDress$Code", "sectionForText", "()I"⟩ : MethodName) prog_2_method_11_code 3 (some .int) :: zT)) B.pre
  have hown : s.vm.findClass "NumberDress$Code" = some m.cls := findClass_of_methodNamed B.named
  have hc : zC p s m _ meth c prog_2_method_11_code (some .int) 3 "NumberDress$Code" := ⟨B.exec, B.bytes, B.returns, hml, hown, fun w h => hts w (List.mem_cons_of_mem _ h), B.notSynchronized⟩
  subst hsz
  have hD := hD0.self (sz := s.heap.size)
  generalize hAe : va_A [(h0, .inr (1, o_Code I0 h1 a0_2 a0_3)), (h1, .inl (cA1, 4, .inr (.inr (.inr (.inr (zra ad1 4)))))), ((ad1 0), .inr (9, o_Section I2)), ((ad1 1), .inr (9, o_Section I3)), ((ad1 2), .inr (9, o_Section I4)), ((ad1 3), .inr (9, o_Section I5))] s.heap.size = A at hD hE ⊢
  have hA : ∀ q : Nat, s.heap.size ≤ q → A q := fun q h => by rw [← hAe]; exact Or.inr h
  have hl := lv_entry ([.ref h0]) (n := 3) (Nat.le_of_ble_eq_true rfl)
  rw [lg_entry_eq]
  exact b_Code_sectionForText_0 hc hA hE hl hK hP hD va_S.rf hv
theorem d_Code_sectionFor_0 : decode prog_2_method_10_code 0 = .ok (.aload_n 1, 1) := by decide +kernel
theorem d_Code_sectionFor_1 : decode prog_2_method_10_code 1 = .ok (.getfield 43, 3) := by decide +kernel
theorem d_Code_sectionFor_4 : decode prog_2_method_10_code 4 = .ok (.ifCond .eq 8, 3) := by decide +kernel
theorem d_Code_sectionFor_7 : decode prog_2_method_10_code 7 = .ok (.aload_n 0, 1) := by decide +kernel
theorem d_Code_sectionFor_8 : decode prog_2_method_10_code 8 = .ok (.invokevirtual 49, 3) := by decide +kernel
theorem d_Code_sectionFor_11 : decode prog_2_method_10_code 11 = .ok (.ireturn, 1) := by decide +kernel
theorem d_Code_sectionFor_12 : decode prog_2_method_10_code 12 = .ok (.aload_n 0, 1) := by decide +kernel
theorem d_Code_sectionFor_13 : decode prog_2_method_10_code 13 = .ok (.invokevirtual 53, 3) := by decide +kernel
theorem d_Code_sectionFor_16 : decode prog_2_method_10_code 16 = .ok (.istore_n 2, 1) := by decide +kernel
theorem d_Code_sectionFor_17 : decode prog_2_method_10_code 17 = .ok (.iload_n 2, 1) := by decide +kernel
theorem d_Code_sectionFor_18 : decode prog_2_method_10_code 18 = .ok (.ifCond .ne 5, 3) := by decide +kernel
theorem d_Code_sectionFor_21 : decode prog_2_method_10_code 21 = .ok (.iconst (-1), 1) := by decide +kernel
theorem d_Code_sectionFor_22 : decode prog_2_method_10_code 22 = .ok (.ireturn, 1) := by decide +kernel
theorem d_Code_sectionFor_23 : decode prog_2_method_10_code 23 = .ok (.iload_n 2, 1) := by decide +kernel
theorem d_Code_sectionFor_24 : decode prog_2_method_10_code 24 = .ok (.iconst 2, 1) := by decide +kernel
theorem d_Code_sectionFor_25 : decode prog_2_method_10_code 25 = .ok (.if_icmp .lt 12, 3) := by decide +kernel
theorem d_Code_sectionFor_28 : decode prog_2_method_10_code 28 = .ok (.aload_n 1, 1) := by decide +kernel
theorem d_Code_sectionFor_29 : decode prog_2_method_10_code 29 = .ok (.getfield 56, 3) := by decide +kernel
theorem d_Code_sectionFor_32 : decode prog_2_method_10_code 32 = .ok (.ifCond .eq 5, 3) := by decide +kernel
theorem d_Code_sectionFor_35 : decode prog_2_method_10_code 35 = .ok (.iconst 1, 1) := by decide +kernel
theorem d_Code_sectionFor_36 : decode prog_2_method_10_code 36 = .ok (.ireturn, 1) := by decide +kernel
theorem d_Code_sectionFor_37 : decode prog_2_method_10_code 37 = .ok (.iload_n 2, 1) := by decide +kernel
theorem d_Code_sectionFor_38 : decode prog_2_method_10_code 38 = .ok (.iconst 3, 1) := by decide +kernel
theorem d_Code_sectionFor_39 : decode prog_2_method_10_code 39 = .ok (.if_icmp .ne 16, 3) := by decide +kernel
theorem d_Code_sectionFor_42 : decode prog_2_method_10_code 42 = .ok (.aload_n 1, 1) := by decide +kernel
theorem d_Code_sectionFor_43 : decode prog_2_method_10_code 43 = .ok (.getfield 59, 3) := by decide +kernel
theorem d_Code_sectionFor_46 : decode prog_2_method_10_code 46 = .ok (.lconst 0, 1) := by decide +kernel
theorem d_Code_sectionFor_47 : decode prog_2_method_10_code 47 = .ok (.lcmp, 1) := by decide +kernel
theorem d_Code_sectionFor_48 : decode prog_2_method_10_code 48 = .ok (.ifCond .ne 7, 3) := by decide +kernel
theorem d_Code_sectionFor_51 : decode prog_2_method_10_code 51 = .ok (.iconst 2, 1) := by decide +kernel
theorem d_Code_sectionFor_52 : decode prog_2_method_10_code 52 = .ok (.goto 4, 3) := by decide +kernel
theorem d_Code_sectionFor_55 : decode prog_2_method_10_code 55 = .ok (.iconst 0, 1) := by decide +kernel
theorem d_Code_sectionFor_56 : decode prog_2_method_10_code 56 = .ok (.ireturn, 1) := by decide +kernel
set_option maxHeartbeats 4000000 in
set_option maxRecDepth 100000 in
theorem b_Code_sectionFor_11 {h0 : Nat} {a0_2 : Nat} {a0_3 : Nat} {h1 : Nat} {a1_4 : Nat} {h2 : Nat} {cA2 : ClassId} {ad2 : Nat → Nat} {I0 : Nat → Int32} {I1 : Nat → Int32} {J1 : Nat → Int64} {I3 : Nat → Int32} {I4 : Nat → Int32} {I5 : Nat → Int32} {I6 : Nat → Int32} {s0 : Int32}  {Z : Int32 → Unit → Prop} {H : Heap} {locs : List Loc} {ls : Array Slot} (hc : zC p s m args meth c prog_2_method_10_code (some .int) 3 "NumberDress$Code") (hA : ∀ q : Nat, s.heap.size ≤ q → A q) (hE : zE gE A s) (hl : lv_has ls 3 []) (hK : va_K (dC, dI) zCl [(cA2, .object "NumberDress$Section")] s) (hP : va_P (dC, dI) zCl [(h0, .inr (1, o_Code I0 h2 a0_2 a0_3)), (h1, .inr (11, o_Value I1 J1 a1_4)), (h2, .inl (cA2, 4, .inr (.inr (.inr (.inr (zra ad2 4)))))), ((ad2 0), .inr (9, o_Section I3)), ((ad2 1), .inr (9, o_Section I4)), ((ad2 2), .inr (9, o_Section I5)), ((ad2 3), .inr (9, o_Section I6))] H) (hD : va_D A [(h0, .inr (1, o_Code I0 h2 a0_2 a0_3)), (h1, .inr (11, o_Value I1 J1 a1_4)), (h2, .inl (cA2, 4, .inr (.inr (.inr (.inr (zra ad2 4)))))), ((ad2 0), .inr (9, o_Section I3)), ((ad2 1), .inr (9, o_Section I4)), ((ad2 2), .inr (9, o_Section I5)), ((ad2 3), .inr (9, o_Section I6))]) (hS : va_S A s.heap H locs) (hv : v_Code_sectionFor_11 I0 I1 J1 I3 I4 I5 I6 s0  Z) : W p l e (headSpec (Cond.code (⟨"NumberDress$Code", "sectionFor", "(LNumberDress$Value;)I"⟩ : MethodName) prog_2_method_10_code 3 (some .int) :: zT) { frames := 2, cells := 0, slots := 0, locals := 44 }).room s m args below meth c H locs 0 0 (MQ below (va_Qi Z (zB (dC, dI) zCl [(cA2, .object "NumberDress$Section")] A (fun u : Unit => [(h0, .inr (1, o_Code I0 h2 a0_2 a0_3)), (h1, .inr (11, o_Value I1 J1 a1_4)), (h2, .inl (cA2, 4, .inr (.inr (.inr (.inr (zra ad2 4)))))), ((ad2 0), .inr (9, o_Section I3)), ((ad2 1), .inr (9, o_Section I4)), ((ad2 2), .inr (9, o_Section I5)), ((ad2 3), .inr (9, o_Section I6))])) A) args s 0 0 A) (F0 m 11 ls [.int s0]) := by
  obtain ⟨hx, hb, hr, hml, hown, ht, hlocks⟩ := id hc
  unfold v_Code_sectionFor_11 at hv
  exact W.iret (v := s0) hx hb hr (fun t ht hW => ⟨⟨_, (), rfl, hv, ⟨by rw [ht]; exact hP, va_K.moved hW.alike hK, hD⟩⟩, hS.F ht⟩) hS.2.2 d_Code_sectionFor_11
set_option maxHeartbeats 4000000 in
set_option maxRecDepth 100000 in
theorem b_Code_sectionFor_37 {h0 : Nat} {a0_2 : Nat} {a0_3 : Nat} {h1 : Nat} {a1_4 : Nat} {h2 : Nat} {cA2 : ClassId} {ad2 : Nat → Nat} {I0 : Nat → Int32} {I1 : Nat → Int32} {J1 : Nat → Int64} {I3 : Nat → Int32} {I4 : Nat → Int32} {I5 : Nat → Int32} {I6 : Nat → Int32} {x2 : Int32}  {Z : Int32 → Unit → Prop} {H : Heap} {locs : List Loc} {ls : Array Slot} (hc : zC p s m args meth c prog_2_method_10_code (some .int) 3 "NumberDress$Code") (hA : ∀ q : Nat, s.heap.size ≤ q → A q) (hE : zE gE A s) (hl : lv_has ls 3 [(1, .ref h1), (2, .int x2)]) (hK : va_K (dC, dI) zCl [(cA2, .object "NumberDress$Section")] s) (hP : va_P (dC, dI) zCl [(h0, .inr (1, o_Code I0 h2 a0_2 a0_3)), (h1, .inr (11, o_Value I1 J1 a1_4)), (h2, .inl (cA2, 4, .inr (.inr (.inr (.inr (zra ad2 4)))))), ((ad2 0), .inr (9, o_Section I3)), ((ad2 1), .inr (9, o_Section I4)), ((ad2 2), .inr (9, o_Section I5)), ((ad2 3), .inr (9, o_Section I6))] H) (hD : va_D A [(h0, .inr (1, o_Code I0 h2 a0_2 a0_3)), (h1, .inr (11, o_Value I1 J1 a1_4)), (h2, .inl (cA2, 4, .inr (.inr (.inr (.inr (zra ad2 4)))))), ((ad2 0), .inr (9, o_Section I3)), ((ad2 1), .inr (9, o_Section I4)), ((ad2 2), .inr (9, o_Section I5)), ((ad2 3), .inr (9, o_Section I6))]) (hS : va_S A s.heap H locs) (hv : v_Code_sectionFor_37 I0 I1 J1 I3 I4 I5 I6 x2  Z) : W p l e (headSpec (Cond.code (⟨"NumberDress$Code", "sectionFor", "(LNumberDress$Value;)I"⟩ : MethodName) prog_2_method_10_code 3 (some .int) :: zT) { frames := 2, cells := 0, slots := 0, locals := 44 }).room s m args below meth c H locs 0 0 (MQ below (va_Qi Z (zB (dC, dI) zCl [(cA2, .object "NumberDress$Section")] A (fun u : Unit => [(h0, .inr (1, o_Code I0 h2 a0_2 a0_3)), (h1, .inr (11, o_Value I1 J1 a1_4)), (h2, .inl (cA2, 4, .inr (.inr (.inr (.inr (zra ad2 4)))))), ((ad2 0), .inr (9, o_Section I3)), ((ad2 1), .inr (9, o_Section I4)), ((ad2 2), .inr (9, o_Section I5)), ((ad2 3), .inr (9, o_Section I6))])) A) args s 0 0 A) (F0 m 37 ls []) := by
  obtain ⟨hx, hb, hr, hml, hown, ht, hlocks⟩ := id hc
  unfold v_Code_sectionFor_37 at hv
  refine lv_iload_n hx hb d_Code_sectionFor_37 rfl (lv_at hl 1 rfl) ?_
  refine lv_iconst (v := (3 : Int32)) hx hb d_Code_sectionFor_38 (by decide) ?_
  refine lv_icmp_ne (tgt := 55) hx hb d_Code_sectionFor_39 (by decide) (fun c_1 => ?_) (fun c_1 => ?_)
  · have hv := hv.1 c_1
    refine lv_iconst (v := (0 : Int32)) hx hb d_Code_sectionFor_55 (by decide) ?_
    exact W.iret (v := (0 : Int32)) hx hb hr (fun t ht hW => ⟨⟨_, (), rfl, hv, ⟨by rw [ht]; exact hP, va_K.moved hW.alike hK, hD⟩⟩, hS.F ht⟩) hS.2.2 d_Code_sectionFor_56
  · have hv := hv.2 c_1
    refine lv_aload_n hx hb d_Code_sectionFor_42 rfl (lv_at hl 0 rfl) ?_
    refine va_get (D := (dC, dI)) (ci := 11) (v := .long (J1 2)) (C := "NumberDress$Value") (T := T_Value) (N := 6) hx hb ht zin_Value hown hK hP 1 rfl rfl 2 (by decide) (ht _ zw_303) (fun _ h9 => h9) rfl d_Code_sectionFor_43 ?_
    refine lv_lconst (v := (0 : Int64)) hx hb d_Code_sectionFor_46 (by decide) ?_
    refine z_lcmp_ne (tgt := 55) hx hb d_Code_sectionFor_47 d_Code_sectionFor_48 (by decide) (fun c_2 => ?_) (fun c_2 => ?_)
    · have hv := hv.1 c_2
      refine lv_iconst (v := (0 : Int32)) hx hb d_Code_sectionFor_55 (by decide) ?_
      exact W.iret (v := (0 : Int32)) hx hb hr (fun t ht hW => ⟨⟨_, (), rfl, hv, ⟨by rw [ht]; exact hP, va_K.moved hW.alike hK, hD⟩⟩, hS.F ht⟩) hS.2.2 d_Code_sectionFor_56
    · have hv := hv.2 c_2
      refine lv_iconst (v := (2 : Int32)) hx hb d_Code_sectionFor_51 (by decide) ?_
      refine lv_goto (tgt := 56) hx hb d_Code_sectionFor_52 (by decide) ?_
      exact W.iret (v := (2 : Int32)) hx hb hr (fun t ht hW => ⟨⟨_, (), rfl, hv, ⟨by rw [ht]; exact hP, va_K.moved hW.alike hK, hD⟩⟩, hS.F ht⟩) hS.2.2 d_Code_sectionFor_56
set_option maxHeartbeats 4000000 in
set_option maxRecDepth 100000 in
theorem b_Code_sectionFor_16 {h0 : Nat} {a0_2 : Nat} {a0_3 : Nat} {h1 : Nat} {a1_4 : Nat} {h2 : Nat} {cA2 : ClassId} {ad2 : Nat → Nat} {I0 : Nat → Int32} {I1 : Nat → Int32} {J1 : Nat → Int64} {I3 : Nat → Int32} {I4 : Nat → Int32} {I5 : Nat → Int32} {I6 : Nat → Int32} {s0 : Int32}  {Z : Int32 → Unit → Prop} {H : Heap} {locs : List Loc} {ls : Array Slot} (hc : zC p s m args meth c prog_2_method_10_code (some .int) 3 "NumberDress$Code") (hA : ∀ q : Nat, s.heap.size ≤ q → A q) (hE : zE gE A s) (hl : lv_has ls 3 [(1, .ref h1)]) (hK : va_K (dC, dI) zCl [(cA2, .object "NumberDress$Section")] s) (hP : va_P (dC, dI) zCl [(h0, .inr (1, o_Code I0 h2 a0_2 a0_3)), (h1, .inr (11, o_Value I1 J1 a1_4)), (h2, .inl (cA2, 4, .inr (.inr (.inr (.inr (zra ad2 4)))))), ((ad2 0), .inr (9, o_Section I3)), ((ad2 1), .inr (9, o_Section I4)), ((ad2 2), .inr (9, o_Section I5)), ((ad2 3), .inr (9, o_Section I6))] H) (hD : va_D A [(h0, .inr (1, o_Code I0 h2 a0_2 a0_3)), (h1, .inr (11, o_Value I1 J1 a1_4)), (h2, .inl (cA2, 4, .inr (.inr (.inr (.inr (zra ad2 4)))))), ((ad2 0), .inr (9, o_Section I3)), ((ad2 1), .inr (9, o_Section I4)), ((ad2 2), .inr (9, o_Section I5)), ((ad2 3), .inr (9, o_Section I6))]) (hS : va_S A s.heap H locs) (hv : v_Code_sectionFor_16 I0 I1 J1 I3 I4 I5 I6 s0  Z) : W p l e (headSpec (Cond.code (⟨"NumberDress$Code", "sectionFor", "(LNumberDress$Value;)I"⟩ : MethodName) prog_2_method_10_code 3 (some .int) :: zT) { frames := 2, cells := 0, slots := 0, locals := 44 }).room s m args below meth c H locs 0 0 (MQ below (va_Qi Z (zB (dC, dI) zCl [(cA2, .object "NumberDress$Section")] A (fun u : Unit => [(h0, .inr (1, o_Code I0 h2 a0_2 a0_3)), (h1, .inr (11, o_Value I1 J1 a1_4)), (h2, .inl (cA2, 4, .inr (.inr (.inr (.inr (zra ad2 4)))))), ((ad2 0), .inr (9, o_Section I3)), ((ad2 1), .inr (9, o_Section I4)), ((ad2 2), .inr (9, o_Section I5)), ((ad2 3), .inr (9, o_Section I6))])) A) args s 0 0 A) (F0 m 16 ls [.int s0]) := by
  obtain ⟨hx, hb, hr, hml, hown, ht, hlocks⟩ := id hc
  unfold v_Code_sectionFor_16 at hv
  refine lv_istore_n (lv' := [(2, .int s0), (1, .ref h1)]) hx hb d_Code_sectionFor_16 rfl hl (by decide) rfl (fun ls hl => ?_)
  refine lv_iload_n hx hb d_Code_sectionFor_17 rfl (lv_at hl 0 rfl) ?_
  refine lv_if_ne (tgt := 23) hx hb d_Code_sectionFor_18 (by decide) (fun c_1 => ?_) (fun c_1 => ?_)
  · have hv := hv.1 c_1
    refine lv_iload_n hx hb d_Code_sectionFor_23 rfl (lv_at hl 0 rfl) ?_
    refine lv_iconst (v := (2 : Int32)) hx hb d_Code_sectionFor_24 (by decide) ?_
    refine lv_icmp_lt (tgt := 37) hx hb d_Code_sectionFor_25 (by decide) (fun c_2 => ?_) (fun c_2 => ?_)
    · have hv := hv.1 c_2
      exact b_Code_sectionFor_37 hc hA hE  (lv_sub hl [1, 0] rfl) hK hP hD hS hv
    · have hv := hv.2 c_2
      refine lv_aload_n hx hb d_Code_sectionFor_28 rfl (lv_at hl 1 rfl) ?_
      refine va_get (D := (dC, dI)) (ci := 11) (v := .int (I1 1)) (C := "NumberDress$Value") (T := T_Value) (N := 6) hx hb ht zin_Value hown hK hP 1 rfl rfl 1 (by decide) (ht _ zw_298) (fun _ h9 => h9) rfl d_Code_sectionFor_29 ?_
      refine lv_if_eq (tgt := 37) hx hb d_Code_sectionFor_32 (by decide) (fun c_3 => ?_) (fun c_3 => ?_)
      · have hv := hv.1 c_3
        exact b_Code_sectionFor_37 hc hA hE  (lv_sub hl [1, 0] rfl) hK hP hD hS hv
      · have hv := hv.2 c_3
        refine lv_iconst (v := (1 : Int32)) hx hb d_Code_sectionFor_35 (by decide) ?_
        exact W.iret (v := (1 : Int32)) hx hb hr (fun t ht hW => ⟨⟨_, (), rfl, hv, ⟨by rw [ht]; exact hP, va_K.moved hW.alike hK, hD⟩⟩, hS.F ht⟩) hS.2.2 d_Code_sectionFor_36
  · have hv := hv.2 c_1
    refine lv_iconst (v := (-1 : Int32)) hx hb d_Code_sectionFor_21 (by decide) ?_
    exact W.iret (v := (-1 : Int32)) hx hb hr (fun t ht hW => ⟨⟨_, (), rfl, hv, ⟨by rw [ht]; exact hP, va_K.moved hW.alike hK, hD⟩⟩, hS.F ht⟩) hS.2.2 d_Code_sectionFor_22
set_option maxHeartbeats 4000000 in
set_option maxRecDepth 100000 in
theorem b_Code_sectionFor_0 {h0 : Nat} {a0_2 : Nat} {a0_3 : Nat} {h1 : Nat} {a1_4 : Nat} {h2 : Nat} {cA2 : ClassId} {ad2 : Nat → Nat} {I0 : Nat → Int32} {I1 : Nat → Int32} {J1 : Nat → Int64} {I3 : Nat → Int32} {I4 : Nat → Int32} {I5 : Nat → Int32} {I6 : Nat → Int32}  {Z : Int32 → Unit → Prop} {H : Heap} {locs : List Loc} {ls : Array Slot} (hc : zC p s m args meth c prog_2_method_10_code (some .int) 3 "NumberDress$Code") (hA : ∀ q : Nat, s.heap.size ≤ q → A q) (hE : zE gE A s) (hl : lv_has ls 3 [(0, .ref h0), (1, .ref h1)]) (hK : va_K (dC, dI) zCl [(cA2, .object "NumberDress$Section")] s) (hP : va_P (dC, dI) zCl [(h0, .inr (1, o_Code I0 h2 a0_2 a0_3)), (h1, .inr (11, o_Value I1 J1 a1_4)), (h2, .inl (cA2, 4, .inr (.inr (.inr (.inr (zra ad2 4)))))), ((ad2 0), .inr (9, o_Section I3)), ((ad2 1), .inr (9, o_Section I4)), ((ad2 2), .inr (9, o_Section I5)), ((ad2 3), .inr (9, o_Section I6))] H) (hD : va_D A [(h0, .inr (1, o_Code I0 h2 a0_2 a0_3)), (h1, .inr (11, o_Value I1 J1 a1_4)), (h2, .inl (cA2, 4, .inr (.inr (.inr (.inr (zra ad2 4)))))), ((ad2 0), .inr (9, o_Section I3)), ((ad2 1), .inr (9, o_Section I4)), ((ad2 2), .inr (9, o_Section I5)), ((ad2 3), .inr (9, o_Section I6))]) (hS : va_S A s.heap H locs) (hv : v_Code_sectionFor_0 I0 I1 J1 I3 I4 I5 I6  Z) : W p l e (headSpec (Cond.code (⟨"NumberDress$Code", "sectionFor", "(LNumberDress$Value;)I"⟩ : MethodName) prog_2_method_10_code 3 (some .int) :: zT) { frames := 2, cells := 0, slots := 0, locals := 44 }).room s m args below meth c H locs 0 0 (MQ below (va_Qi Z (zB (dC, dI) zCl [(cA2, .object "NumberDress$Section")] A (fun u : Unit => [(h0, .inr (1, o_Code I0 h2 a0_2 a0_3)), (h1, .inr (11, o_Value I1 J1 a1_4)), (h2, .inl (cA2, 4, .inr (.inr (.inr (.inr (zra ad2 4)))))), ((ad2 0), .inr (9, o_Section I3)), ((ad2 1), .inr (9, o_Section I4)), ((ad2 2), .inr (9, o_Section I5)), ((ad2 3), .inr (9, o_Section I6))])) A) args s 0 0 A) (F0 m 0 ls []) := by
  obtain ⟨hx, hb, hr, hml, hown, ht, hlocks⟩ := id hc
  unfold v_Code_sectionFor_0 at hv
  refine lv_aload_n hx hb d_Code_sectionFor_0 rfl (lv_at hl 1 rfl) ?_
  refine va_get (D := (dC, dI)) (ci := 11) (v := .int (I1 0)) (C := "NumberDress$Value") (T := T_Value) (N := 6) hx hb ht zin_Value hown hK hP 1 rfl rfl 0 (by decide) (ht _ zw_295) (fun _ h9 => h9) rfl d_Code_sectionFor_1 ?_
  refine lv_if_eq (tgt := 12) hx hb d_Code_sectionFor_4 (by decide) (fun c_1 => ?_) (fun c_1 => ?_)
  · have hv := hv.1 c_1
    refine lv_aload_n hx hb d_Code_sectionFor_12 rfl (lv_at hl 0 rfl) ?_
    refine z_calli (wc := [(h0, .inr (1, o_Code I0 h2 a0_2 a0_3)), (h2, .inl (cA2, 4, .inr (.inr (.inr (.inr (zra ad2 4)))))), ((ad2 0), .inr (9, o_Section I3)), ((ad2 1), .inr (9, o_Section I4)), ((ad2 2), .inr (9, o_Section I5)), ((ad2 3), .inr (9, o_Section I6))]) (wr := [(h1, .inr (11, o_Value I1 J1 a1_4))]) [0, 2, 3, 4, 5, 6] [1] (va_runV (As := []) (rest := []) ⟨hx, hb, hml, hown, ht⟩ (m_Code_numberSections l dC dI hv) ⟨(callB_of 0 ht (zG_in zi_Code_numberSections) rfl rfl rfl (ht _ zw_111) (ht _ zw_854) zh_Code_numberSections ⟨Nat.le_of_ble_eq_true rfl, Nat.le_of_ble_eq_true rfl⟩), (ht _ zw_855), (ht _ zw_856)⟩ ⟨zPc_blind, va_recv hK hP (ci := 1) (q0 := 0) rfl rfl, zPc_pre hP hK hD hS hA hE [0, 2, 3, 4, 5, 6] [0] rfl rfl (by decide) rfl⟩ rfl rfl hl.1 rfl (lv_room (Nat.le_of_ble_eq_true rfl)) d_Code_sectionFor_13 ⟨Nat.le_of_ble_eq_true rfl, Nat.le_of_ble_eq_true rfl⟩) hP hD hS hA rfl rfl (by decide) (by decide) (fun r u H locs hv hP hD hS => ?_)
    have hP : va_P (dC, dI) zCl [(h0, .inr (1, o_Code I0 h2 a0_2 a0_3)), (h1, .inr (11, o_Value I1 J1 a1_4)), (h2, .inl (cA2, 4, .inr (.inr (.inr (.inr (zra ad2 4)))))), ((ad2 0), .inr (9, o_Section I3)), ((ad2 1), .inr (9, o_Section I4)), ((ad2 2), .inr (9, o_Section I5)), ((ad2 3), .inr (9, o_Section I6))] H := hP.sub [1, 0, 2, 3, 4, 5, 6] rfl
    have hD : va_D A [(h0, .inr (1, o_Code I0 h2 a0_2 a0_3)), (h1, .inr (11, o_Value I1 J1 a1_4)), (h2, .inl (cA2, 4, .inr (.inr (.inr (.inr (zra ad2 4)))))), ((ad2 0), .inr (9, o_Section I3)), ((ad2 1), .inr (9, o_Section I4)), ((ad2 2), .inr (9, o_Section I5)), ((ad2 3), .inr (9, o_Section I6))] := hD.sub [1, 0, 2, 3, 4, 5, 6] (by decide) rfl
    exact b_Code_sectionFor_16 hc hA hE  (lv_sub hl [1] rfl) hK hP hD hS hv
  · have hv := hv.2 c_1
    refine lv_aload_n hx hb d_Code_sectionFor_7 rfl (lv_at hl 0 rfl) ?_
    refine z_calli (wc := [(h0, .inr (1, o_Code I0 h2 a0_2 a0_3)), (h2, .inl (cA2, 4, .inr (.inr (.inr (.inr (zra ad2 4)))))), ((ad2 0), .inr (9, o_Section I3)), ((ad2 1), .inr (9, o_Section I4)), ((ad2 2), .inr (9, o_Section I5)), ((ad2 3), .inr (9, o_Section I6))]) (wr := [(h1, .inr (11, o_Value I1 J1 a1_4))]) [0, 2, 3, 4, 5, 6] [1] (va_runV (As := []) (rest := []) ⟨hx, hb, hml, hown, ht⟩ (m_Code_sectionForText l dC dI hv) ⟨(callB_of 0 ht (zG_in zi_Code_sectionForText) rfl rfl rfl (ht _ zw_111) (ht _ zw_846) zh_Code_sectionForText ⟨Nat.le_of_ble_eq_true rfl, Nat.le_of_ble_eq_true rfl⟩), (ht _ zw_848), (ht _ zw_36)⟩ ⟨zPc_blind, va_recv hK hP (ci := 1) (q0 := 0) rfl rfl, zPc_pre hP hK hD hS hA hE [0, 2, 3, 4, 5, 6] [0] rfl rfl (by decide) rfl⟩ rfl rfl hl.1 rfl (lv_room (Nat.le_of_ble_eq_true rfl)) d_Code_sectionFor_8 ⟨Nat.le_of_ble_eq_true rfl, Nat.le_of_ble_eq_true rfl⟩) hP hD hS hA rfl rfl (by decide) (by decide) (fun r u H locs hv hP hD hS => ?_)
    have hP : va_P (dC, dI) zCl [(h0, .inr (1, o_Code I0 h2 a0_2 a0_3)), (h1, .inr (11, o_Value I1 J1 a1_4)), (h2, .inl (cA2, 4, .inr (.inr (.inr (.inr (zra ad2 4)))))), ((ad2 0), .inr (9, o_Section I3)), ((ad2 1), .inr (9, o_Section I4)), ((ad2 2), .inr (9, o_Section I5)), ((ad2 3), .inr (9, o_Section I6))] H := hP.sub [1, 0, 2, 3, 4, 5, 6] rfl
    have hD : va_D A [(h0, .inr (1, o_Code I0 h2 a0_2 a0_3)), (h1, .inr (11, o_Value I1 J1 a1_4)), (h2, .inl (cA2, 4, .inr (.inr (.inr (.inr (zra ad2 4)))))), ((ad2 0), .inr (9, o_Section I3)), ((ad2 1), .inr (9, o_Section I4)), ((ad2 2), .inr (9, o_Section I5)), ((ad2 3), .inr (9, o_Section I6))] := hD.sub [1, 0, 2, 3, 4, 5, 6] (by decide) rfl
    exact b_Code_sectionFor_11 hc hA hE  (lv_sub hl [] rfl) hK hP hD hS hv
theorem zi_Code_sectionFor : Cond.code (⟨"NumberDress$Code", "sectionFor", "(LNumberDress$Value;)I"⟩ : MethodName) prog_2_method_10_code 3 (some .int) ∈ zT := zw_845
theorem zh_Code_sectionFor : (((⟨"NumberDress$Code", "sectionFor", "(LNumberDress$Value;)I"⟩ : MethodName)).cls ≠ "java/lang/invoke/MethodHandle" ∧ ((⟨"NumberDress$Code", "sectionFor", "(LNumberDress$Value;)I"⟩ : MethodName)).cls ≠ "java/lang/invoke/VarHandle" ∧ (parseMethodDescriptor ((⟨"NumberDress$Code", "sectionFor", "(LNumberDress$Value;)I"⟩ : MethodName)).desc).map (fun d => d.parameters.length) = some 1) := by decide +kernel
set_option maxHeartbeats 4000000 in
set_option maxRecDepth 100000 in
theorem m_Code_sectionFor (l : Launch) (dC : Nat → ClassId) (dI : Nat → Nat → Nat) {gE : zG} {h0 : Nat} {a0_2 : Nat} {a0_3 : Nat} {h1 : Nat} {a1_4 : Nat} {h2 : Nat} {cA2 : ClassId} {ad2 : Nat → Nat} {I0 : Nat → Int32} {I1 : Nat → Int32} {J1 : Nat → Int64} {I3 : Nat → Int32} {I4 : Nat → Int32} {I5 : Nat → Int32} {I6 : Nat → Int32} {sz : Nat} {Z : Int32 → Unit → Prop} (hv : v_Code_sectionFor_0 I0 I1 J1 I3 I4 I5 I6 Z) : Met l (⟨"NumberDress$Code", "sectionFor", "(LNumberDress$Value;)I"⟩ : MethodName) (Cond.code (⟨"NumberDress$Code", "sectionFor", "(LNumberDress$Value;)I"⟩ : MethodName) prog_2_method_10_code 3 (some .int) :: zT) { frames := 2, cells := 0, slots := 0, locals := 44 } (zPc gE (dC, dI) zCl [(cA2, .object "NumberDress$Section")] [.ref h0, .ref h1] sz [(h0, .inr (1, o_Code I0 h2 a0_2 a0_3)), (h1, .inr (11, o_Value I1 J1 a1_4)), (h2, .inl (cA2, 4, .inr (.inr (.inr (.inr (zra ad2 4)))))), ((ad2 0), .inr (9, o_Section I3)), ((ad2 1), .inr (9, o_Section I4)), ((ad2 2), .inr (9, o_Section I5)), ((ad2 3), .inr (9, o_Section I6))]) (va_Qi Z (zB (dC, dI) zCl [(cA2, .object "NumberDress$Section")] (va_A [(h0, .inr (1, o_Code I0 h2 a0_2 a0_3)), (h1, .inr (11, o_Value I1 J1 a1_4)), (h2, .inl (cA2, 4, .inr (.inr (.inr (.inr (zra ad2 4)))))), ((ad2 0), .inr (9, o_Section I3)), ((ad2 1), .inr (9, o_Section I4)), ((ad2 2), .inr (9, o_Section I5)), ((ad2 3), .inr (9, o_Section I6))] sz) (fun u : Unit => [(h0, .inr (1, o_Code I0 h2 a0_2 a0_3)), (h1, .inr (11, o_Value I1 J1 a1_4)), (h2, .inl (cA2, 4, .inr (.inr (.inr (.inr (zra ad2 4)))))), ((ad2 0), .inr (9, o_Section I3)), ((ad2 1), .inr (9, o_Section I4)), ((ad2 2), .inr (9, o_Section I5)), ((ad2 3), .inr (9, o_Section I6))])) (va_A [(h0, .inr (1, o_Code I0 h2 a0_2 a0_3)), (h1, .inr (11, o_Value I1 J1 a1_4)), (h2, .inl (cA2, 4, .inr (.inr (.inr (.inr (zra ad2 4)))))), ((ad2 0), .inr (9, o_Section I3)), ((ad2 1), .inr (9, o_Section I4)), ((ad2 2), .inr (9, o_Section I5)), ((ad2 3), .inr (9, o_Section I6))] sz)) 0 0 (va_A [(h0, .inr (1, o_Code I0 h2 a0_2 a0_3)), (h1, .inr (11, o_Value I1 J1 a1_4)), (h2, .inl (cA2, 4, .inr (.inr (.inr (.inr (zra ad2 4)))))), ((ad2 0), .inr (9, o_Section I3)), ((ad2 1), .inr (9, o_Section I4)), ((ad2 2), .inr (9, o_Section I5)), ((ad2 3), .inr (9, o_Section I6))] sz) := by
  refine Met.ofW (cc := prog_2_method_10_code) (maxL := 3) (ret := (some .int)) (by decide +kernel) rfl ?_
  intro p e s m args below meth c s₁ B hml hp
  obtain ⟨rfl, hsz, hP, hK, hD0, hE⟩ := hp
  have hts := atoms_spec (ws := (Cond.code (⟨"NumberDress$Code", "sectionFor", "(LNumberDress$Value;)I"⟩ : MethodName) prog_2_method_10_code 3 (some .int) :: zT)) B.pre
  have hown : s.vm.findClass "NumberDress$Code" = some m.cls := findClass_of_methodNamed B.named
  have hc : zC p s m _ meth c prog_2_method_10_code (some .int) 3 "NumberDress$Code" := ⟨B.exec, B.bytes, B.returns, hml, hown, fun w h => hts w (List.mem_cons_of_mem _ h), B.notSynchronized⟩
  subst hsz
  have hD := hD0.self (sz := s.heap.size)
  generalize hAe : va_A [(h0, .inr (1, o_Code I0 h2 a0_2 a0_3)), (h1, .inr (11, o_Value I1 J1 a1_4)), (h2, .inl (cA2, 4, .inr (.inr (.inr (.inr (zra ad2 4)))))), ((ad2 0), .inr (9, o_Section I3)), ((ad2 1), .inr (9, o_Section I4)), ((ad2 2), .inr (9, o_Section I5)), ((ad2 3), .inr (9, o_Section I6))] s.heap.size = A at hD hE ⊢
  have hA : ∀ q : Nat, s.heap.size ≤ q → A q := fun q h => by rw [← hAe]; exact Or.inr h
  have hl := lv_entry ([.ref h0, .ref h1]) (n := 3) (Nat.le_of_ble_eq_true rfl)
  rw [lg_entry_eq]
  exact b_Code_sectionFor_0 hc hA hE hl hK hP hD va_S.rf hv
theorem d_DateDresser_monthName_0 : decode prog_3_method_10_code 0 = .ok (.iload_n 0, 1) := by decide +kernel
theorem d_DateDresser_monthName_1 : decode prog_3_method_10_code 1 = .ok (.tableswitch 92 1 11 #[59, 62, 65, 68, 71, 74, 77, 80, 83, 86, 89], 59) := by decide +kernel
theorem d_DateDresser_monthName_60 : decode prog_3_method_10_code 60 = .ok (.ldc 168, 2) := by decide +kernel
theorem d_DateDresser_monthName_62 : decode prog_3_method_10_code 62 = .ok (.areturn, 1) := by decide +kernel
theorem d_DateDresser_monthName_63 : decode prog_3_method_10_code 63 = .ok (.ldc 170, 2) := by decide +kernel
theorem d_DateDresser_monthName_65 : decode prog_3_method_10_code 65 = .ok (.areturn, 1) := by decide +kernel
theorem d_DateDresser_monthName_66 : decode prog_3_method_10_code 66 = .ok (.ldc 172, 2) := by decide +kernel
theorem d_DateDresser_monthName_68 : decode prog_3_method_10_code 68 = .ok (.areturn, 1) := by decide +kernel
theorem d_DateDresser_monthName_69 : decode prog_3_method_10_code 69 = .ok (.ldc 174, 2) := by decide +kernel
theorem d_DateDresser_monthName_71 : decode prog_3_method_10_code 71 = .ok (.areturn, 1) := by decide +kernel
theorem d_DateDresser_monthName_72 : decode prog_3_method_10_code 72 = .ok (.ldc 176, 2) := by decide +kernel
theorem d_DateDresser_monthName_74 : decode prog_3_method_10_code 74 = .ok (.areturn, 1) := by decide +kernel
theorem d_DateDresser_monthName_75 : decode prog_3_method_10_code 75 = .ok (.ldc 178, 2) := by decide +kernel
theorem d_DateDresser_monthName_77 : decode prog_3_method_10_code 77 = .ok (.areturn, 1) := by decide +kernel
theorem d_DateDresser_monthName_78 : decode prog_3_method_10_code 78 = .ok (.ldc 180, 2) := by decide +kernel
theorem d_DateDresser_monthName_80 : decode prog_3_method_10_code 80 = .ok (.areturn, 1) := by decide +kernel
theorem d_DateDresser_monthName_81 : decode prog_3_method_10_code 81 = .ok (.ldc 182, 2) := by decide +kernel
theorem d_DateDresser_monthName_83 : decode prog_3_method_10_code 83 = .ok (.areturn, 1) := by decide +kernel
theorem d_DateDresser_monthName_84 : decode prog_3_method_10_code 84 = .ok (.ldc 184, 2) := by decide +kernel
theorem d_DateDresser_monthName_86 : decode prog_3_method_10_code 86 = .ok (.areturn, 1) := by decide +kernel
theorem d_DateDresser_monthName_87 : decode prog_3_method_10_code 87 = .ok (.ldc 186, 2) := by decide +kernel
theorem d_DateDresser_monthName_89 : decode prog_3_method_10_code 89 = .ok (.areturn, 1) := by decide +kernel
theorem d_DateDresser_monthName_90 : decode prog_3_method_10_code 90 = .ok (.ldc 188, 2) := by decide +kernel
theorem d_DateDresser_monthName_92 : decode prog_3_method_10_code 92 = .ok (.areturn, 1) := by decide +kernel
theorem d_DateDresser_monthName_93 : decode prog_3_method_10_code 93 = .ok (.ldc 190, 2) := by decide +kernel
theorem d_DateDresser_monthName_95 : decode prog_3_method_10_code 95 = .ok (.areturn, 1) := by decide +kernel
set_option maxHeartbeats 4000000 in
set_option maxRecDepth 100000 in
theorem b_DateDresser_monthName_0  {x0 : Int32}  {Z : Nat → Unit → Prop} {H : Heap} {locs : List Loc} {ls : Array Slot} (hc : zC p s m args meth c prog_3_method_10_code (some (.object "java/lang/String")) 1 "NumberDress$DateDresser") (hA : ∀ q : Nat, s.heap.size ≤ q → A q) (hE : zE gE A s) (hl : lv_has ls 1 [(0, .int x0)]) (hK : va_K (dC, dI) zCl [] s) (hP : va_P (dC, dI) zCl [] H) (hD : va_D A []) (hS : va_S A s.heap H locs) (hv : v_DateDresser_monthName_0 x0  Z) : W p l e (headSpec (Cond.code (⟨"NumberDress$DateDresser", "monthName", "(I)Ljava/lang/String;"⟩ : MethodName) prog_3_method_10_code 1 (some (.object "java/lang/String")) :: zT) { frames := 0, cells := 0, slots := 0, locals := 0 }).room s m args below meth c H locs 0 0 (MQ below (va_Qr (fun u : (Unit) × Nat => Z u.2 u.1) (fun (u : (Unit) × Nat) a t => a = gE.2.1 u.2 ∧ zB (dC, dI) zCl [] A (fun u : (Unit) × Nat => []) u t) A) args s 0 0 A) (F0 m 0 ls []) := by
  obtain ⟨hx, hb, hr, hml, hown, ht, hlocks⟩ := id hc
  unfold v_DateDresser_monthName_0 at hv
  refine lv_iload_n hx hb d_DateDresser_monthName_0 rfl (lv_at hl 0 rfl) ?_
  by_cases c_1 : x0 = (1 : Int32)
  · have hv := hv.1 c_1
    refine lv_tableIn (off := 59) (tgt := 60) hx hb d_DateDresser_monthName_1 (by rw [c_1] <;> decide) (by rw [c_1] <;> decide) (by rw [c_1] <;> rfl) (by decide) ?_
    refine va_ldcS hx hb hown (hE.str (i := 13) (by decide)) d_DateDresser_monthName_60 ?_
    exact W.aret (v := .ref (gE.2.1 13)) hx hb hr (Or.inl ⟨_, rfl⟩) (Or.inr ⟨_, rfl⟩) (fun t ht hW => ⟨⟨((), 13), _, rfl, hv, ⟨rfl, ⟨by rw [ht]; exact hP, va_K.moved hW.alike hK, hD⟩⟩⟩, hS.F ht⟩) hS.2.2 d_DateDresser_monthName_62
  have hv := hv.2 c_1
  by_cases c_2 : x0 = (2 : Int32)
  · have hv := hv.1 c_2
    refine lv_tableIn (off := 62) (tgt := 63) hx hb d_DateDresser_monthName_1 (by rw [c_2] <;> decide) (by rw [c_2] <;> decide) (by rw [c_2] <;> rfl) (by decide) ?_
    refine va_ldcS hx hb hown (hE.str (i := 14) (by decide)) d_DateDresser_monthName_63 ?_
    exact W.aret (v := .ref (gE.2.1 14)) hx hb hr (Or.inl ⟨_, rfl⟩) (Or.inr ⟨_, rfl⟩) (fun t ht hW => ⟨⟨((), 14), _, rfl, hv, ⟨rfl, ⟨by rw [ht]; exact hP, va_K.moved hW.alike hK, hD⟩⟩⟩, hS.F ht⟩) hS.2.2 d_DateDresser_monthName_65
  have hv := hv.2 c_2
  by_cases c_3 : x0 = (3 : Int32)
  · have hv := hv.1 c_3
    refine lv_tableIn (off := 65) (tgt := 66) hx hb d_DateDresser_monthName_1 (by rw [c_3] <;> decide) (by rw [c_3] <;> decide) (by rw [c_3] <;> rfl) (by decide) ?_
    refine va_ldcS hx hb hown (hE.str (i := 15) (by decide)) d_DateDresser_monthName_66 ?_
    exact W.aret (v := .ref (gE.2.1 15)) hx hb hr (Or.inl ⟨_, rfl⟩) (Or.inr ⟨_, rfl⟩) (fun t ht hW => ⟨⟨((), 15), _, rfl, hv, ⟨rfl, ⟨by rw [ht]; exact hP, va_K.moved hW.alike hK, hD⟩⟩⟩, hS.F ht⟩) hS.2.2 d_DateDresser_monthName_68
  have hv := hv.2 c_3
  by_cases c_4 : x0 = (4 : Int32)
  · have hv := hv.1 c_4
    refine lv_tableIn (off := 68) (tgt := 69) hx hb d_DateDresser_monthName_1 (by rw [c_4] <;> decide) (by rw [c_4] <;> decide) (by rw [c_4] <;> rfl) (by decide) ?_
    refine va_ldcS hx hb hown (hE.str (i := 16) (by decide)) d_DateDresser_monthName_69 ?_
    exact W.aret (v := .ref (gE.2.1 16)) hx hb hr (Or.inl ⟨_, rfl⟩) (Or.inr ⟨_, rfl⟩) (fun t ht hW => ⟨⟨((), 16), _, rfl, hv, ⟨rfl, ⟨by rw [ht]; exact hP, va_K.moved hW.alike hK, hD⟩⟩⟩, hS.F ht⟩) hS.2.2 d_DateDresser_monthName_71
  have hv := hv.2 c_4
  by_cases c_5 : x0 = (5 : Int32)
  · have hv := hv.1 c_5
    refine lv_tableIn (off := 71) (tgt := 72) hx hb d_DateDresser_monthName_1 (by rw [c_5] <;> decide) (by rw [c_5] <;> decide) (by rw [c_5] <;> rfl) (by decide) ?_
    refine va_ldcS hx hb hown (hE.str (i := 17) (by decide)) d_DateDresser_monthName_72 ?_
    exact W.aret (v := .ref (gE.2.1 17)) hx hb hr (Or.inl ⟨_, rfl⟩) (Or.inr ⟨_, rfl⟩) (fun t ht hW => ⟨⟨((), 17), _, rfl, hv, ⟨rfl, ⟨by rw [ht]; exact hP, va_K.moved hW.alike hK, hD⟩⟩⟩, hS.F ht⟩) hS.2.2 d_DateDresser_monthName_74
  have hv := hv.2 c_5
  by_cases c_6 : x0 = (6 : Int32)
  · have hv := hv.1 c_6
    refine lv_tableIn (off := 74) (tgt := 75) hx hb d_DateDresser_monthName_1 (by rw [c_6] <;> decide) (by rw [c_6] <;> decide) (by rw [c_6] <;> rfl) (by decide) ?_
    refine va_ldcS hx hb hown (hE.str (i := 18) (by decide)) d_DateDresser_monthName_75 ?_
    exact W.aret (v := .ref (gE.2.1 18)) hx hb hr (Or.inl ⟨_, rfl⟩) (Or.inr ⟨_, rfl⟩) (fun t ht hW => ⟨⟨((), 18), _, rfl, hv, ⟨rfl, ⟨by rw [ht]; exact hP, va_K.moved hW.alike hK, hD⟩⟩⟩, hS.F ht⟩) hS.2.2 d_DateDresser_monthName_77
  have hv := hv.2 c_6
  by_cases c_7 : x0 = (7 : Int32)
  · have hv := hv.1 c_7
    refine lv_tableIn (off := 77) (tgt := 78) hx hb d_DateDresser_monthName_1 (by rw [c_7] <;> decide) (by rw [c_7] <;> decide) (by rw [c_7] <;> rfl) (by decide) ?_
    refine va_ldcS hx hb hown (hE.str (i := 19) (by decide)) d_DateDresser_monthName_78 ?_
    exact W.aret (v := .ref (gE.2.1 19)) hx hb hr (Or.inl ⟨_, rfl⟩) (Or.inr ⟨_, rfl⟩) (fun t ht hW => ⟨⟨((), 19), _, rfl, hv, ⟨rfl, ⟨by rw [ht]; exact hP, va_K.moved hW.alike hK, hD⟩⟩⟩, hS.F ht⟩) hS.2.2 d_DateDresser_monthName_80
  have hv := hv.2 c_7
  by_cases c_8 : x0 = (8 : Int32)
  · have hv := hv.1 c_8
    refine lv_tableIn (off := 80) (tgt := 81) hx hb d_DateDresser_monthName_1 (by rw [c_8] <;> decide) (by rw [c_8] <;> decide) (by rw [c_8] <;> rfl) (by decide) ?_
    refine va_ldcS hx hb hown (hE.str (i := 20) (by decide)) d_DateDresser_monthName_81 ?_
    exact W.aret (v := .ref (gE.2.1 20)) hx hb hr (Or.inl ⟨_, rfl⟩) (Or.inr ⟨_, rfl⟩) (fun t ht hW => ⟨⟨((), 20), _, rfl, hv, ⟨rfl, ⟨by rw [ht]; exact hP, va_K.moved hW.alike hK, hD⟩⟩⟩, hS.F ht⟩) hS.2.2 d_DateDresser_monthName_83
  have hv := hv.2 c_8
  by_cases c_9 : x0 = (9 : Int32)
  · have hv := hv.1 c_9
    refine lv_tableIn (off := 83) (tgt := 84) hx hb d_DateDresser_monthName_1 (by rw [c_9] <;> decide) (by rw [c_9] <;> decide) (by rw [c_9] <;> rfl) (by decide) ?_
    refine va_ldcS hx hb hown (hE.str (i := 21) (by decide)) d_DateDresser_monthName_84 ?_
    exact W.aret (v := .ref (gE.2.1 21)) hx hb hr (Or.inl ⟨_, rfl⟩) (Or.inr ⟨_, rfl⟩) (fun t ht hW => ⟨⟨((), 21), _, rfl, hv, ⟨rfl, ⟨by rw [ht]; exact hP, va_K.moved hW.alike hK, hD⟩⟩⟩, hS.F ht⟩) hS.2.2 d_DateDresser_monthName_86
  have hv := hv.2 c_9
  by_cases c_10 : x0 = (10 : Int32)
  · have hv := hv.1 c_10
    refine lv_tableIn (off := 86) (tgt := 87) hx hb d_DateDresser_monthName_1 (by rw [c_10] <;> decide) (by rw [c_10] <;> decide) (by rw [c_10] <;> rfl) (by decide) ?_
    refine va_ldcS hx hb hown (hE.str (i := 22) (by decide)) d_DateDresser_monthName_87 ?_
    exact W.aret (v := .ref (gE.2.1 22)) hx hb hr (Or.inl ⟨_, rfl⟩) (Or.inr ⟨_, rfl⟩) (fun t ht hW => ⟨⟨((), 22), _, rfl, hv, ⟨rfl, ⟨by rw [ht]; exact hP, va_K.moved hW.alike hK, hD⟩⟩⟩, hS.F ht⟩) hS.2.2 d_DateDresser_monthName_89
  have hv := hv.2 c_10
  by_cases c_11 : x0 = (11 : Int32)
  · have hv := hv.1 c_11
    refine lv_tableIn (off := 89) (tgt := 90) hx hb d_DateDresser_monthName_1 (by rw [c_11] <;> decide) (by rw [c_11] <;> decide) (by rw [c_11] <;> rfl) (by decide) ?_
    refine va_ldcS hx hb hown (hE.str (i := 23) (by decide)) d_DateDresser_monthName_90 ?_
    exact W.aret (v := .ref (gE.2.1 23)) hx hb hr (Or.inl ⟨_, rfl⟩) (Or.inr ⟨_, rfl⟩) (fun t ht hW => ⟨⟨((), 23), _, rfl, hv, ⟨rfl, ⟨by rw [ht]; exact hP, va_K.moved hW.alike hK, hD⟩⟩⟩, hS.F ht⟩) hS.2.2 d_DateDresser_monthName_92
  have hv := hv.2 c_11
  refine lv_tableOut (tgt := 93) hx hb d_DateDresser_monthName_1 (by have ec_1 := lv_neT (a := 1) c_1 (by decide); have ec_2 := lv_neT (a := 2) c_2 (by decide); have ec_3 := lv_neT (a := 3) c_3 (by decide); have ec_4 := lv_neT (a := 4) c_4 (by decide); have ec_5 := lv_neT (a := 5) c_5 (by decide); have ec_6 := lv_neT (a := 6) c_6 (by decide); have ec_7 := lv_neT (a := 7) c_7 (by decide); have ec_8 := lv_neT (a := 8) c_8 (by decide); have ec_9 := lv_neT (a := 9) c_9 (by decide); have ec_10 := lv_neT (a := 10) c_10 (by decide); have ec_11 := lv_neT (a := 11) c_11 (by decide); omega) (by decide) ?_
  refine va_ldcS hx hb hown (hE.str (i := 24) (by decide)) d_DateDresser_monthName_93 ?_
  exact W.aret (v := .ref (gE.2.1 24)) hx hb hr (Or.inl ⟨_, rfl⟩) (Or.inr ⟨_, rfl⟩) (fun t ht hW => ⟨⟨((), 24), _, rfl, hv, ⟨rfl, ⟨by rw [ht]; exact hP, va_K.moved hW.alike hK, hD⟩⟩⟩, hS.F ht⟩) hS.2.2 d_DateDresser_monthName_95
theorem zi_DateDresser_monthName : Cond.code (⟨"NumberDress$DateDresser", "monthName", "(I)Ljava/lang/String;"⟩ : MethodName) prog_3_method_10_code 1 (some (.object "java/lang/String")) ∈ zT := zw_1094
theorem zh_DateDresser_monthName : (((⟨"NumberDress$DateDresser", "monthName", "(I)Ljava/lang/String;"⟩ : MethodName)).cls ≠ "java/lang/invoke/MethodHandle" ∧ ((⟨"NumberDress$DateDresser", "monthName", "(I)Ljava/lang/String;"⟩ : MethodName)).cls ≠ "java/lang/invoke/VarHandle" ∧ (parseMethodDescriptor ((⟨"NumberDress$DateDresser", "monthName", "(I)Ljava/lang/String;"⟩ : MethodName)).desc).map (fun d => d.parameters.length) = some 1) := by decide +kernel
set_option maxHeartbeats 4000000 in
set_option maxRecDepth 100000 in
theorem m_DateDresser_monthName (l : Launch) (dC : Nat → ClassId) (dI : Nat → Nat → Nat) {gE : zG}  {x0 : Int32} {sz : Nat} {Z : Nat → Unit → Prop} (hv : v_DateDresser_monthName_0 x0 Z) : Met l (⟨"NumberDress$DateDresser", "monthName", "(I)Ljava/lang/String;"⟩ : MethodName) (Cond.code (⟨"NumberDress$DateDresser", "monthName", "(I)Ljava/lang/String;"⟩ : MethodName) prog_3_method_10_code 1 (some (.object "java/lang/String")) :: zT) { frames := 0, cells := 0, slots := 0, locals := 0 } (zPc gE (dC, dI) zCl [] [.int x0] sz []) (va_Qr (fun u : (Unit) × Nat => Z u.2 u.1) (fun (u : (Unit) × Nat) a t => a = gE.2.1 u.2 ∧ zB (dC, dI) zCl [] (va_A [] sz) (fun u : (Unit) × Nat => []) u t) (va_A [] sz)) 0 0 (va_A [] sz) := by
  refine Met.ofW (cc := prog_3_method_10_code) (maxL := 1) (ret := (some (.object "java/lang/String"))) (by decide +kernel) rfl ?_
  intro p e s m args below meth c s₁ B hml hp
  obtain ⟨rfl, hsz, hP, hK, hD0, hE⟩ := hp
  have hts := atoms_spec (ws := (Cond.code (⟨"NumberDress$DateDresser", "monthName", "(I)Ljava/lang/String;"⟩ : MethodName) prog_3_method_10_code 1 (some (.object "java/lang/String")) :: zT)) B.pre
  have hown : s.vm.findClass "NumberDress$DateDresser" = some m.cls := findClass_of_methodNamed B.named
  have hc : zC p s m _ meth c prog_3_method_10_code (some (.object "java/lang/String")) 1 "NumberDress$DateDresser" := ⟨B.exec, B.bytes, B.returns, hml, hown, fun w h => hts w (List.mem_cons_of_mem _ h), B.notSynchronized⟩
  subst hsz
  have hD := hD0.self (sz := s.heap.size)
  generalize hAe : va_A [] s.heap.size = A at hD hE ⊢
  have hA : ∀ q : Nat, s.heap.size ≤ q → A q := fun q h => by rw [← hAe]; exact Or.inr h
  have hl := lv_entry ([.int x0]) (n := 1) (Nat.le_of_ble_eq_true rfl)
  rw [lg_entry_eq]
  exact b_DateDresser_monthName_0 hc hA hE hl hK hP hD va_S.rf hv
theorem d_Look_put_0 : decode prog_7_method_4_code 0 = .ok (.aload_n 0, 1) := by decide +kernel
theorem d_Look_put_1 : decode prog_7_method_4_code 1 = .ok (.getfield 15, 3) := by decide +kernel
theorem d_Look_put_4 : decode prog_7_method_4_code 4 = .ok (.aload_n 0, 1) := by decide +kernel
theorem d_Look_put_5 : decode prog_7_method_4_code 5 = .ok (.getfield 9, 3) := by decide +kernel
theorem d_Look_put_8 : decode prog_7_method_4_code 8 = .ok (.arraylength, 1) := by decide +kernel
theorem d_Look_put_9 : decode prog_7_method_4_code 9 = .ok (.if_icmp .lt 44, 3) := by decide +kernel
theorem d_Look_put_12 : decode prog_7_method_4_code 12 = .ok (.aload_n 0, 1) := by decide +kernel
theorem d_Look_put_13 : decode prog_7_method_4_code 13 = .ok (.getfield 9, 3) := by decide +kernel
theorem d_Look_put_16 : decode prog_7_method_4_code 16 = .ok (.arraylength, 1) := by decide +kernel
theorem d_Look_put_17 : decode prog_7_method_4_code 17 = .ok (.sipush 4096, 3) := by decide +kernel
theorem d_Look_put_20 : decode prog_7_method_4_code 20 = .ok (.if_icmp .ge 33, 3) := by decide +kernel
theorem d_Look_put_23 : decode prog_7_method_4_code 23 = .ok (.aload_n 0, 1) := by decide +kernel
theorem d_Look_put_24 : decode prog_7_method_4_code 24 = .ok (.getfield 9, 3) := by decide +kernel
theorem d_Look_put_27 : decode prog_7_method_4_code 27 = .ok (.arraylength, 1) := by decide +kernel
theorem d_Look_put_28 : decode prog_7_method_4_code 28 = .ok (.iconst 2, 1) := by decide +kernel
theorem d_Look_put_29 : decode prog_7_method_4_code 29 = .ok (.imul, 1) := by decide +kernel
theorem d_Look_put_30 : decode prog_7_method_4_code 30 = .ok (.newarray .char, 2) := by decide +kernel
theorem d_Look_put_32 : decode prog_7_method_4_code 32 = .ok (.astore_n 2, 1) := by decide +kernel
theorem d_Look_put_33 : decode prog_7_method_4_code 33 = .ok (.aload_n 0, 1) := by decide +kernel
theorem d_Look_put_34 : decode prog_7_method_4_code 34 = .ok (.getfield 9, 3) := by decide +kernel
theorem d_Look_put_37 : decode prog_7_method_4_code 37 = .ok (.iconst 0, 1) := by decide +kernel
theorem d_Look_put_38 : decode prog_7_method_4_code 38 = .ok (.aload_n 2, 1) := by decide +kernel
theorem d_Look_put_39 : decode prog_7_method_4_code 39 = .ok (.iconst 0, 1) := by decide +kernel
theorem d_Look_put_40 : decode prog_7_method_4_code 40 = .ok (.aload_n 0, 1) := by decide +kernel
theorem d_Look_put_41 : decode prog_7_method_4_code 41 = .ok (.getfield 9, 3) := by decide +kernel
theorem d_Look_put_44 : decode prog_7_method_4_code 44 = .ok (.arraylength, 1) := by decide +kernel
theorem d_Look_put_45 : decode prog_7_method_4_code 45 = .ok (.invokestatic 19, 3) := by decide +kernel
theorem d_Look_put_48 : decode prog_7_method_4_code 48 = .ok (.aload_n 0, 1) := by decide +kernel
theorem d_Look_put_49 : decode prog_7_method_4_code 49 = .ok (.aload_n 2, 1) := by decide +kernel
theorem d_Look_put_50 : decode prog_7_method_4_code 50 = .ok (.putfield 9, 3) := by decide +kernel
theorem d_Look_put_53 : decode prog_7_method_4_code 53 = .ok (.aload_n 0, 1) := by decide +kernel
theorem d_Look_put_54 : decode prog_7_method_4_code 54 = .ok (.getfield 15, 3) := by decide +kernel
theorem d_Look_put_57 : decode prog_7_method_4_code 57 = .ok (.ifCond .lt 36, 3) := by decide +kernel
theorem d_Look_put_60 : decode prog_7_method_4_code 60 = .ok (.aload_n 0, 1) := by decide +kernel
theorem d_Look_put_61 : decode prog_7_method_4_code 61 = .ok (.getfield 15, 3) := by decide +kernel
theorem d_Look_put_64 : decode prog_7_method_4_code 64 = .ok (.aload_n 0, 1) := by decide +kernel
theorem d_Look_put_65 : decode prog_7_method_4_code 65 = .ok (.getfield 9, 3) := by decide +kernel
theorem d_Look_put_68 : decode prog_7_method_4_code 68 = .ok (.arraylength, 1) := by decide +kernel
theorem d_Look_put_69 : decode prog_7_method_4_code 69 = .ok (.if_icmp .ge 24, 3) := by decide +kernel
theorem d_Look_put_72 : decode prog_7_method_4_code 72 = .ok (.aload_n 0, 1) := by decide +kernel
theorem d_Look_put_73 : decode prog_7_method_4_code 73 = .ok (.getfield 9, 3) := by decide +kernel
theorem d_Look_put_76 : decode prog_7_method_4_code 76 = .ok (.aload_n 0, 1) := by decide +kernel
theorem d_Look_put_77 : decode prog_7_method_4_code 77 = .ok (.getfield 15, 3) := by decide +kernel
theorem d_Look_put_80 : decode prog_7_method_4_code 80 = .ok (.iload_n 1, 1) := by decide +kernel
theorem d_Look_put_81 : decode prog_7_method_4_code 81 = .ok (.i2c, 1) := by decide +kernel
theorem d_Look_put_82 : decode prog_7_method_4_code 82 = .ok (.castore, 1) := by decide +kernel
theorem d_Look_put_83 : decode prog_7_method_4_code 83 = .ok (.aload_n 0, 1) := by decide +kernel
theorem d_Look_put_84 : decode prog_7_method_4_code 84 = .ok (.dup, 1) := by decide +kernel
theorem d_Look_put_85 : decode prog_7_method_4_code 85 = .ok (.getfield 15, 3) := by decide +kernel
theorem d_Look_put_88 : decode prog_7_method_4_code 88 = .ok (.iconst 1, 1) := by decide +kernel
theorem d_Look_put_89 : decode prog_7_method_4_code 89 = .ok (.iadd, 1) := by decide +kernel
theorem d_Look_put_90 : decode prog_7_method_4_code 90 = .ok (.putfield 15, 3) := by decide +kernel
theorem d_Look_put_93 : decode prog_7_method_4_code 93 = .ok (.return_, 1) := by decide +kernel
set_option maxHeartbeats 4000000 in
set_option maxRecDepth 100000 in
theorem b_Look_put_53 {h0 : Nat} {h1 : Nat} {cA1 : ClassId} {I0 : Nat → Int32} {n1 : Nat} {f1 : Nat → Int32} {x1 : Int32}  {N0 NF : Nat} {Z : (Nat → Int32) × Nat × (Nat → Int32) → Prop} {H : Heap} {locs : List Loc} {ls : Array Slot} (hc : zC p s m args meth c prog_7_method_4_code none 3 "NumberDress$Look") (hA : ∀ q : Nat, s.heap.size ≤ q → A q) (hE : zE gE A s) (hl : lv_has ls 3 [(0, .ref h0), (1, .int x1)]) (hK : va_K (dC, dI) zCl [(cA1, .char)] s) (hP : va_P (dC, dI) zCl [(h0, .inr (6, o_Look I0 h1)), (h1, .inl (cA1, n1, .inl f1))] H) (hD : va_D A [(h0, .inr (6, o_Look I0 h1)), (h1, .inl (cA1, n1, .inl f1))]) (hS : va_S A s.heap H locs) (hN : N0 ≤ n1 ∧ n1 ≤ NF) (hv : v_Look_put_53 I0 n1 f1 x1  NF Z) : W p l e (headSpec (Cond.code (⟨"NumberDress$Look", "put", "(I)V"⟩ : MethodName) prog_7_method_4_code 3 none :: zT) { frames := 1, cells := 2 * NF - 2 * N0, slots := 2 * NF - 2 * N0, locals := 40 }).room s m args below meth c H locs (2 * n1 - 2 * N0) (2 * n1 - 2 * N0) (MQ below (va_Qv (fun u : (Nat → Int32) × Nat × (Nat → Int32) => u.2.1 = NF ∧ Z u) (fun (u : (Nat → Int32) × Nat × (Nat → Int32)) t => ∃ (b9 : Nat) (k9 : ClassId), va_P (dC, dI) zCl [(h0, .inr (6, o_Look u.1 b9)), (b9, .inl (k9, u.2.1, .inl u.2.2))] t.heap ∧ va_K (dC, dI) zCl [(k9, .char)] t ∧ va_D A [(h0, .inr (6, o_Look u.1 b9)), (b9, .inl (k9, u.2.1, .inl u.2.2))]) A) args s (2 * NF - 2 * N0) (2 * NF - 2 * N0) A) (F0 m 53 ls []) := by
  obtain ⟨hx, hb, hr, hml, hown, ht, hlocks⟩ := id hc
  unfold v_Look_put_53 at hv
  refine lv_aload_n hx hb d_Look_put_53 rfl (lv_at hl 0 rfl) ?_
  refine va_get (D := (dC, dI)) (ci := 6) (v := .int (I0 1)) (C := "NumberDress$Look") (T := T_Look) (N := 3) hx hb ht zin_Look hown hK hP 0 rfl rfl 1 (by decide) (ht _ zw_456) (fun _ h9 => h9) rfl d_Look_put_54 ?_
  refine lv_if_lt (tgt := 93) hx hb d_Look_put_57 (by decide) (fun c_1 => ?_) (fun c_1 => ?_)
  · have hv := hv.1 c_1
    obtain ⟨rfl, hz⟩ := hv
    exact W.vret hx hb hr (fun t ht hW => ⟨⟨(I0, n1, f1), rfl, ⟨rfl, hz⟩, ⟨h1, cA1, by rw [ht]; exact hP, va_K.moved hW.alike hK, hD⟩⟩, hS.F ht⟩) hS.2.2 d_Look_put_93
  · have hv := hv.2 c_1
    refine lv_aload_n hx hb d_Look_put_60 rfl (lv_at hl 0 rfl) ?_
    refine va_get (D := (dC, dI)) (ci := 6) (v := .int (I0 1)) (C := "NumberDress$Look") (T := T_Look) (N := 3) hx hb ht zin_Look hown hK hP 0 rfl rfl 1 (by decide) (ht _ zw_456) (fun _ h9 => h9) rfl d_Look_put_61 ?_
    refine lv_aload_n hx hb d_Look_put_64 rfl (lv_at hl 0 rfl) ?_
    refine va_get (D := (dC, dI)) (ci := 6) (v := .ref h1) (C := "NumberDress$Look") (T := T_Look) (N := 3) hx hb ht zin_Look hown hK hP 0 rfl rfl 0 (by decide) (ht _ zw_455) (fun _ h9 => h9) rfl d_Look_put_65 ?_
    refine va_alen (v := (nI n1)) hx hb hK hP 1 0 rfl rfl rfl d_Look_put_68 ?_
    refine lv_icmp_ge (tgt := 93) hx hb d_Look_put_69 (by decide) (fun c_2 => ?_) (fun c_2 => ?_)
    · have hv := hv.1 c_2
      obtain ⟨rfl, hz⟩ := hv
      exact W.vret hx hb hr (fun t ht hW => ⟨⟨(I0, n1, f1), rfl, ⟨rfl, hz⟩, ⟨h1, cA1, by rw [ht]; exact hP, va_K.moved hW.alike hK, hD⟩⟩, hS.F ht⟩) hS.2.2 d_Look_put_93
    · have hv := hv.2 c_2
      refine lv_aload_n hx hb d_Look_put_72 rfl (lv_at hl 0 rfl) ?_
      refine va_get (D := (dC, dI)) (ci := 6) (v := .ref h1) (C := "NumberDress$Look") (T := T_Look) (N := 3) hx hb ht zin_Look hown hK hP 0 rfl rfl 0 (by decide) (ht _ zw_455) (fun _ h9 => h9) rfl d_Look_put_73 ?_
      refine lv_aload_n hx hb d_Look_put_76 rfl (lv_at hl 0 rfl) ?_
      refine va_get (D := (dC, dI)) (ci := 6) (v := .int (I0 1)) (C := "NumberDress$Look") (T := T_Look) (N := 3) hx hb ht zin_Look hown hK hP 0 rfl rfl 1 (by decide) (ht _ zw_456) (fun _ h9 => h9) rfl d_Look_put_77 ?_
      refine lv_iload_n hx hb d_Look_put_80 rfl (lv_at hl 1 rfl) ?_
      refine lv_i2c (v := (x1.toUInt32 % 65536).toInt32) hx hb d_Look_put_81 rfl ?_
      obtain ⟨q_3, hv⟩ := hv
      refine va_cast hx hb hK hP hD hS 1 0 rfl rfl q_3 d_Look_put_82 (fun H locs hP hD hS => ?_)
      have hP : va_P (dC, dI) zCl [(h0, .inr (6, o_Look I0 h1)), (h1, .inl (cA1, n1, .inl (upd f1 (I0 1).toNatClampNeg (vp_nar .char (x1.toUInt32 % 65536).toInt32))))] H := hP
      have hD : va_D A [(h0, .inr (6, o_Look I0 h1)), (h1, .inl (cA1, n1, .inl (upd f1 (I0 1).toNatClampNeg (vp_nar .char (x1.toUInt32 % 65536).toInt32))))] := hD
      refine lv_aload_n hx hb d_Look_put_83 rfl (lv_at hl 0 rfl) ?_
      refine lv_dup hx hb d_Look_put_84 rfl ?_
      refine va_get (D := (dC, dI)) (ci := 6) (v := .int (I0 1)) (C := "NumberDress$Look") (T := T_Look) (N := 3) hx hb ht zin_Look hown hK hP 0 rfl rfl 1 (by decide) (ht _ zw_456) (fun _ h9 => h9) rfl d_Look_put_85 ?_
      refine lv_iconst (v := (1 : Int32)) hx hb d_Look_put_88 (by decide) ?_
      refine lv_iadd hx hb d_Look_put_89 ?_
      refine va_put (D := (dC, dI)) (ci := 6) (v := .int ((I0 1) + (1 : Int32))) (ty := .int) (C := "NumberDress$Look") (T := T_Look) (N := 3) hx hb ht zin_Look ty_Look tyok_Look nm_Look hown hK hP hD hS 0 rfl rfl 1 (by decide) (ht _ zw_456) (fun _ h9 => h9) rfl (by decide +kernel) rfl rfl (Nat.le_of_ble_eq_true rfl) d_Look_put_90 (fun H locs hP hD hS => ?_)
      have hP : va_P (dC, dI) zCl [(h0, .inr (6, o_Look (zu I0 1 ((I0 1) + (1 : Int32))) h1)), (h1, .inl (cA1, n1, .inl (upd f1 (I0 1).toNatClampNeg (vp_nar .char (x1.toUInt32 % 65536).toInt32))))] H := hP
      have hD : va_D A [(h0, .inr (6, o_Look (zu I0 1 ((I0 1) + (1 : Int32))) h1)), (h1, .inl (cA1, n1, .inl (upd f1 (I0 1).toNatClampNeg (vp_nar .char (x1.toUInt32 % 65536).toInt32))))] := hD
      obtain ⟨rfl, hz⟩ := hv
      exact W.vret hx hb hr (fun t ht hW => ⟨⟨((zu I0 1 ((I0 1) + (1 : Int32))), n1, (upd f1 (I0 1).toNatClampNeg (vp_nar .char (x1.toUInt32 % 65536).toInt32))), rfl, ⟨rfl, hz⟩, ⟨h1, cA1, by rw [ht]; exact hP, va_K.moved hW.alike hK, hD⟩⟩, hS.F ht⟩) hS.2.2 d_Look_put_93
set_option maxHeartbeats 4000000 in
set_option maxRecDepth 100000 in
theorem b_Look_put_0 {h0 : Nat} {h1 : Nat} {cA1 : ClassId} {I0 : Nat → Int32} {n1 : Nat} {f1 : Nat → Int32} {x1 : Int32}  {N0 NF : Nat} {Z : (Nat → Int32) × Nat × (Nat → Int32) → Prop} {H : Heap} {locs : List Loc} {ls : Array Slot} (hc : zC p s m args meth c prog_7_method_4_code none 3 "NumberDress$Look") (hA : ∀ q : Nat, s.heap.size ≤ q → A q) (hE : zE gE A s) (hl : lv_has ls 3 [(0, .ref h0), (1, .int x1)]) (hK : va_K (dC, dI) zCl [(cA1, .char)] s) (hP : va_P (dC, dI) zCl [(h0, .inr (6, o_Look I0 h1)), (h1, .inl (cA1, n1, .inl f1))] H) (hD : va_D A [(h0, .inr (6, o_Look I0 h1)), (h1, .inl (cA1, n1, .inl f1))]) (hS : va_S A s.heap H locs) (hN : N0 ≤ n1 ∧ n1 ≤ NF) (hv : v_Look_put_0 I0 n1 f1 x1  NF Z) : W p l e (headSpec (Cond.code (⟨"NumberDress$Look", "put", "(I)V"⟩ : MethodName) prog_7_method_4_code 3 none :: zT) { frames := 1, cells := 2 * NF - 2 * N0, slots := 2 * NF - 2 * N0, locals := 40 }).room s m args below meth c H locs (2 * n1 - 2 * N0) (2 * n1 - 2 * N0) (MQ below (va_Qv (fun u : (Nat → Int32) × Nat × (Nat → Int32) => u.2.1 = NF ∧ Z u) (fun (u : (Nat → Int32) × Nat × (Nat → Int32)) t => ∃ (b9 : Nat) (k9 : ClassId), va_P (dC, dI) zCl [(h0, .inr (6, o_Look u.1 b9)), (b9, .inl (k9, u.2.1, .inl u.2.2))] t.heap ∧ va_K (dC, dI) zCl [(k9, .char)] t ∧ va_D A [(h0, .inr (6, o_Look u.1 b9)), (b9, .inl (k9, u.2.1, .inl u.2.2))]) A) args s (2 * NF - 2 * N0) (2 * NF - 2 * N0) A) (F0 m 0 ls []) := by
  obtain ⟨hx, hb, hr, hml, hown, ht, hlocks⟩ := id hc
  unfold v_Look_put_0 at hv
  refine lv_aload_n hx hb d_Look_put_0 rfl (lv_at hl 0 rfl) ?_
  refine va_get (D := (dC, dI)) (ci := 6) (v := .int (I0 1)) (C := "NumberDress$Look") (T := T_Look) (N := 3) hx hb ht zin_Look hown hK hP 0 rfl rfl 1 (by decide) (ht _ zw_456) (fun _ h9 => h9) rfl d_Look_put_1 ?_
  refine lv_aload_n hx hb d_Look_put_4 rfl (lv_at hl 0 rfl) ?_
  refine va_get (D := (dC, dI)) (ci := 6) (v := .ref h1) (C := "NumberDress$Look") (T := T_Look) (N := 3) hx hb ht zin_Look hown hK hP 0 rfl rfl 0 (by decide) (ht _ zw_455) (fun _ h9 => h9) rfl d_Look_put_5 ?_
  refine va_alen (v := (nI n1)) hx hb hK hP 1 0 rfl rfl rfl d_Look_put_8 ?_
  refine lv_icmp_lt (tgt := 53) hx hb d_Look_put_9 (by decide) (fun c_1 => ?_) (fun c_1 => ?_)
  · have hv := hv.1 c_1
    exact b_Look_put_53 hc hA hE  (lv_sub hl [0, 1] rfl) hK hP hD hS hN hv
  · have hv := hv.2 c_1
    refine lv_aload_n hx hb d_Look_put_12 rfl (lv_at hl 0 rfl) ?_
    refine va_get (D := (dC, dI)) (ci := 6) (v := .ref h1) (C := "NumberDress$Look") (T := T_Look) (N := 3) hx hb ht zin_Look hown hK hP 0 rfl rfl 0 (by decide) (ht _ zw_455) (fun _ h9 => h9) rfl d_Look_put_13 ?_
    refine va_alen (v := (nI n1)) hx hb hK hP 1 0 rfl rfl rfl d_Look_put_16 ?_
    refine lv_sipush (v := (4096 : Int32)) hx hb d_Look_put_17 (by decide) ?_
    refine lv_icmp_ge (tgt := 53) hx hb d_Look_put_20 (by decide) (fun c_2 => ?_) (fun c_2 => ?_)
    · have hv := hv.1 c_2
      exact b_Look_put_53 hc hA hE  (lv_sub hl [0, 1] rfl) hK hP hD hS hN hv
    · have hv := hv.2 c_2
      obtain ⟨g1, g2, g3, hv⟩ := hv
      obtain ⟨z1, z2⟩ := z_dbl g1
      refine lv_aload_n hx hb d_Look_put_23 rfl (lv_at hl 0 rfl) ?_
      refine va_get (D := (dC, dI)) (ci := 6) (v := .ref h1) (C := "NumberDress$Look") (T := T_Look) (N := 3) hx hb ht zin_Look hown hK hP 0 rfl rfl 0 (by decide) (ht _ zw_455) (fun _ h9 => h9) rfl d_Look_put_24 ?_
      refine va_alen (v := (nI n1)) hx hb hK hP 1 0 rfl rfl rfl d_Look_put_27 ?_
      refine lv_iconst (v := (2 : Int32)) hx hb d_Look_put_28 (by decide) ?_
      refine lv_imul hx hb d_Look_put_29 ?_
      refine va_newa (atype := .char) (ty := .char) (N' := n1 * 2) (a0 := (n1 * 2, .inl (fun _ => 0))) hx hb (ht _ zw_241) rfl hK hP hD hS hA (fun _ => rfl) z1 z2 (by show n1 * 2 * 2 ≤ _; omega) (by show _ ≤ 2 * NF - 2 * N0; omega) (by show _ ≤ 2 * NF - 2 * N0; omega) d_Look_put_30 (fun q kq H hK hP hD hS => ?_)
      have hP : va_P (dC, dI) zCl [(h0, .inr (6, [.ref h1, .int (I0 1), .int (I0 2)])), (h1, .inl (cA1, n1, .inl f1)), (q, .inl (kq, n1 * 2, .inl (fun _ => 0)))] H := hP
      have hD : va_D A [(h0, .inr (6, [.ref h1, .int (I0 1), .int (I0 2)])), (h1, .inl (cA1, n1, .inl f1)), (q, .inl (kq, n1 * 2, .inl (fun _ => 0)))] := hD
      refine lv_astore_n (lv' := [(2, .ref q), (0, .ref h0), (1, .int x1)]) hx hb d_Look_put_32 rfl hl (by decide) rfl (fun ls hl => ?_)
      refine lv_aload_n hx hb d_Look_put_33 rfl (lv_at hl 1 rfl) ?_
      refine va_get (D := (dC, dI)) (ci := 6) (v := .ref h1) (C := "NumberDress$Look") (T := T_Look) (N := 3) hx hb ht zin_Look hown hK hP 0 rfl rfl 0 (by decide) (ht _ zw_455) (fun _ h9 => h9) rfl d_Look_put_34 ?_
      refine lv_iconst (v := (0 : Int32)) hx hb d_Look_put_37 (by decide) ?_
      refine lv_aload_n hx hb d_Look_put_38 rfl (lv_at hl 0 rfl) ?_
      refine lv_iconst (v := (0 : Int32)) hx hb d_Look_put_39 (by decide) ?_
      refine lv_aload_n hx hb d_Look_put_40 rfl (lv_at hl 1 rfl) ?_
      refine va_get (D := (dC, dI)) (ci := 6) (v := .ref h1) (C := "NumberDress$Look") (T := T_Look) (N := 3) hx hb ht zin_Look hown hK hP 0 rfl rfl 0 (by decide) (ht _ zw_455) (fun _ h9 => h9) rfl d_Look_put_41 ?_
      refine va_alen (v := (nI n1)) hx hb hK hP 1 0 rfl rfl rfl d_Look_put_44 ?_
      refine va_copyi (ty := .char) hx hb (hml.trans hl.1.symm) hown (ht _ zw_868) (ht _ zw_870) (ht _ zw_869) (ht _ zw_134) hK hP hD hS 1 2 0 1 rfl rfl rfl rfl rfl (by decide) (by decide) (nI_pos (by omega)) (by rw [nI_clamp (by omega)]; show 0 + n1 ≤ n1; omega) (by rw [nI_clamp (by omega)]; show 0 + n1 ≤ n1 * 2; omega) (fun i hi => by rw [nI_clamp (by omega)] at hi; exact zc_f (g3 _ (show 0 + i < n1 by omega))) (Nat.le_of_ble_eq_true rfl) (Nat.le_of_ble_eq_true rfl) d_Look_put_45 (fun H locs hP hD hS => ?_)
      have hP : va_P (dC, dI) zCl [(h0, .inr (6, [.ref h1, .int (I0 1), .int (I0 2)])), (h1, .inl (cA1, n1, .inl f1)), (q, .inl (kq, n1 * 2, .inl (va_cpy f1 (fun _ => 0) (0 : Int32).toNatClampNeg (0 : Int32).toNatClampNeg (nI n1).toNatClampNeg)))] H := hP
      have hD : va_D A [(h0, .inr (6, [.ref h1, .int (I0 1), .int (I0 2)])), (h1, .inl (cA1, n1, .inl f1)), (q, .inl (kq, n1 * 2, .inl (va_cpy f1 (fun _ => 0) (0 : Int32).toNatClampNeg (0 : Int32).toNatClampNeg (nI n1).toNatClampNeg)))] := hD
      refine lv_aload_n hx hb d_Look_put_48 rfl (lv_at hl 1 rfl) ?_
      refine lv_aload_n hx hb d_Look_put_49 rfl (lv_at hl 0 rfl) ?_
      refine va_put (D := (dC, dI)) (ci := 6) (v := .ref q) (ty := .array (.char)) (C := "NumberDress$Look") (T := T_Look) (N := 3) hx hb ht zin_Look ty_Look tyok_Look nm_Look hown hK hP hD hS 0 rfl rfl 0 (by decide) (ht _ zw_455) (fun _ h9 => h9) rfl (by decide +kernel) rfl rfl (Nat.le_of_ble_eq_true rfl) d_Look_put_50 (fun H locs hP hD hS => ?_)
      have hP : va_P (dC, dI) zCl [(h0, .inr (6, [.ref q, .int (I0 1), .int (I0 2)])), (h1, .inl (cA1, n1, .inl f1)), (q, .inl (kq, n1 * 2, .inl (va_cpy f1 (fun _ => 0) (0 : Int32).toNatClampNeg (0 : Int32).toNatClampNeg (nI n1).toNatClampNeg)))] H := hP
      have hD : va_D A [(h0, .inr (6, [.ref q, .int (I0 1), .int (I0 2)])), (h1, .inl (cA1, n1, .inl f1)), (q, .inl (kq, n1 * 2, .inl (va_cpy f1 (fun _ => 0) (0 : Int32).toNatClampNeg (0 : Int32).toNatClampNeg (nI n1).toNatClampNeg)))] := hD
      have hP : va_P (dC, dI) zCl [(h0, .inr (6, [.ref q, .int (I0 1), .int (I0 2)])), (q, .inl (kq, n1 * 2, .inl (va_cpy f1 (fun _ => 0) (0 : Int32).toNatClampNeg (0 : Int32).toNatClampNeg (nI n1).toNatClampNeg)))] H := hP.sub [0, 2] rfl
      have hD : va_D A [(h0, .inr (6, [.ref q, .int (I0 1), .int (I0 2)])), (q, .inl (kq, n1 * 2, .inl (va_cpy f1 (fun _ => 0) (0 : Int32).toNatClampNeg (0 : Int32).toNatClampNeg (nI n1).toNatClampNeg)))] := hD.sub [0, 2] (by decide) rfl
      have hK : va_K (dC, dI) zCl [(kq, .char)] s := hK.sub [1] rfl
      refine W.widen (k := 2 * (n1 * 2) - 2 * N0) (n := 2 * (n1 * 2) - 2 * N0) (by omega) (by omega) ?_
      have hN : N0 ≤ n1 * 2 ∧ n1 * 2 ≤ NF := by omega
      exact b_Look_put_53 hc hA hE  (lv_sub hl [1, 2] rfl) hK hP hD hS hN hv
theorem zi_Look_put : Cond.code (⟨"NumberDress$Look", "put", "(I)V"⟩ : MethodName) prog_7_method_4_code 3 none ∈ zT := zw_867
theorem zh_Look_put : (((⟨"NumberDress$Look", "put", "(I)V"⟩ : MethodName)).cls ≠ "java/lang/invoke/MethodHandle" ∧ ((⟨"NumberDress$Look", "put", "(I)V"⟩ : MethodName)).cls ≠ "java/lang/invoke/VarHandle" ∧ (parseMethodDescriptor ((⟨"NumberDress$Look", "put", "(I)V"⟩ : MethodName)).desc).map (fun d => d.parameters.length) = some 1) := by decide +kernel
set_option maxHeartbeats 4000000 in
set_option maxRecDepth 100000 in
theorem m_Look_put (l : Launch) (dC : Nat → ClassId) (dI : Nat → Nat → Nat) {gE : zG} {h0 : Nat} {h1 : Nat} {cA1 : ClassId} {I0 : Nat → Int32} {n1 : Nat} {f1 : Nat → Int32} {x1 : Int32} {sz : Nat} {Z : (Nat → Int32) × Nat × (Nat → Int32) → Prop} {NF : Nat} (hNF : n1 ≤ NF) (hv : v_Look_put_0 I0 n1 f1 x1 NF Z) : Met l (⟨"NumberDress$Look", "put", "(I)V"⟩ : MethodName) (Cond.code (⟨"NumberDress$Look", "put", "(I)V"⟩ : MethodName) prog_7_method_4_code 3 none :: zT) { frames := 1, cells := 2 * NF - 2 * n1, slots := 2 * NF - 2 * n1, locals := 40 } (zPc gE (dC, dI) zCl [(cA1, .char)] [.ref h0, .int x1] sz [(h0, .inr (6, o_Look I0 h1)), (h1, .inl (cA1, n1, .inl f1))]) (va_Qv (fun u : (Nat → Int32) × Nat × (Nat → Int32) => u.2.1 = NF ∧ Z u) (fun (u : (Nat → Int32) × Nat × (Nat → Int32)) t => ∃ (b9 : Nat) (k9 : ClassId), va_P (dC, dI) zCl [(h0, .inr (6, o_Look u.1 b9)), (b9, .inl (k9, u.2.1, .inl u.2.2))] t.heap ∧ va_K (dC, dI) zCl [(k9, .char)] t ∧ va_D (va_A [(h0, .inr (6, o_Look I0 h1)), (h1, .inl (cA1, n1, .inl f1))] sz) [(h0, .inr (6, o_Look u.1 b9)), (b9, .inl (k9, u.2.1, .inl u.2.2))]) (va_A [(h0, .inr (6, o_Look I0 h1)), (h1, .inl (cA1, n1, .inl f1))] sz)) (2 * NF - 2 * n1) (2 * NF - 2 * n1) (va_A [(h0, .inr (6, o_Look I0 h1)), (h1, .inl (cA1, n1, .inl f1))] sz) := by
  refine Met.ofW (cc := prog_7_method_4_code) (maxL := 3) (ret := none) (by decide +kernel) rfl ?_
  intro p e s m args below meth c s₁ B hml hp
  obtain ⟨rfl, hsz, hP, hK, hD0, hE⟩ := hp
  have hts := atoms_spec (ws := (Cond.code (⟨"NumberDress$Look", "put", "(I)V"⟩ : MethodName) prog_7_method_4_code 3 none :: zT)) B.pre
  have hown : s.vm.findClass "NumberDress$Look" = some m.cls := findClass_of_methodNamed B.named
  have hc : zC p s m _ meth c prog_7_method_4_code none 3 "NumberDress$Look" := ⟨B.exec, B.bytes, B.returns, hml, hown, fun w h => hts w (List.mem_cons_of_mem _ h), B.notSynchronized⟩
  subst hsz
  have hD := hD0.self (sz := s.heap.size)
  generalize hAe : va_A [(h0, .inr (6, o_Look I0 h1)), (h1, .inl (cA1, n1, .inl f1))] s.heap.size = A at hD hE ⊢
  have hA : ∀ q : Nat, s.heap.size ≤ q → A q := fun q h => by rw [← hAe]; exact Or.inr h
  have hl := lv_entry ([.ref h0, .int x1]) (n := 3) (Nat.le_of_ble_eq_true rfl)
  rw [lg_entry_eq]
  refine W.widen (k := 2 * n1 - 2 * n1) (n := 2 * n1 - 2 * n1) (Nat.zero_le _) (Nat.zero_le _) ?_
  exact b_Look_put_0 hc hA hE hl hK hP hD va_S.rf ⟨Nat.le_refl _, hNF⟩ hv
end
