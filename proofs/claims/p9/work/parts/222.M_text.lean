section
variable {p : Program} {l : Launch} {e : Env} {s : State} {m : MethodId} {args : Array Value} {below : List Frame} {meth : Method} {c : Code} {dC : Nat → ClassId} {dI : Nat → Nat → Nat} {A : Nat → Prop} {gE : zG}
theorem d_M_text_0 : decode prog_14_method_9_code 0 = .ok (.aload_n 0, 1) := by decide +kernel
theorem d_M_text_1 : decode prog_14_method_9_code 1 = .ok (.iconst 0, 1) := by decide +kernel
theorem d_M_text_2 : decode prog_14_method_9_code 2 = .ok (.putfield 55, 3) := by decide +kernel
theorem d_M_text_5 : decode prog_14_method_9_code 5 = .ok (.aload_n 0, 1) := by decide +kernel
theorem d_M_text_6 : decode prog_14_method_9_code 6 = .ok (.iconst 1, 1) := by decide +kernel
theorem d_M_text_7 : decode prog_14_method_9_code 7 = .ok (.putfield 76, 3) := by decide +kernel
theorem d_M_text_10 : decode prog_14_method_9_code 10 = .ok (.aload_n 0, 1) := by decide +kernel
theorem d_M_text_11 : decode prog_14_method_9_code 11 = .ok (.aload_n 0, 1) := by decide +kernel
theorem d_M_text_12 : decode prog_14_method_9_code 12 = .ok (.getfield 69, 3) := by decide +kernel
theorem d_M_text_15 : decode prog_14_method_9_code 15 = .ok (.putfield 91, 3) := by decide +kernel
theorem d_M_text_18 : decode prog_14_method_9_code 18 = .ok (.iconst 0, 1) := by decide +kernel
theorem d_M_text_19 : decode prog_14_method_9_code 19 = .ok (.istore_n 1, 1) := by decide +kernel
theorem d_M_text_20 : decode prog_14_method_9_code 20 = .ok (.iload_n 1, 1) := by decide +kernel
theorem d_M_text_21 : decode prog_14_method_9_code 21 = .ok (.aload_n 0, 1) := by decide +kernel
theorem d_M_text_22 : decode prog_14_method_9_code 22 = .ok (.getfield 69, 3) := by decide +kernel
theorem d_M_text_25 : decode prog_14_method_9_code 25 = .ok (.if_icmp .ge 21, 3) := by decide +kernel
theorem d_M_text_28 : decode prog_14_method_9_code 28 = .ok (.aload_n 0, 1) := by decide +kernel
theorem d_M_text_29 : decode prog_14_method_9_code 29 = .ok (.getfield 37, 3) := by decide +kernel
theorem d_M_text_32 : decode prog_14_method_9_code 32 = .ok (.iload_n 1, 1) := by decide +kernel
theorem d_M_text_33 : decode prog_14_method_9_code 33 = .ok (.aload_n 0, 1) := by decide +kernel
theorem d_M_text_34 : decode prog_14_method_9_code 34 = .ok (.getfield 7, 3) := by decide +kernel
theorem d_M_text_37 : decode prog_14_method_9_code 37 = .ok (.iload_n 1, 1) := by decide +kernel
theorem d_M_text_38 : decode prog_14_method_9_code 38 = .ok (.iaload, 1) := by decide +kernel
theorem d_M_text_39 : decode prog_14_method_9_code 39 = .ok (.iastore, 1) := by decide +kernel
theorem d_M_text_40 : decode prog_14_method_9_code 40 = .ok (.iinc 1 1, 3) := by decide +kernel
theorem d_M_text_43 : decode prog_14_method_9_code 43 = .ok (.goto (-23), 3) := by decide +kernel
theorem d_M_text_46 : decode prog_14_method_9_code 46 = .ok (.return_, 1) := by decide +kernel
set_option maxHeartbeats 4000000 in
set_option maxRecDepth 100000 in
theorem b_M_text_20 {h0 : Nat} {a0_4 : Nat} {a0_5 : Nat} {a0_6 : Nat} {a0_7 : Nat} {a0_8 : Nat} {a0_9 : Nat} {a0_10 : Nat} {a0_11 : Nat} {a0_26 : Nat} {a0_29 : Nat} {a0_31 : Nat} {a0_32 : Nat} {a0_34 : Nat} {h1 : Nat} {cA1 : ClassId} {h2 : Nat} {cA2 : ClassId} {I0 : Nat → Int32} {J0 : Nat → Int64} {n1 : Nat} {f1 : Nat → Int32} {n2 : Nat}  {Z : (Nat → Int32) × (Nat → Int32) → Prop} (hc : zC p s m args meth c prog_14_method_9_code none 2 "NumberDressModel") (hA : ∀ q : Nat, s.heap.size ≤ q → A q) (hE : zE gE A s) : ∀ (N : Nat) (f2 : Nat → Int32) (x1 : Int32) (H : Heap) (locs : List Loc) (ls : Array Slot), lv_has ls 2 [(0, .ref h0), (1, .int x1)] → va_K (dC, dI) zCl [(cA1, .int), (cA2, .int)] s → va_P (dC, dI) zCl [(h0, .inr (12, o_M I0 J0 h1 a0_4 a0_5 a0_6 a0_7 a0_8 a0_9 a0_10 a0_11 h2 a0_26 a0_29 a0_31 a0_32 a0_34)), (h1, .inl (cA1, n1, .inl f1)), (h2, .inl (cA2, n2, .inl f2))] H → va_D A [(h0, .inr (12, o_M I0 J0 h1 a0_4 a0_5 a0_6 a0_7 a0_8 a0_9 a0_10 a0_11 h2 a0_26 a0_29 a0_31 a0_32 a0_34)), (h1, .inl (cA1, n1, .inl f1)), (h2, .inl (cA2, n2, .inl f2))] → va_S A s.heap H locs → v_M_text_20 I0 J0 n1 f1 n2  Z N f2 x1 → W p l e (headSpec (Cond.code (⟨"NumberDressModel", "text", "()V"⟩ : MethodName) prog_14_method_9_code 2 none :: zT) { frames := 0, cells := 0, slots := 0, locals := 0 }).room s m args below meth c H locs 0 0 (MQ below (va_Qv Z (zB (dC, dI) zCl [(cA1, .int), (cA2, .int)] A (fun u : (Nat → Int32) × (Nat → Int32) => [(h0, .inr (12, o_M u.1 J0 h1 a0_4 a0_5 a0_6 a0_7 a0_8 a0_9 a0_10 a0_11 h2 a0_26 a0_29 a0_31 a0_32 a0_34)), (h1, .inl (cA1, n1, .inl f1)), (h2, .inl (cA2, n2, .inl u.2))])) A) args s 0 0 A) (F0 m 20 ls []) := by
  obtain ⟨hx, hb, hr, hml, hown, ht, hlocks⟩ := id hc
  intro N
  induction N with
  | zero => intro f2 x1 H locs ls hl hK hP hD hS hv; exact hv.elim
  | succ N hk20 =>
    intro f2 x1 H locs ls hl hK hP hD hS hv
    unfold v_M_text_20 at hv
    refine lv_iload_n hx hb d_M_text_20 rfl (lv_at hl 1 rfl) ?_
    refine lv_aload_n hx hb d_M_text_21 rfl (lv_at hl 0 rfl) ?_
    refine va_get (D := (dC, dI)) (ci := 12) (v := .int (I0 1)) (C := "NumberDressModel") (T := T_M) (N := 41) hx hb ht zin_M hown hK hP 0 rfl rfl 1 (by decide) (ht _ zw_1262) (fun _ h9 => h9) rfl d_M_text_22 ?_
    refine lv_icmp_ge (tgt := 46) hx hb d_M_text_25 (by decide) (fun c_1 => ?_) (fun c_1 => ?_)
    · have hv := hv.1 c_1
      exact W.vret hx hb hr (fun t ht hW => ⟨⟨(I0, f2), rfl, hv, ⟨by rw [ht]; exact hP, va_K.moved hW.alike hK, hD⟩⟩, hS.F ht⟩) hS.2.2 d_M_text_46
    · have hv := hv.2 c_1
      refine lv_aload_n hx hb d_M_text_28 rfl (lv_at hl 0 rfl) ?_
      refine va_get (D := (dC, dI)) (ci := 12) (v := .ref h2) (C := "NumberDressModel") (T := T_M) (N := 41) hx hb ht zin_M hown hK hP 0 rfl rfl 22 (by decide) (ht _ zw_1283) (fun _ h9 => h9) rfl d_M_text_29 ?_
      refine lv_iload_n hx hb d_M_text_32 rfl (lv_at hl 1 rfl) ?_
      refine lv_aload_n hx hb d_M_text_33 rfl (lv_at hl 0 rfl) ?_
      refine va_get (D := (dC, dI)) (ci := 12) (v := .ref h1) (C := "NumberDressModel") (T := T_M) (N := 41) hx hb ht zin_M hown hK hP 0 rfl rfl 2 (by decide) (ht _ zw_1263) (fun _ h9 => h9) rfl d_M_text_34 ?_
      refine lv_iload_n hx hb d_M_text_37 rfl (lv_at hl 1 rfl) ?_
      obtain ⟨q_2, hv⟩ := hv
      refine va_iald hx hb hK hP 1 0 rfl rfl q_2 d_M_text_38 ?_
      obtain ⟨q_3, hv⟩ := hv
      refine va_iast hx hb hK hP hD hS 2 1 rfl rfl q_3 d_M_text_39 (fun H locs hP hD hS => ?_)
      have hP : va_P (dC, dI) zCl [(h0, .inr (12, o_M I0 J0 h1 a0_4 a0_5 a0_6 a0_7 a0_8 a0_9 a0_10 a0_11 h2 a0_26 a0_29 a0_31 a0_32 a0_34)), (h1, .inl (cA1, n1, .inl f1)), (h2, .inl (cA2, n2, .inl (upd f2 x1.toNatClampNeg (f1 x1.toNatClampNeg))))] H := hP
      have hD : va_D A [(h0, .inr (12, o_M I0 J0 h1 a0_4 a0_5 a0_6 a0_7 a0_8 a0_9 a0_10 a0_11 h2 a0_26 a0_29 a0_31 a0_32 a0_34)), (h1, .inl (cA1, n1, .inl f1)), (h2, .inl (cA2, n2, .inl (upd f2 x1.toNatClampNeg (f1 x1.toNatClampNeg))))] := hD
      refine lv_iinc (v := (x1 + (1 : Int32))) (lv' := [(1, .int (x1 + (1 : Int32))), (0, .ref h0)]) hx hb d_M_text_40 hl (k := 1) rfl rfl (by decide) rfl (fun ls hl => ?_)
      refine lv_goto (tgt := 20) hx hb d_M_text_43 (by decide) ?_
      exact hk20 (upd f2 x1.toNatClampNeg (f1 x1.toNatClampNeg)) (x1 + (1 : Int32)) _ _ _ (lv_sub hl [1, 0] rfl) hK hP hD hS hv
set_option maxHeartbeats 4000000 in
set_option maxRecDepth 100000 in
theorem b_M_text_0 {h0 : Nat} {a0_4 : Nat} {a0_5 : Nat} {a0_6 : Nat} {a0_7 : Nat} {a0_8 : Nat} {a0_9 : Nat} {a0_10 : Nat} {a0_11 : Nat} {a0_26 : Nat} {a0_29 : Nat} {a0_31 : Nat} {a0_32 : Nat} {a0_34 : Nat} {h1 : Nat} {cA1 : ClassId} {h2 : Nat} {cA2 : ClassId} {I0 : Nat → Int32} {J0 : Nat → Int64} {n1 : Nat} {f1 : Nat → Int32} {n2 : Nat} {f2 : Nat → Int32}  {Z : (Nat → Int32) × (Nat → Int32) → Prop} {H : Heap} {locs : List Loc} {ls : Array Slot} (hc : zC p s m args meth c prog_14_method_9_code none 2 "NumberDressModel") (hA : ∀ q : Nat, s.heap.size ≤ q → A q) (hE : zE gE A s) (hl : lv_has ls 2 [(0, .ref h0)]) (hK : va_K (dC, dI) zCl [(cA1, .int), (cA2, .int)] s) (hP : va_P (dC, dI) zCl [(h0, .inr (12, o_M I0 J0 h1 a0_4 a0_5 a0_6 a0_7 a0_8 a0_9 a0_10 a0_11 h2 a0_26 a0_29 a0_31 a0_32 a0_34)), (h1, .inl (cA1, n1, .inl f1)), (h2, .inl (cA2, n2, .inl f2))] H) (hD : va_D A [(h0, .inr (12, o_M I0 J0 h1 a0_4 a0_5 a0_6 a0_7 a0_8 a0_9 a0_10 a0_11 h2 a0_26 a0_29 a0_31 a0_32 a0_34)), (h1, .inl (cA1, n1, .inl f1)), (h2, .inl (cA2, n2, .inl f2))]) (hS : va_S A s.heap H locs) (hv : v_M_text_0 I0 J0 n1 f1 n2 f2  Z) : W p l e (headSpec (Cond.code (⟨"NumberDressModel", "text", "()V"⟩ : MethodName) prog_14_method_9_code 2 none :: zT) { frames := 0, cells := 0, slots := 0, locals := 0 }).room s m args below meth c H locs 0 0 (MQ below (va_Qv Z (zB (dC, dI) zCl [(cA1, .int), (cA2, .int)] A (fun u : (Nat → Int32) × (Nat → Int32) => [(h0, .inr (12, o_M u.1 J0 h1 a0_4 a0_5 a0_6 a0_7 a0_8 a0_9 a0_10 a0_11 h2 a0_26 a0_29 a0_31 a0_32 a0_34)), (h1, .inl (cA1, n1, .inl f1)), (h2, .inl (cA2, n2, .inl u.2))])) A) args s 0 0 A) (F0 m 0 ls []) := by
  obtain ⟨hx, hb, hr, hml, hown, ht, hlocks⟩ := id hc
  unfold v_M_text_0 at hv
  refine lv_aload_n hx hb d_M_text_0 rfl (lv_at hl 0 rfl) ?_
  refine lv_iconst (v := (0 : Int32)) hx hb d_M_text_1 (by decide) ?_
  refine va_put (D := (dC, dI)) (ci := 12) (v := .int (0 : Int32)) (ty := .int) (C := "NumberDressModel") (T := T_M) (N := 41) hx hb ht zin_M ty_M tyok_M nm_M hown hK hP hD hS 0 rfl rfl 0 (by decide) (ht _ zw_1261) (fun _ h9 => h9) rfl (by decide +kernel) rfl rfl (Nat.le_of_ble_eq_true rfl) d_M_text_2 (fun H locs hP hD hS => ?_)
  have hP : va_P (dC, dI) zCl [(h0, .inr (12, o_M (zu I0 0 (0 : Int32)) J0 h1 a0_4 a0_5 a0_6 a0_7 a0_8 a0_9 a0_10 a0_11 h2 a0_26 a0_29 a0_31 a0_32 a0_34)), (h1, .inl (cA1, n1, .inl f1)), (h2, .inl (cA2, n2, .inl f2))] H := hP
  have hD : va_D A [(h0, .inr (12, o_M (zu I0 0 (0 : Int32)) J0 h1 a0_4 a0_5 a0_6 a0_7 a0_8 a0_9 a0_10 a0_11 h2 a0_26 a0_29 a0_31 a0_32 a0_34)), (h1, .inl (cA1, n1, .inl f1)), (h2, .inl (cA2, n2, .inl f2))] := hD
  refine lv_aload_n hx hb d_M_text_5 rfl (lv_at hl 0 rfl) ?_
  refine lv_iconst (v := (1 : Int32)) hx hb d_M_text_6 (by decide) ?_
  refine va_put (D := (dC, dI)) (ci := 12) (v := .int (1 : Int32)) (ty := .boolean) (C := "NumberDressModel") (T := T_M) (N := 41) hx hb ht zin_M ty_M tyok_M nm_M hown hK hP hD hS 0 rfl rfl 20 (by decide) (ht _ zw_1281) (fun _ h9 => h9) rfl (by decide +kernel) (by decide) (by decide) (Nat.le_of_ble_eq_true rfl) d_M_text_7 (fun H locs hP hD hS => ?_)
  have hP : va_P (dC, dI) zCl [(h0, .inr (12, o_M (zu (zu I0 0 (0 : Int32)) 20 (1 : Int32)) J0 h1 a0_4 a0_5 a0_6 a0_7 a0_8 a0_9 a0_10 a0_11 h2 a0_26 a0_29 a0_31 a0_32 a0_34)), (h1, .inl (cA1, n1, .inl f1)), (h2, .inl (cA2, n2, .inl f2))] H := hP
  have hD : va_D A [(h0, .inr (12, o_M (zu (zu I0 0 (0 : Int32)) 20 (1 : Int32)) J0 h1 a0_4 a0_5 a0_6 a0_7 a0_8 a0_9 a0_10 a0_11 h2 a0_26 a0_29 a0_31 a0_32 a0_34)), (h1, .inl (cA1, n1, .inl f1)), (h2, .inl (cA2, n2, .inl f2))] := hD
  refine lv_aload_n hx hb d_M_text_10 rfl (lv_at hl 0 rfl) ?_
  refine lv_aload_n hx hb d_M_text_11 rfl (lv_at hl 0 rfl) ?_
  refine va_get (D := (dC, dI)) (ci := 12) (v := .int (I0 1)) (C := "NumberDressModel") (T := T_M) (N := 41) hx hb ht zin_M hown hK hP 0 rfl rfl 1 (by decide) (ht _ zw_1262) (fun _ h9 => h9) rfl d_M_text_12 ?_
  refine va_put (D := (dC, dI)) (ci := 12) (v := .int (I0 1)) (ty := .int) (C := "NumberDressModel") (T := T_M) (N := 41) hx hb ht zin_M ty_M tyok_M nm_M hown hK hP hD hS 0 rfl rfl 21 (by decide) (ht _ zw_1282) (fun _ h9 => h9) rfl (by decide +kernel) rfl rfl (Nat.le_of_ble_eq_true rfl) d_M_text_15 (fun H locs hP hD hS => ?_)
  have hP : va_P (dC, dI) zCl [(h0, .inr (12, o_M (zu (zu (zu I0 0 (0 : Int32)) 20 (1 : Int32)) 21 (I0 1)) J0 h1 a0_4 a0_5 a0_6 a0_7 a0_8 a0_9 a0_10 a0_11 h2 a0_26 a0_29 a0_31 a0_32 a0_34)), (h1, .inl (cA1, n1, .inl f1)), (h2, .inl (cA2, n2, .inl f2))] H := hP
  have hD : va_D A [(h0, .inr (12, o_M (zu (zu (zu I0 0 (0 : Int32)) 20 (1 : Int32)) 21 (I0 1)) J0 h1 a0_4 a0_5 a0_6 a0_7 a0_8 a0_9 a0_10 a0_11 h2 a0_26 a0_29 a0_31 a0_32 a0_34)), (h1, .inl (cA1, n1, .inl f1)), (h2, .inl (cA2, n2, .inl f2))] := hD
  refine lv_iconst (v := (0 : Int32)) hx hb d_M_text_18 (by decide) ?_
  refine lv_istore_n (lv' := [(1, .int (0 : Int32)), (0, .ref h0)]) hx hb d_M_text_19 rfl hl (by decide) rfl (fun ls hl => ?_)
  obtain ⟨Nx, hv⟩ := hv
  exact b_M_text_20 hc hA hE  Nx f2 (0 : Int32) _ _ _ (lv_sub hl [1, 0] rfl) hK hP hD hS hv
theorem zi_M_text : Cond.code (⟨"NumberDressModel", "text", "()V"⟩ : MethodName) prog_14_method_9_code 2 none ∈ zT := zw_1408
theorem zh_M_text : (((⟨"NumberDressModel", "text", "()V"⟩ : MethodName)).cls ≠ "java/lang/invoke/MethodHandle" ∧ ((⟨"NumberDressModel", "text", "()V"⟩ : MethodName)).cls ≠ "java/lang/invoke/VarHandle" ∧ (parseMethodDescriptor ((⟨"NumberDressModel", "text", "()V"⟩ : MethodName)).desc).map (fun d => d.parameters.length) = some 0) := by decide +kernel
set_option maxHeartbeats 4000000 in
set_option maxRecDepth 100000 in
theorem m_M_text (l : Launch) (dC : Nat → ClassId) (dI : Nat → Nat → Nat) {gE : zG} {h0 : Nat} {a0_4 : Nat} {a0_5 : Nat} {a0_6 : Nat} {a0_7 : Nat} {a0_8 : Nat} {a0_9 : Nat} {a0_10 : Nat} {a0_11 : Nat} {a0_26 : Nat} {a0_29 : Nat} {a0_31 : Nat} {a0_32 : Nat} {a0_34 : Nat} {h1 : Nat} {cA1 : ClassId} {h2 : Nat} {cA2 : ClassId} {I0 : Nat → Int32} {J0 : Nat → Int64} {n1 : Nat} {f1 : Nat → Int32} {n2 : Nat} {f2 : Nat → Int32} {sz : Nat} {Z : (Nat → Int32) × (Nat → Int32) → Prop} (hv : v_M_text_0 I0 J0 n1 f1 n2 f2 Z) : Met l (⟨"NumberDressModel", "text", "()V"⟩ : MethodName) (Cond.code (⟨"NumberDressModel", "text", "()V"⟩ : MethodName) prog_14_method_9_code 2 none :: zT) { frames := 0, cells := 0, slots := 0, locals := 0 } (zPc gE (dC, dI) zCl [(cA1, .int), (cA2, .int)] [.ref h0] sz [(h0, .inr (12, o_M I0 J0 h1 a0_4 a0_5 a0_6 a0_7 a0_8 a0_9 a0_10 a0_11 h2 a0_26 a0_29 a0_31 a0_32 a0_34)), (h1, .inl (cA1, n1, .inl f1)), (h2, .inl (cA2, n2, .inl f2))]) (va_Qv Z (zB (dC, dI) zCl [(cA1, .int), (cA2, .int)] (va_A [(h0, .inr (12, o_M I0 J0 h1 a0_4 a0_5 a0_6 a0_7 a0_8 a0_9 a0_10 a0_11 h2 a0_26 a0_29 a0_31 a0_32 a0_34)), (h1, .inl (cA1, n1, .inl f1)), (h2, .inl (cA2, n2, .inl f2))] sz) (fun u : (Nat → Int32) × (Nat → Int32) => [(h0, .inr (12, o_M u.1 J0 h1 a0_4 a0_5 a0_6 a0_7 a0_8 a0_9 a0_10 a0_11 h2 a0_26 a0_29 a0_31 a0_32 a0_34)), (h1, .inl (cA1, n1, .inl f1)), (h2, .inl (cA2, n2, .inl u.2))])) (va_A [(h0, .inr (12, o_M I0 J0 h1 a0_4 a0_5 a0_6 a0_7 a0_8 a0_9 a0_10 a0_11 h2 a0_26 a0_29 a0_31 a0_32 a0_34)), (h1, .inl (cA1, n1, .inl f1)), (h2, .inl (cA2, n2, .inl f2))] sz)) 0 0 (va_A [(h0, .inr (12, o_M I0 J0 h1 a0_4 a0_5 a0_6 a0_7 a0_8 a0_9 a0_10 a0_11 h2 a0_26 a0_29 a0_31 a0_32 a0_34)), (h1, .inl (cA1, n1, .inl f1)), (h2, .inl (cA2, n2, .inl f2))] sz) := by
  refine Met.ofW (cc := prog_14_method_9_code) (maxL := 2) (ret := none) (by decide +kernel) rfl ?_
  intro p e s m args below meth c s₁ B hml hp
  obtain ⟨rfl, hsz, hP, hK, hD0, hE⟩ := hp
  have hts := atoms_spec (ws := (Cond.code (⟨"NumberDressModel", "text", "()V"⟩ : MethodName) prog_14_method_9_code 2 none :: zT)) B.pre
  have hown : s.vm.findClass "NumberDressModel" = some m.cls := findClass_of_methodNamed B.named
  have hc : zC p s m _ meth c prog_14_method_9_code none 2 "NumberDressModel" := ⟨B.exec, B.bytes, B.returns, hml, hown, fun w h => hts w (List.mem_cons_of_mem _ h), B.notSynchronized⟩
  subst hsz
  have hD := hD0.self (sz := s.heap.size)
  generalize hAe : va_A [(h0, .inr (12, o_M I0 J0 h1 a0_4 a0_5 a0_6 a0_7 a0_8 a0_9 a0_10 a0_11 h2 a0_26 a0_29 a0_31 a0_32 a0_34)), (h1, .inl (cA1, n1, .inl f1)), (h2, .inl (cA2, n2, .inl f2))] s.heap.size = A at hD hE ⊢
  have hA : ∀ q : Nat, s.heap.size ≤ q → A q := fun q h => by rw [← hAe]; exact Or.inr h
  have hl := lv_entry ([.ref h0]) (n := 2) (Nat.le_of_ble_eq_true rfl)
  rw [lg_entry_eq]
  exact b_M_text_0 hc hA hE hl hK hP hD va_S.rf hv
theorem d_M_quotesEnd_0 : decode prog_14_method_10_code 0 = .ok (.iload_n 1, 1) := by decide +kernel
theorem d_M_quotesEnd_1 : decode prog_14_method_10_code 1 = .ok (.iconst 1, 1) := by decide +kernel
theorem d_M_quotesEnd_2 : decode prog_14_method_10_code 2 = .ok (.iadd, 1) := by decide +kernel
theorem d_M_quotesEnd_3 : decode prog_14_method_10_code 3 = .ok (.istore_n 2, 1) := by decide +kernel
theorem d_M_quotesEnd_4 : decode prog_14_method_10_code 4 = .ok (.iload_n 2, 1) := by decide +kernel
theorem d_M_quotesEnd_5 : decode prog_14_method_10_code 5 = .ok (.aload_n 0, 1) := by decide +kernel
theorem d_M_quotesEnd_6 : decode prog_14_method_10_code 6 = .ok (.getfield 59, 3) := by decide +kernel
theorem d_M_quotesEnd_9 : decode prog_14_method_10_code 9 = .ok (.if_icmp .ge 20, 3) := by decide +kernel
theorem d_M_quotesEnd_12 : decode prog_14_method_10_code 12 = .ok (.aload_n 0, 1) := by decide +kernel
theorem d_M_quotesEnd_13 : decode prog_14_method_10_code 13 = .ok (.getfield 7, 3) := by decide +kernel
theorem d_M_quotesEnd_16 : decode prog_14_method_10_code 16 = .ok (.iload_n 2, 1) := by decide +kernel
theorem d_M_quotesEnd_17 : decode prog_14_method_10_code 17 = .ok (.iaload, 1) := by decide +kernel
theorem d_M_quotesEnd_18 : decode prog_14_method_10_code 18 = .ok (.bipush 34, 2) := by decide +kernel
theorem d_M_quotesEnd_20 : decode prog_14_method_10_code 20 = .ok (.if_icmp .eq 9, 3) := by decide +kernel
theorem d_M_quotesEnd_23 : decode prog_14_method_10_code 23 = .ok (.iinc 2 1, 3) := by decide +kernel
theorem d_M_quotesEnd_26 : decode prog_14_method_10_code 26 = .ok (.goto (-22), 3) := by decide +kernel
theorem d_M_quotesEnd_29 : decode prog_14_method_10_code 29 = .ok (.iload_n 2, 1) := by decide +kernel
theorem d_M_quotesEnd_30 : decode prog_14_method_10_code 30 = .ok (.aload_n 0, 1) := by decide +kernel
theorem d_M_quotesEnd_31 : decode prog_14_method_10_code 31 = .ok (.getfield 59, 3) := by decide +kernel
theorem d_M_quotesEnd_34 : decode prog_14_method_10_code 34 = .ok (.if_icmp .ge 9, 3) := by decide +kernel
theorem d_M_quotesEnd_37 : decode prog_14_method_10_code 37 = .ok (.iload_n 2, 1) := by decide +kernel
theorem d_M_quotesEnd_38 : decode prog_14_method_10_code 38 = .ok (.iconst 1, 1) := by decide +kernel
theorem d_M_quotesEnd_39 : decode prog_14_method_10_code 39 = .ok (.iadd, 1) := by decide +kernel
theorem d_M_quotesEnd_40 : decode prog_14_method_10_code 40 = .ok (.goto 4, 3) := by decide +kernel
theorem d_M_quotesEnd_43 : decode prog_14_method_10_code 43 = .ok (.iload_n 1, 1) := by decide +kernel
theorem d_M_quotesEnd_44 : decode prog_14_method_10_code 44 = .ok (.ireturn, 1) := by decide +kernel
set_option maxHeartbeats 4000000 in
set_option maxRecDepth 100000 in
theorem b_M_quotesEnd_29 {h0 : Nat} {a0_4 : Nat} {a0_5 : Nat} {a0_6 : Nat} {a0_7 : Nat} {a0_8 : Nat} {a0_9 : Nat} {a0_10 : Nat} {a0_11 : Nat} {a0_22 : Nat} {a0_26 : Nat} {a0_29 : Nat} {a0_31 : Nat} {a0_32 : Nat} {a0_34 : Nat} {h1 : Nat} {cA1 : ClassId} {I0 : Nat → Int32} {J0 : Nat → Int64} {n1 : Nat} {f1 : Nat → Int32} {x1 : Int32} {x2 : Int32}  {Z : Int32 → Unit → Prop} {H : Heap} {locs : List Loc} {ls : Array Slot} (hc : zC p s m args meth c prog_14_method_10_code (some .int) 3 "NumberDressModel") (hA : ∀ q : Nat, s.heap.size ≤ q → A q) (hE : zE gE A s) (hl : lv_has ls 3 [(0, .ref h0), (1, .int x1), (2, .int x2)]) (hK : va_K (dC, dI) zCl [(cA1, .int)] s) (hP : va_P (dC, dI) zCl [(h0, .inr (12, o_M I0 J0 h1 a0_4 a0_5 a0_6 a0_7 a0_8 a0_9 a0_10 a0_11 a0_22 a0_26 a0_29 a0_31 a0_32 a0_34)), (h1, .inl (cA1, n1, .inl f1))] H) (hD : va_D A [(h0, .inr (12, o_M I0 J0 h1 a0_4 a0_5 a0_6 a0_7 a0_8 a0_9 a0_10 a0_11 a0_22 a0_26 a0_29 a0_31 a0_32 a0_34)), (h1, .inl (cA1, n1, .inl f1))]) (hS : va_S A s.heap H locs) (hv : v_M_quotesEnd_29 I0 J0 n1 f1 x1 x2  Z) : W p l e (headSpec (Cond.code (⟨"NumberDressModel", "quotesEnd", "(I)I"⟩ : MethodName) prog_14_method_10_code 3 (some .int) :: zT) { frames := 0, cells := 0, slots := 0, locals := 0 }).room s m args below meth c H locs 0 0 (MQ below (va_Qi Z (zB (dC, dI) zCl [(cA1, .int)] A (fun u : Unit => [(h0, .inr (12, o_M I0 J0 h1 a0_4 a0_5 a0_6 a0_7 a0_8 a0_9 a0_10 a0_11 a0_22 a0_26 a0_29 a0_31 a0_32 a0_34)), (h1, .inl (cA1, n1, .inl f1))])) A) args s 0 0 A) (F0 m 29 ls []) := by
  obtain ⟨hx, hb, hr, hml, hown, ht, hlocks⟩ := id hc
  unfold v_M_quotesEnd_29 at hv
  refine lv_iload_n hx hb d_M_quotesEnd_29 rfl (lv_at hl 2 rfl) ?_
  refine lv_aload_n hx hb d_M_quotesEnd_30 rfl (lv_at hl 0 rfl) ?_
  refine va_get (D := (dC, dI)) (ci := 12) (v := .int (I0 3)) (C := "NumberDressModel") (T := T_M) (N := 41) hx hb ht zin_M hown hK hP 0 rfl rfl 3 (by decide) (ht _ zw_1264) (fun _ h9 => h9) rfl d_M_quotesEnd_31 ?_
  refine lv_icmp_ge (tgt := 43) hx hb d_M_quotesEnd_34 (by decide) (fun c_1 => ?_) (fun c_1 => ?_)
  · have hv := hv.1 c_1
    refine lv_iload_n hx hb d_M_quotesEnd_43 rfl (lv_at hl 1 rfl) ?_
    exact W.iret (v := x1) hx hb hr (fun t ht hW => ⟨⟨_, (), rfl, hv, ⟨by rw [ht]; exact hP, va_K.moved hW.alike hK, hD⟩⟩, hS.F ht⟩) hS.2.2 d_M_quotesEnd_44
  · have hv := hv.2 c_1
    refine lv_iload_n hx hb d_M_quotesEnd_37 rfl (lv_at hl 2 rfl) ?_
    refine lv_iconst (v := (1 : Int32)) hx hb d_M_quotesEnd_38 (by decide) ?_
    refine lv_iadd hx hb d_M_quotesEnd_39 ?_
    refine lv_goto (tgt := 44) hx hb d_M_quotesEnd_40 (by decide) ?_
    exact W.iret (v := (x2 + (1 : Int32))) hx hb hr (fun t ht hW => ⟨⟨_, (), rfl, hv, ⟨by rw [ht]; exact hP, va_K.moved hW.alike hK, hD⟩⟩, hS.F ht⟩) hS.2.2 d_M_quotesEnd_44
set_option maxHeartbeats 4000000 in
set_option maxRecDepth 100000 in
theorem b_M_quotesEnd_4 {h0 : Nat} {a0_4 : Nat} {a0_5 : Nat} {a0_6 : Nat} {a0_7 : Nat} {a0_8 : Nat} {a0_9 : Nat} {a0_10 : Nat} {a0_11 : Nat} {a0_22 : Nat} {a0_26 : Nat} {a0_29 : Nat} {a0_31 : Nat} {a0_32 : Nat} {a0_34 : Nat} {h1 : Nat} {cA1 : ClassId} {I0 : Nat → Int32} {J0 : Nat → Int64} {n1 : Nat} {f1 : Nat → Int32} {x1 : Int32}  {Z : Int32 → Unit → Prop} (hc : zC p s m args meth c prog_14_method_10_code (some .int) 3 "NumberDressModel") (hA : ∀ q : Nat, s.heap.size ≤ q → A q) (hE : zE gE A s) : ∀ (N : Nat) (x2 : Int32) (H : Heap) (locs : List Loc) (ls : Array Slot), lv_has ls 3 [(0, .ref h0), (1, .int x1), (2, .int x2)] → va_K (dC, dI) zCl [(cA1, .int)] s → va_P (dC, dI) zCl [(h0, .inr (12, o_M I0 J0 h1 a0_4 a0_5 a0_6 a0_7 a0_8 a0_9 a0_10 a0_11 a0_22 a0_26 a0_29 a0_31 a0_32 a0_34)), (h1, .inl (cA1, n1, .inl f1))] H → va_D A [(h0, .inr (12, o_M I0 J0 h1 a0_4 a0_5 a0_6 a0_7 a0_8 a0_9 a0_10 a0_11 a0_22 a0_26 a0_29 a0_31 a0_32 a0_34)), (h1, .inl (cA1, n1, .inl f1))] → va_S A s.heap H locs → v_M_quotesEnd_4 I0 J0 n1 f1 x1  Z N x2 → W p l e (headSpec (Cond.code (⟨"NumberDressModel", "quotesEnd", "(I)I"⟩ : MethodName) prog_14_method_10_code 3 (some .int) :: zT) { frames := 0, cells := 0, slots := 0, locals := 0 }).room s m args below meth c H locs 0 0 (MQ below (va_Qi Z (zB (dC, dI) zCl [(cA1, .int)] A (fun u : Unit => [(h0, .inr (12, o_M I0 J0 h1 a0_4 a0_5 a0_6 a0_7 a0_8 a0_9 a0_10 a0_11 a0_22 a0_26 a0_29 a0_31 a0_32 a0_34)), (h1, .inl (cA1, n1, .inl f1))])) A) args s 0 0 A) (F0 m 4 ls []) := by
  obtain ⟨hx, hb, hr, hml, hown, ht, hlocks⟩ := id hc
  intro N
  induction N with
  | zero => intro x2 H locs ls hl hK hP hD hS hv; exact hv.elim
  | succ N hk4 =>
    intro x2 H locs ls hl hK hP hD hS hv
    unfold v_M_quotesEnd_4 at hv
    refine lv_iload_n hx hb d_M_quotesEnd_4 rfl (lv_at hl 2 rfl) ?_
    refine lv_aload_n hx hb d_M_quotesEnd_5 rfl (lv_at hl 0 rfl) ?_
    refine va_get (D := (dC, dI)) (ci := 12) (v := .int (I0 3)) (C := "NumberDressModel") (T := T_M) (N := 41) hx hb ht zin_M hown hK hP 0 rfl rfl 3 (by decide) (ht _ zw_1264) (fun _ h9 => h9) rfl d_M_quotesEnd_6 ?_
    refine lv_icmp_ge (tgt := 29) hx hb d_M_quotesEnd_9 (by decide) (fun c_1 => ?_) (fun c_1 => ?_)
    · have hv := hv.1 c_1
      exact b_M_quotesEnd_29 hc hA hE  (lv_sub hl [0, 1, 2] rfl) hK hP hD hS hv
    · have hv := hv.2 c_1
      refine lv_aload_n hx hb d_M_quotesEnd_12 rfl (lv_at hl 0 rfl) ?_
      refine va_get (D := (dC, dI)) (ci := 12) (v := .ref h1) (C := "NumberDressModel") (T := T_M) (N := 41) hx hb ht zin_M hown hK hP 0 rfl rfl 2 (by decide) (ht _ zw_1263) (fun _ h9 => h9) rfl d_M_quotesEnd_13 ?_
      refine lv_iload_n hx hb d_M_quotesEnd_16 rfl (lv_at hl 2 rfl) ?_
      obtain ⟨q_2, hv⟩ := hv
      refine va_iald hx hb hK hP 1 0 rfl rfl q_2 d_M_quotesEnd_17 ?_
      refine lv_bipush (v := (34 : Int32)) hx hb d_M_quotesEnd_18 (by decide) ?_
      refine lv_icmp_eq (tgt := 29) hx hb d_M_quotesEnd_20 (by decide) (fun c_3 => ?_) (fun c_3 => ?_)
      · have hv := hv.1 c_3
        exact b_M_quotesEnd_29 hc hA hE  (lv_sub hl [0, 1, 2] rfl) hK hP hD hS hv
      · have hv := hv.2 c_3
        refine lv_iinc (v := (x2 + (1 : Int32))) (lv' := [(2, .int (x2 + (1 : Int32))), (0, .ref h0), (1, .int x1)]) hx hb d_M_quotesEnd_23 hl (k := 2) rfl rfl (by decide) rfl (fun ls hl => ?_)
        refine lv_goto (tgt := 4) hx hb d_M_quotesEnd_26 (by decide) ?_
        exact hk4 (x2 + (1 : Int32)) _ _ _ (lv_sub hl [1, 2, 0] rfl) hK hP hD hS hv
set_option maxHeartbeats 4000000 in
set_option maxRecDepth 100000 in
theorem b_M_quotesEnd_0 {h0 : Nat} {a0_4 : Nat} {a0_5 : Nat} {a0_6 : Nat} {a0_7 : Nat} {a0_8 : Nat} {a0_9 : Nat} {a0_10 : Nat} {a0_11 : Nat} {a0_22 : Nat} {a0_26 : Nat} {a0_29 : Nat} {a0_31 : Nat} {a0_32 : Nat} {a0_34 : Nat} {h1 : Nat} {cA1 : ClassId} {I0 : Nat → Int32} {J0 : Nat → Int64} {n1 : Nat} {f1 : Nat → Int32} {x1 : Int32}  {Z : Int32 → Unit → Prop} {H : Heap} {locs : List Loc} {ls : Array Slot} (hc : zC p s m args meth c prog_14_method_10_code (some .int) 3 "NumberDressModel") (hA : ∀ q : Nat, s.heap.size ≤ q → A q) (hE : zE gE A s) (hl : lv_has ls 3 [(0, .ref h0), (1, .int x1)]) (hK : va_K (dC, dI) zCl [(cA1, .int)] s) (hP : va_P (dC, dI) zCl [(h0, .inr (12, o_M I0 J0 h1 a0_4 a0_5 a0_6 a0_7 a0_8 a0_9 a0_10 a0_11 a0_22 a0_26 a0_29 a0_31 a0_32 a0_34)), (h1, .inl (cA1, n1, .inl f1))] H) (hD : va_D A [(h0, .inr (12, o_M I0 J0 h1 a0_4 a0_5 a0_6 a0_7 a0_8 a0_9 a0_10 a0_11 a0_22 a0_26 a0_29 a0_31 a0_32 a0_34)), (h1, .inl (cA1, n1, .inl f1))]) (hS : va_S A s.heap H locs) (hv : v_M_quotesEnd_0 I0 J0 n1 f1 x1  Z) : W p l e (headSpec (Cond.code (⟨"NumberDressModel", "quotesEnd", "(I)I"⟩ : MethodName) prog_14_method_10_code 3 (some .int) :: zT) { frames := 0, cells := 0, slots := 0, locals := 0 }).room s m args below meth c H locs 0 0 (MQ below (va_Qi Z (zB (dC, dI) zCl [(cA1, .int)] A (fun u : Unit => [(h0, .inr (12, o_M I0 J0 h1 a0_4 a0_5 a0_6 a0_7 a0_8 a0_9 a0_10 a0_11 a0_22 a0_26 a0_29 a0_31 a0_32 a0_34)), (h1, .inl (cA1, n1, .inl f1))])) A) args s 0 0 A) (F0 m 0 ls []) := by
  obtain ⟨hx, hb, hr, hml, hown, ht, hlocks⟩ := id hc
  unfold v_M_quotesEnd_0 at hv
  refine lv_iload_n hx hb d_M_quotesEnd_0 rfl (lv_at hl 1 rfl) ?_
  refine lv_iconst (v := (1 : Int32)) hx hb d_M_quotesEnd_1 (by decide) ?_
  refine lv_iadd hx hb d_M_quotesEnd_2 ?_
  refine lv_istore_n (lv' := [(2, .int (x1 + (1 : Int32))), (0, .ref h0), (1, .int x1)]) hx hb d_M_quotesEnd_3 rfl hl (by decide) rfl (fun ls hl => ?_)
  obtain ⟨Nx, hv⟩ := hv
  exact b_M_quotesEnd_4 hc hA hE  Nx (x1 + (1 : Int32)) _ _ _ (lv_sub hl [1, 2, 0] rfl) hK hP hD hS hv
theorem zi_M_quotesEnd : Cond.code (⟨"NumberDressModel", "quotesEnd", "(I)I"⟩ : MethodName) prog_14_method_10_code 3 (some .int) ∈ zT := zw_1420
theorem zh_M_quotesEnd : (((⟨"NumberDressModel", "quotesEnd", "(I)I"⟩ : MethodName)).cls ≠ "java/lang/invoke/MethodHandle" ∧ ((⟨"NumberDressModel", "quotesEnd", "(I)I"⟩ : MethodName)).cls ≠ "java/lang/invoke/VarHandle" ∧ (parseMethodDescriptor ((⟨"NumberDressModel", "quotesEnd", "(I)I"⟩ : MethodName)).desc).map (fun d => d.parameters.length) = some 1) := by decide +kernel
set_option maxHeartbeats 4000000 in
set_option maxRecDepth 100000 in
theorem m_M_quotesEnd (l : Launch) (dC : Nat → ClassId) (dI : Nat → Nat → Nat) {gE : zG} {h0 : Nat} {a0_4 : Nat} {a0_5 : Nat} {a0_6 : Nat} {a0_7 : Nat} {a0_8 : Nat} {a0_9 : Nat} {a0_10 : Nat} {a0_11 : Nat} {a0_22 : Nat} {a0_26 : Nat} {a0_29 : Nat} {a0_31 : Nat} {a0_32 : Nat} {a0_34 : Nat} {h1 : Nat} {cA1 : ClassId} {I0 : Nat → Int32} {J0 : Nat → Int64} {n1 : Nat} {f1 : Nat → Int32} {x1 : Int32} {sz : Nat} {Z : Int32 → Unit → Prop} (hv : v_M_quotesEnd_0 I0 J0 n1 f1 x1 Z) : Met l (⟨"NumberDressModel", "quotesEnd", "(I)I"⟩ : MethodName) (Cond.code (⟨"NumberDressModel", "quotesEnd", "(I)I"⟩ : MethodName) prog_14_method_10_code 3 (some .int) :: zT) { frames := 0, cells := 0, slots := 0, locals := 0 } (zPc gE (dC, dI) zCl [(cA1, .int)] [.ref h0, .int x1] sz [(h0, .inr (12, o_M I0 J0 h1 a0_4 a0_5 a0_6 a0_7 a0_8 a0_9 a0_10 a0_11 a0_22 a0_26 a0_29 a0_31 a0_32 a0_34)), (h1, .inl (cA1, n1, .inl f1))]) (va_Qi Z (zB (dC, dI) zCl [(cA1, .int)] (va_A [(h0, .inr (12, o_M I0 J0 h1 a0_4 a0_5 a0_6 a0_7 a0_8 a0_9 a0_10 a0_11 a0_22 a0_26 a0_29 a0_31 a0_32 a0_34)), (h1, .inl (cA1, n1, .inl f1))] sz) (fun u : Unit => [(h0, .inr (12, o_M I0 J0 h1 a0_4 a0_5 a0_6 a0_7 a0_8 a0_9 a0_10 a0_11 a0_22 a0_26 a0_29 a0_31 a0_32 a0_34)), (h1, .inl (cA1, n1, .inl f1))])) (va_A [(h0, .inr (12, o_M I0 J0 h1 a0_4 a0_5 a0_6 a0_7 a0_8 a0_9 a0_10 a0_11 a0_22 a0_26 a0_29 a0_31 a0_32 a0_34)), (h1, .inl (cA1, n1, .inl f1))] sz)) 0 0 (va_A [(h0, .inr (12, o_M I0 J0 h1 a0_4 a0_5 a0_6 a0_7 a0_8 a0_9 a0_10 a0_11 a0_22 a0_26 a0_29 a0_31 a0_32 a0_34)), (h1, .inl (cA1, n1, .inl f1))] sz) := by
  refine Met.ofW (cc := prog_14_method_10_code) (maxL := 3) (ret := (some .int)) (by decide +kernel) rfl ?_
  intro p e s m args below meth c s₁ B hml hp
  obtain ⟨rfl, hsz, hP, hK, hD0, hE⟩ := hp
  have hts := atoms_spec (ws := (Cond.code (⟨"NumberDressModel", "quotesEnd", "(I)I"⟩ : MethodName) prog_14_method_10_code 3 (some .int) :: zT)) B.pre
  have hown : s.vm.findClass "NumberDressModel" = some m.cls := findClass_of_methodNamed B.named
  have hc : zC p s m _ meth c prog_14_method_10_code (some .int) 3 "NumberDressModel" := ⟨B.exec, B.bytes, B.returns, hml, hown, fun w h => hts w (List.mem_cons_of_mem _ h), B.notSynchronized⟩
  subst hsz
  have hD := hD0.self (sz := s.heap.size)
  generalize hAe : va_A [(h0, .inr (12, o_M I0 J0 h1 a0_4 a0_5 a0_6 a0_7 a0_8 a0_9 a0_10 a0_11 a0_22 a0_26 a0_29 a0_31 a0_32 a0_34)), (h1, .inl (cA1, n1, .inl f1))] s.heap.size = A at hD hE ⊢
  have hA : ∀ q : Nat, s.heap.size ≤ q → A q := fun q h => by rw [← hAe]; exact Or.inr h
  have hl := lv_entry ([.ref h0, .int x1]) (n := 3) (Nat.le_of_ble_eq_true rfl)
  rw [lg_entry_eq]
  exact b_M_quotesEnd_0 hc hA hE hl hK hP hD va_S.rf hv
theorem d_M_isPair_0 : decode prog_14_method_11_code 0 = .ok (.aload_n 0, 1) := by decide +kernel
theorem d_M_isPair_1 : decode prog_14_method_11_code 1 = .ok (.iload_n 1, 1) := by decide +kernel
theorem d_M_isPair_2 : decode prog_14_method_11_code 2 = .ok (.invokevirtual 62, 3) := by decide +kernel
theorem d_M_isPair_5 : decode prog_14_method_11_code 5 = .ok (.bipush 92, 2) := by decide +kernel
theorem d_M_isPair_7 : decode prog_14_method_11_code 7 = .ok (.if_icmp .eq 23, 3) := by decide +kernel
theorem d_M_isPair_10 : decode prog_14_method_11_code 10 = .ok (.aload_n 0, 1) := by decide +kernel
theorem d_M_isPair_11 : decode prog_14_method_11_code 11 = .ok (.iload_n 1, 1) := by decide +kernel
theorem d_M_isPair_12 : decode prog_14_method_11_code 12 = .ok (.invokevirtual 62, 3) := by decide +kernel
theorem d_M_isPair_15 : decode prog_14_method_11_code 15 = .ok (.bipush 95, 2) := by decide +kernel
theorem d_M_isPair_17 : decode prog_14_method_11_code 17 = .ok (.if_icmp .eq 13, 3) := by decide +kernel
theorem d_M_isPair_20 : decode prog_14_method_11_code 20 = .ok (.aload_n 0, 1) := by decide +kernel
theorem d_M_isPair_21 : decode prog_14_method_11_code 21 = .ok (.iload_n 1, 1) := by decide +kernel
theorem d_M_isPair_22 : decode prog_14_method_11_code 22 = .ok (.invokevirtual 62, 3) := by decide +kernel
theorem d_M_isPair_25 : decode prog_14_method_11_code 25 = .ok (.bipush 42, 2) := by decide +kernel
theorem d_M_isPair_27 : decode prog_14_method_11_code 27 = .ok (.if_icmp .ne 17, 3) := by decide +kernel
theorem d_M_isPair_30 : decode prog_14_method_11_code 30 = .ok (.iload_n 1, 1) := by decide +kernel
theorem d_M_isPair_31 : decode prog_14_method_11_code 31 = .ok (.iconst 1, 1) := by decide +kernel
theorem d_M_isPair_32 : decode prog_14_method_11_code 32 = .ok (.iadd, 1) := by decide +kernel
theorem d_M_isPair_33 : decode prog_14_method_11_code 33 = .ok (.aload_n 0, 1) := by decide +kernel
theorem d_M_isPair_34 : decode prog_14_method_11_code 34 = .ok (.getfield 59, 3) := by decide +kernel
theorem d_M_isPair_37 : decode prog_14_method_11_code 37 = .ok (.if_icmp .ge 7, 3) := by decide +kernel
theorem d_M_isPair_40 : decode prog_14_method_11_code 40 = .ok (.iconst 1, 1) := by decide +kernel
theorem d_M_isPair_41 : decode prog_14_method_11_code 41 = .ok (.goto 4, 3) := by decide +kernel
theorem d_M_isPair_44 : decode prog_14_method_11_code 44 = .ok (.iconst 0, 1) := by decide +kernel
theorem d_M_isPair_45 : decode prog_14_method_11_code 45 = .ok (.ireturn, 1) := by decide +kernel
set_option maxHeartbeats 4000000 in
set_option maxRecDepth 100000 in
theorem b_M_isPair_30 {h0 : Nat} {a0_4 : Nat} {a0_5 : Nat} {a0_6 : Nat} {a0_7 : Nat} {a0_8 : Nat} {a0_9 : Nat} {a0_10 : Nat} {a0_11 : Nat} {a0_22 : Nat} {a0_26 : Nat} {a0_29 : Nat} {a0_31 : Nat} {a0_32 : Nat} {a0_34 : Nat} {h1 : Nat} {cA1 : ClassId} {I0 : Nat → Int32} {J0 : Nat → Int64} {n1 : Nat} {f1 : Nat → Int32} {x1 : Int32}  {Z : Int32 → Unit → Prop} {H : Heap} {locs : List Loc} {ls : Array Slot} (hc : zC p s m args meth c prog_14_method_11_code (some .boolean) 2 "NumberDressModel") (hA : ∀ q : Nat, s.heap.size ≤ q → A q) (hE : zE gE A s) (hl : lv_has ls 2 [(0, .ref h0), (1, .int x1)]) (hK : va_K (dC, dI) zCl [(cA1, .int)] s) (hP : va_P (dC, dI) zCl [(h0, .inr (12, o_M I0 J0 h1 a0_4 a0_5 a0_6 a0_7 a0_8 a0_9 a0_10 a0_11 a0_22 a0_26 a0_29 a0_31 a0_32 a0_34)), (h1, .inl (cA1, n1, .inl f1))] H) (hD : va_D A [(h0, .inr (12, o_M I0 J0 h1 a0_4 a0_5 a0_6 a0_7 a0_8 a0_9 a0_10 a0_11 a0_22 a0_26 a0_29 a0_31 a0_32 a0_34)), (h1, .inl (cA1, n1, .inl f1))]) (hS : va_S A s.heap H locs) (hv : v_M_isPair_30 I0 J0 n1 f1 x1  Z) : W p l e (headSpec (Cond.code (⟨"NumberDressModel", "isPair", "(I)Z"⟩ : MethodName) prog_14_method_11_code 2 (some .boolean) :: zT) { frames := 1, cells := 0, slots := 0, locals := 21 }).room s m args below meth c H locs 0 0 (MQ below (va_Qi Z (zB (dC, dI) zCl [(cA1, .int)] A (fun u : Unit => [(h0, .inr (12, o_M I0 J0 h1 a0_4 a0_5 a0_6 a0_7 a0_8 a0_9 a0_10 a0_11 a0_22 a0_26 a0_29 a0_31 a0_32 a0_34)), (h1, .inl (cA1, n1, .inl f1))])) A) args s 0 0 A) (F0 m 30 ls []) := by
  obtain ⟨hx, hb, hr, hml, hown, ht, hlocks⟩ := id hc
  unfold v_M_isPair_30 at hv
  refine lv_iload_n hx hb d_M_isPair_30 rfl (lv_at hl 1 rfl) ?_
  refine lv_iconst (v := (1 : Int32)) hx hb d_M_isPair_31 (by decide) ?_
  refine lv_iadd hx hb d_M_isPair_32 ?_
  refine lv_aload_n hx hb d_M_isPair_33 rfl (lv_at hl 0 rfl) ?_
  refine va_get (D := (dC, dI)) (ci := 12) (v := .int (I0 3)) (C := "NumberDressModel") (T := T_M) (N := 41) hx hb ht zin_M hown hK hP 0 rfl rfl 3 (by decide) (ht _ zw_1264) (fun _ h9 => h9) rfl d_M_isPair_34 ?_
  refine lv_icmp_ge (tgt := 44) hx hb d_M_isPair_37 (by decide) (fun c_1 => ?_) (fun c_1 => ?_)
  · have hv := hv.1 c_1
    refine lv_iconst (v := (0 : Int32)) hx hb d_M_isPair_44 (by decide) ?_
    exact W.zret (v := (0 : Int32)) hx hb hr (by decide) (fun t ht hW => ⟨⟨_, (), rfl, hv, ⟨by rw [ht]; exact hP, va_K.moved hW.alike hK, hD⟩⟩, hS.F ht⟩) hS.2.2 d_M_isPair_45
  · have hv := hv.2 c_1
    refine lv_iconst (v := (1 : Int32)) hx hb d_M_isPair_40 (by decide) ?_
    refine lv_goto (tgt := 45) hx hb d_M_isPair_41 (by decide) ?_
    exact W.zret (v := (1 : Int32)) hx hb hr (by decide) (fun t ht hW => ⟨⟨_, (), rfl, hv, ⟨by rw [ht]; exact hP, va_K.moved hW.alike hK, hD⟩⟩, hS.F ht⟩) hS.2.2 d_M_isPair_45
set_option maxHeartbeats 4000000 in
set_option maxRecDepth 100000 in
theorem b_M_isPair_25 {h0 : Nat} {a0_4 : Nat} {a0_5 : Nat} {a0_6 : Nat} {a0_7 : Nat} {a0_8 : Nat} {a0_9 : Nat} {a0_10 : Nat} {a0_11 : Nat} {a0_22 : Nat} {a0_26 : Nat} {a0_29 : Nat} {a0_31 : Nat} {a0_32 : Nat} {a0_34 : Nat} {h1 : Nat} {cA1 : ClassId} {I0 : Nat → Int32} {J0 : Nat → Int64} {n1 : Nat} {f1 : Nat → Int32} {x1 : Int32} {s0 : Int32}  {Z : Int32 → Unit → Prop} {H : Heap} {locs : List Loc} {ls : Array Slot} (hc : zC p s m args meth c prog_14_method_11_code (some .boolean) 2 "NumberDressModel") (hA : ∀ q : Nat, s.heap.size ≤ q → A q) (hE : zE gE A s) (hl : lv_has ls 2 [(0, .ref h0), (1, .int x1)]) (hK : va_K (dC, dI) zCl [(cA1, .int)] s) (hP : va_P (dC, dI) zCl [(h0, .inr (12, o_M I0 J0 h1 a0_4 a0_5 a0_6 a0_7 a0_8 a0_9 a0_10 a0_11 a0_22 a0_26 a0_29 a0_31 a0_32 a0_34)), (h1, .inl (cA1, n1, .inl f1))] H) (hD : va_D A [(h0, .inr (12, o_M I0 J0 h1 a0_4 a0_5 a0_6 a0_7 a0_8 a0_9 a0_10 a0_11 a0_22 a0_26 a0_29 a0_31 a0_32 a0_34)), (h1, .inl (cA1, n1, .inl f1))]) (hS : va_S A s.heap H locs) (hv : v_M_isPair_25 I0 J0 n1 f1 x1 s0  Z) : W p l e (headSpec (Cond.code (⟨"NumberDressModel", "isPair", "(I)Z"⟩ : MethodName) prog_14_method_11_code 2 (some .boolean) :: zT) { frames := 1, cells := 0, slots := 0, locals := 21 }).room s m args below meth c H locs 0 0 (MQ below (va_Qi Z (zB (dC, dI) zCl [(cA1, .int)] A (fun u : Unit => [(h0, .inr (12, o_M I0 J0 h1 a0_4 a0_5 a0_6 a0_7 a0_8 a0_9 a0_10 a0_11 a0_22 a0_26 a0_29 a0_31 a0_32 a0_34)), (h1, .inl (cA1, n1, .inl f1))])) A) args s 0 0 A) (F0 m 25 ls [.int s0]) := by
  obtain ⟨hx, hb, hr, hml, hown, ht, hlocks⟩ := id hc
  unfold v_M_isPair_25 at hv
  refine lv_bipush (v := (42 : Int32)) hx hb d_M_isPair_25 (by decide) ?_
  refine lv_icmp_ne (tgt := 44) hx hb d_M_isPair_27 (by decide) (fun c_1 => ?_) (fun c_1 => ?_)
  · have hv := hv.1 c_1
    refine lv_iconst (v := (0 : Int32)) hx hb d_M_isPair_44 (by decide) ?_
    exact W.zret (v := (0 : Int32)) hx hb hr (by decide) (fun t ht hW => ⟨⟨_, (), rfl, hv, ⟨by rw [ht]; exact hP, va_K.moved hW.alike hK, hD⟩⟩, hS.F ht⟩) hS.2.2 d_M_isPair_45
  · have hv := hv.2 c_1
    exact b_M_isPair_30 hc hA hE  (lv_sub hl [0, 1] rfl) hK hP hD hS hv
set_option maxHeartbeats 4000000 in
set_option maxRecDepth 100000 in
theorem b_M_isPair_15 {h0 : Nat} {a0_4 : Nat} {a0_5 : Nat} {a0_6 : Nat} {a0_7 : Nat} {a0_8 : Nat} {a0_9 : Nat} {a0_10 : Nat} {a0_11 : Nat} {a0_22 : Nat} {a0_26 : Nat} {a0_29 : Nat} {a0_31 : Nat} {a0_32 : Nat} {a0_34 : Nat} {h1 : Nat} {cA1 : ClassId} {I0 : Nat → Int32} {J0 : Nat → Int64} {n1 : Nat} {f1 : Nat → Int32} {x1 : Int32} {s0 : Int32}  {Z : Int32 → Unit → Prop} {H : Heap} {locs : List Loc} {ls : Array Slot} (hc : zC p s m args meth c prog_14_method_11_code (some .boolean) 2 "NumberDressModel") (hA : ∀ q : Nat, s.heap.size ≤ q → A q) (hE : zE gE A s) (hl : lv_has ls 2 [(0, .ref h0), (1, .int x1)]) (hK : va_K (dC, dI) zCl [(cA1, .int)] s) (hP : va_P (dC, dI) zCl [(h0, .inr (12, o_M I0 J0 h1 a0_4 a0_5 a0_6 a0_7 a0_8 a0_9 a0_10 a0_11 a0_22 a0_26 a0_29 a0_31 a0_32 a0_34)), (h1, .inl (cA1, n1, .inl f1))] H) (hD : va_D A [(h0, .inr (12, o_M I0 J0 h1 a0_4 a0_5 a0_6 a0_7 a0_8 a0_9 a0_10 a0_11 a0_22 a0_26 a0_29 a0_31 a0_32 a0_34)), (h1, .inl (cA1, n1, .inl f1))]) (hS : va_S A s.heap H locs) (hv : v_M_isPair_15 I0 J0 n1 f1 x1 s0  Z) : W p l e (headSpec (Cond.code (⟨"NumberDressModel", "isPair", "(I)Z"⟩ : MethodName) prog_14_method_11_code 2 (some .boolean) :: zT) { frames := 1, cells := 0, slots := 0, locals := 21 }).room s m args below meth c H locs 0 0 (MQ below (va_Qi Z (zB (dC, dI) zCl [(cA1, .int)] A (fun u : Unit => [(h0, .inr (12, o_M I0 J0 h1 a0_4 a0_5 a0_6 a0_7 a0_8 a0_9 a0_10 a0_11 a0_22 a0_26 a0_29 a0_31 a0_32 a0_34)), (h1, .inl (cA1, n1, .inl f1))])) A) args s 0 0 A) (F0 m 15 ls [.int s0]) := by
  obtain ⟨hx, hb, hr, hml, hown, ht, hlocks⟩ := id hc
  unfold v_M_isPair_15 at hv
  refine lv_bipush (v := (95 : Int32)) hx hb d_M_isPair_15 (by decide) ?_
  refine lv_icmp_eq (tgt := 30) hx hb d_M_isPair_17 (by decide) (fun c_1 => ?_) (fun c_1 => ?_)
  · have hv := hv.1 c_1
    exact b_M_isPair_30 hc hA hE  (lv_sub hl [0, 1] rfl) hK hP hD hS hv
  · have hv := hv.2 c_1
    refine lv_aload_n hx hb d_M_isPair_20 rfl (lv_at hl 0 rfl) ?_
    refine lv_iload_n hx hb d_M_isPair_21 rfl (lv_at hl 1 rfl) ?_
    refine z_calli (wc := [(h0, .inr (12, o_M I0 J0 h1 a0_4 a0_5 a0_6 a0_7 a0_8 a0_9 a0_10 a0_11 a0_22 a0_26 a0_29 a0_31 a0_32 a0_34)), (h1, .inl (cA1, n1, .inl f1))]) (wr := []) [0, 1] [] (va_runV (As := [.int x1]) (rest := []) ⟨hx, hb, hml, hown, ht⟩ (m_M_ch l dC dI hv) ⟨(callB_of 1 ht (zG_in zi_M_ch) rfl rfl rfl (ht _ zw_122) (ht _ zw_1425) zh_M_ch ⟨Nat.le_of_ble_eq_true rfl, Nat.le_of_ble_eq_true rfl⟩), (ht _ zw_1427), (ht _ zw_63)⟩ ⟨zPc_blind, va_recv hK hP (ci := 12) (q0 := 0) rfl rfl, zPc_pre hP hK hD hS hA hE [0, 1] [0] rfl rfl (by decide) rfl⟩ rfl rfl hl.1 rfl (lv_room (Nat.le_of_ble_eq_true rfl)) d_M_isPair_22 ⟨Nat.le_of_ble_eq_true rfl, Nat.le_of_ble_eq_true rfl⟩) hP hD hS hA rfl rfl (by decide) (by decide) (fun r u H locs hv hP hD hS => ?_)
    have hP : va_P (dC, dI) zCl [(h0, .inr (12, o_M I0 J0 h1 a0_4 a0_5 a0_6 a0_7 a0_8 a0_9 a0_10 a0_11 a0_22 a0_26 a0_29 a0_31 a0_32 a0_34)), (h1, .inl (cA1, n1, .inl f1))] H := hP.sub [0, 1] rfl
    have hD : va_D A [(h0, .inr (12, o_M I0 J0 h1 a0_4 a0_5 a0_6 a0_7 a0_8 a0_9 a0_10 a0_11 a0_22 a0_26 a0_29 a0_31 a0_32 a0_34)), (h1, .inl (cA1, n1, .inl f1))] := hD.sub [0, 1] (by decide) rfl
    exact b_M_isPair_25 hc hA hE  (lv_sub hl [0, 1] rfl) hK hP hD hS hv
set_option maxHeartbeats 4000000 in
set_option maxRecDepth 100000 in
theorem b_M_isPair_5 {h0 : Nat} {a0_4 : Nat} {a0_5 : Nat} {a0_6 : Nat} {a0_7 : Nat} {a0_8 : Nat} {a0_9 : Nat} {a0_10 : Nat} {a0_11 : Nat} {a0_22 : Nat} {a0_26 : Nat} {a0_29 : Nat} {a0_31 : Nat} {a0_32 : Nat} {a0_34 : Nat} {h1 : Nat} {cA1 : ClassId} {I0 : Nat → Int32} {J0 : Nat → Int64} {n1 : Nat} {f1 : Nat → Int32} {x1 : Int32} {s0 : Int32}  {Z : Int32 → Unit → Prop} {H : Heap} {locs : List Loc} {ls : Array Slot} (hc : zC p s m args meth c prog_14_method_11_code (some .boolean) 2 "NumberDressModel") (hA : ∀ q : Nat, s.heap.size ≤ q → A q) (hE : zE gE A s) (hl : lv_has ls 2 [(0, .ref h0), (1, .int x1)]) (hK : va_K (dC, dI) zCl [(cA1, .int)] s) (hP : va_P (dC, dI) zCl [(h0, .inr (12, o_M I0 J0 h1 a0_4 a0_5 a0_6 a0_7 a0_8 a0_9 a0_10 a0_11 a0_22 a0_26 a0_29 a0_31 a0_32 a0_34)), (h1, .inl (cA1, n1, .inl f1))] H) (hD : va_D A [(h0, .inr (12, o_M I0 J0 h1 a0_4 a0_5 a0_6 a0_7 a0_8 a0_9 a0_10 a0_11 a0_22 a0_26 a0_29 a0_31 a0_32 a0_34)), (h1, .inl (cA1, n1, .inl f1))]) (hS : va_S A s.heap H locs) (hv : v_M_isPair_5 I0 J0 n1 f1 x1 s0  Z) : W p l e (headSpec (Cond.code (⟨"NumberDressModel", "isPair", "(I)Z"⟩ : MethodName) prog_14_method_11_code 2 (some .boolean) :: zT) { frames := 1, cells := 0, slots := 0, locals := 21 }).room s m args below meth c H locs 0 0 (MQ below (va_Qi Z (zB (dC, dI) zCl [(cA1, .int)] A (fun u : Unit => [(h0, .inr (12, o_M I0 J0 h1 a0_4 a0_5 a0_6 a0_7 a0_8 a0_9 a0_10 a0_11 a0_22 a0_26 a0_29 a0_31 a0_32 a0_34)), (h1, .inl (cA1, n1, .inl f1))])) A) args s 0 0 A) (F0 m 5 ls [.int s0]) := by
  obtain ⟨hx, hb, hr, hml, hown, ht, hlocks⟩ := id hc
  unfold v_M_isPair_5 at hv
  refine lv_bipush (v := (92 : Int32)) hx hb d_M_isPair_5 (by decide) ?_
  refine lv_icmp_eq (tgt := 30) hx hb d_M_isPair_7 (by decide) (fun c_1 => ?_) (fun c_1 => ?_)
  · have hv := hv.1 c_1
    exact b_M_isPair_30 hc hA hE  (lv_sub hl [0, 1] rfl) hK hP hD hS hv
  · have hv := hv.2 c_1
    refine lv_aload_n hx hb d_M_isPair_10 rfl (lv_at hl 0 rfl) ?_
    refine lv_iload_n hx hb d_M_isPair_11 rfl (lv_at hl 1 rfl) ?_
    refine z_calli (wc := [(h0, .inr (12, o_M I0 J0 h1 a0_4 a0_5 a0_6 a0_7 a0_8 a0_9 a0_10 a0_11 a0_22 a0_26 a0_29 a0_31 a0_32 a0_34)), (h1, .inl (cA1, n1, .inl f1))]) (wr := []) [0, 1] [] (va_runV (As := [.int x1]) (rest := []) ⟨hx, hb, hml, hown, ht⟩ (m_M_ch l dC dI hv) ⟨(callB_of 1 ht (zG_in zi_M_ch) rfl rfl rfl (ht _ zw_122) (ht _ zw_1425) zh_M_ch ⟨Nat.le_of_ble_eq_true rfl, Nat.le_of_ble_eq_true rfl⟩), (ht _ zw_1427), (ht _ zw_63)⟩ ⟨zPc_blind, va_recv hK hP (ci := 12) (q0 := 0) rfl rfl, zPc_pre hP hK hD hS hA hE [0, 1] [0] rfl rfl (by decide) rfl⟩ rfl rfl hl.1 rfl (lv_room (Nat.le_of_ble_eq_true rfl)) d_M_isPair_12 ⟨Nat.le_of_ble_eq_true rfl, Nat.le_of_ble_eq_true rfl⟩) hP hD hS hA rfl rfl (by decide) (by decide) (fun r u H locs hv hP hD hS => ?_)
    have hP : va_P (dC, dI) zCl [(h0, .inr (12, o_M I0 J0 h1 a0_4 a0_5 a0_6 a0_7 a0_8 a0_9 a0_10 a0_11 a0_22 a0_26 a0_29 a0_31 a0_32 a0_34)), (h1, .inl (cA1, n1, .inl f1))] H := hP.sub [0, 1] rfl
    have hD : va_D A [(h0, .inr (12, o_M I0 J0 h1 a0_4 a0_5 a0_6 a0_7 a0_8 a0_9 a0_10 a0_11 a0_22 a0_26 a0_29 a0_31 a0_32 a0_34)), (h1, .inl (cA1, n1, .inl f1))] := hD.sub [0, 1] (by decide) rfl
    exact b_M_isPair_15 hc hA hE  (lv_sub hl [0, 1] rfl) hK hP hD hS hv
set_option maxHeartbeats 4000000 in
set_option maxRecDepth 100000 in
theorem b_M_isPair_0 {h0 : Nat} {a0_4 : Nat} {a0_5 : Nat} {a0_6 : Nat} {a0_7 : Nat} {a0_8 : Nat} {a0_9 : Nat} {a0_10 : Nat} {a0_11 : Nat} {a0_22 : Nat} {a0_26 : Nat} {a0_29 : Nat} {a0_31 : Nat} {a0_32 : Nat} {a0_34 : Nat} {h1 : Nat} {cA1 : ClassId} {I0 : Nat → Int32} {J0 : Nat → Int64} {n1 : Nat} {f1 : Nat → Int32} {x1 : Int32}  {Z : Int32 → Unit → Prop} {H : Heap} {locs : List Loc} {ls : Array Slot} (hc : zC p s m args meth c prog_14_method_11_code (some .boolean) 2 "NumberDressModel") (hA : ∀ q : Nat, s.heap.size ≤ q → A q) (hE : zE gE A s) (hl : lv_has ls 2 [(0, .ref h0), (1, .int x1)]) (hK : va_K (dC, dI) zCl [(cA1, .int)] s) (hP : va_P (dC, dI) zCl [(h0, .inr (12, o_M I0 J0 h1 a0_4 a0_5 a0_6 a0_7 a0_8 a0_9 a0_10 a0_11 a0_22 a0_26 a0_29 a0_31 a0_32 a0_34)), (h1, .inl (cA1, n1, .inl f1))] H) (hD : va_D A [(h0, .inr (12, o_M I0 J0 h1 a0_4 a0_5 a0_6 a0_7 a0_8 a0_9 a0_10 a0_11 a0_22 a0_26 a0_29 a0_31 a0_32 a0_34)), (h1, .inl (cA1, n1, .inl f1))]) (hS : va_S A s.heap H locs) (hv : v_M_isPair_0 I0 J0 n1 f1 x1  Z) : W p l e (headSpec (Cond.code (⟨"NumberDressModel", "isPair", "(I)Z"⟩ : MethodName) prog_14_method_11_code 2 (some .boolean) :: zT) { frames := 1, cells := 0, slots := 0, locals := 21 }).room s m args below meth c H locs 0 0 (MQ below (va_Qi Z (zB (dC, dI) zCl [(cA1, .int)] A (fun u : Unit => [(h0, .inr (12, o_M I0 J0 h1 a0_4 a0_5 a0_6 a0_7 a0_8 a0_9 a0_10 a0_11 a0_22 a0_26 a0_29 a0_31 a0_32 a0_34)), (h1, .inl (cA1, n1, .inl f1))])) A) args s 0 0 A) (F0 m 0 ls []) := by
  obtain ⟨hx, hb, hr, hml, hown, ht, hlocks⟩ := id hc
  unfold v_M_isPair_0 at hv
  refine lv_aload_n hx hb d_M_isPair_0 rfl (lv_at hl 0 rfl) ?_
  refine lv_iload_n hx hb d_M_isPair_1 rfl (lv_at hl 1 rfl) ?_
  refine z_calli (wc := [(h0, .inr (12, o_M I0 J0 h1 a0_4 a0_5 a0_6 a0_7 a0_8 a0_9 a0_10 a0_11 a0_22 a0_26 a0_29 a0_31 a0_32 a0_34)), (h1, .inl (cA1, n1, .inl f1))]) (wr := []) [0, 1] [] (va_runV (As := [.int x1]) (rest := []) ⟨hx, hb, hml, hown, ht⟩ (m_M_ch l dC dI hv) ⟨(callB_of 1 ht (zG_in zi_M_ch) rfl rfl rfl (ht _ zw_122) (ht _ zw_1425) zh_M_ch ⟨Nat.le_of_ble_eq_true rfl, Nat.le_of_ble_eq_true rfl⟩), (ht _ zw_1427), (ht _ zw_63)⟩ ⟨zPc_blind, va_recv hK hP (ci := 12) (q0 := 0) rfl rfl, zPc_pre hP hK hD hS hA hE [0, 1] [0] rfl rfl (by decide) rfl⟩ rfl rfl hl.1 rfl (lv_room (Nat.le_of_ble_eq_true rfl)) d_M_isPair_2 ⟨Nat.le_of_ble_eq_true rfl, Nat.le_of_ble_eq_true rfl⟩) hP hD hS hA rfl rfl (by decide) (by decide) (fun r u H locs hv hP hD hS => ?_)
  have hP : va_P (dC, dI) zCl [(h0, .inr (12, o_M I0 J0 h1 a0_4 a0_5 a0_6 a0_7 a0_8 a0_9 a0_10 a0_11 a0_22 a0_26 a0_29 a0_31 a0_32 a0_34)), (h1, .inl (cA1, n1, .inl f1))] H := hP.sub [0, 1] rfl
  have hD : va_D A [(h0, .inr (12, o_M I0 J0 h1 a0_4 a0_5 a0_6 a0_7 a0_8 a0_9 a0_10 a0_11 a0_22 a0_26 a0_29 a0_31 a0_32 a0_34)), (h1, .inl (cA1, n1, .inl f1))] := hD.sub [0, 1] (by decide) rfl
  exact b_M_isPair_5 hc hA hE  (lv_sub hl [0, 1] rfl) hK hP hD hS hv
theorem zi_M_isPair : Cond.code (⟨"NumberDressModel", "isPair", "(I)Z"⟩ : MethodName) prog_14_method_11_code 2 (some .boolean) ∈ zT := zw_1424
theorem zh_M_isPair : (((⟨"NumberDressModel", "isPair", "(I)Z"⟩ : MethodName)).cls ≠ "java/lang/invoke/MethodHandle" ∧ ((⟨"NumberDressModel", "isPair", "(I)Z"⟩ : MethodName)).cls ≠ "java/lang/invoke/VarHandle" ∧ (parseMethodDescriptor ((⟨"NumberDressModel", "isPair", "(I)Z"⟩ : MethodName)).desc).map (fun d => d.parameters.length) = some 1) := by decide +kernel
set_option maxHeartbeats 4000000 in
set_option maxRecDepth 100000 in
theorem m_M_isPair (l : Launch) (dC : Nat → ClassId) (dI : Nat → Nat → Nat) {gE : zG} {h0 : Nat} {a0_4 : Nat} {a0_5 : Nat} {a0_6 : Nat} {a0_7 : Nat} {a0_8 : Nat} {a0_9 : Nat} {a0_10 : Nat} {a0_11 : Nat} {a0_22 : Nat} {a0_26 : Nat} {a0_29 : Nat} {a0_31 : Nat} {a0_32 : Nat} {a0_34 : Nat} {h1 : Nat} {cA1 : ClassId} {I0 : Nat → Int32} {J0 : Nat → Int64} {n1 : Nat} {f1 : Nat → Int32} {x1 : Int32} {sz : Nat} {Z : Int32 → Unit → Prop} (hv : v_M_isPair_0 I0 J0 n1 f1 x1 Z) : Met l (⟨"NumberDressModel", "isPair", "(I)Z"⟩ : MethodName) (Cond.code (⟨"NumberDressModel", "isPair", "(I)Z"⟩ : MethodName) prog_14_method_11_code 2 (some .boolean) :: zT) { frames := 1, cells := 0, slots := 0, locals := 21 } (zPc gE (dC, dI) zCl [(cA1, .int)] [.ref h0, .int x1] sz [(h0, .inr (12, o_M I0 J0 h1 a0_4 a0_5 a0_6 a0_7 a0_8 a0_9 a0_10 a0_11 a0_22 a0_26 a0_29 a0_31 a0_32 a0_34)), (h1, .inl (cA1, n1, .inl f1))]) (va_Qi Z (zB (dC, dI) zCl [(cA1, .int)] (va_A [(h0, .inr (12, o_M I0 J0 h1 a0_4 a0_5 a0_6 a0_7 a0_8 a0_9 a0_10 a0_11 a0_22 a0_26 a0_29 a0_31 a0_32 a0_34)), (h1, .inl (cA1, n1, .inl f1))] sz) (fun u : Unit => [(h0, .inr (12, o_M I0 J0 h1 a0_4 a0_5 a0_6 a0_7 a0_8 a0_9 a0_10 a0_11 a0_22 a0_26 a0_29 a0_31 a0_32 a0_34)), (h1, .inl (cA1, n1, .inl f1))])) (va_A [(h0, .inr (12, o_M I0 J0 h1 a0_4 a0_5 a0_6 a0_7 a0_8 a0_9 a0_10 a0_11 a0_22 a0_26 a0_29 a0_31 a0_32 a0_34)), (h1, .inl (cA1, n1, .inl f1))] sz)) 0 0 (va_A [(h0, .inr (12, o_M I0 J0 h1 a0_4 a0_5 a0_6 a0_7 a0_8 a0_9 a0_10 a0_11 a0_22 a0_26 a0_29 a0_31 a0_32 a0_34)), (h1, .inl (cA1, n1, .inl f1))] sz) := by
  refine Met.ofW (cc := prog_14_method_11_code) (maxL := 2) (ret := (some .boolean)) (by decide +kernel) rfl ?_
  intro p e s m args below meth c s₁ B hml hp
  obtain ⟨rfl, hsz, hP, hK, hD0, hE⟩ := hp
  have hts := atoms_spec (ws := (Cond.code (⟨"NumberDressModel", "isPair", "(I)Z"⟩ : MethodName) prog_14_method_11_code 2 (some .boolean) :: zT)) B.pre
  have hown : s.vm.findClass "NumberDressModel" = some m.cls := findClass_of_methodNamed B.named
  have hc : zC p s m _ meth c prog_14_method_11_code (some .boolean) 2 "NumberDressModel" := ⟨B.exec, B.bytes, B.returns, hml, hown, fun w h => hts w (List.mem_cons_of_mem _ h), B.notSynchronized⟩
  subst hsz
  have hD := hD0.self (sz := s.heap.size)
  generalize hAe : va_A [(h0, .inr (12, o_M I0 J0 h1 a0_4 a0_5 a0_6 a0_7 a0_8 a0_9 a0_10 a0_11 a0_22 a0_26 a0_29 a0_31 a0_32 a0_34)), (h1, .inl (cA1, n1, .inl f1))] s.heap.size = A at hD hE ⊢
  have hA : ∀ q : Nat, s.heap.size ≤ q → A q := fun q h => by rw [← hAe]; exact Or.inr h
  have hl := lv_entry ([.ref h0, .int x1]) (n := 2) (Nat.le_of_ble_eq_true rfl)
  rw [lg_entry_eq]
  exact b_M_isPair_0 hc hA hE hl hK hP hD va_S.rf hv
theorem d_M_stands_0 : decode prog_14_method_12_code 0 = .ok (.iconst 0, 1) := by decide +kernel
theorem d_M_stands_1 : decode prog_14_method_12_code 1 = .ok (.istore 4, 2) := by decide +kernel
theorem d_M_stands_3 : decode prog_14_method_12_code 3 = .ok (.iload 4, 2) := by decide +kernel
theorem d_M_stands_5 : decode prog_14_method_12_code 5 = .ok (.bipush 8, 2) := by decide +kernel
theorem d_M_stands_7 : decode prog_14_method_12_code 7 = .ok (.if_icmp .ge 21, 3) := by decide +kernel
theorem d_M_stands_10 : decode prog_14_method_12_code 10 = .ok (.lload_n 2, 1) := by decide +kernel
theorem d_M_stands_11 : decode prog_14_method_12_code 11 = .ok (.bipush 8, 2) := by decide +kernel
theorem d_M_stands_13 : decode prog_14_method_12_code 13 = .ok (.iload 4, 2) := by decide +kernel
theorem d_M_stands_15 : decode prog_14_method_12_code 15 = .ok (.imul, 1) := by decide +kernel
theorem d_M_stands_16 : decode prog_14_method_12_code 16 = .ok (.lshr, 1) := by decide +kernel
theorem d_M_stands_17 : decode prog_14_method_12_code 17 = .ok (.lconst 0, 1) := by decide +kernel
theorem d_M_stands_18 : decode prog_14_method_12_code 18 = .ok (.lcmp, 1) := by decide +kernel
theorem d_M_stands_19 : decode prog_14_method_12_code 19 = .ok (.ifCond .le 9, 3) := by decide +kernel
theorem d_M_stands_22 : decode prog_14_method_12_code 22 = .ok (.iinc 4 1, 3) := by decide +kernel
theorem d_M_stands_25 : decode prog_14_method_12_code 25 = .ok (.goto (-22), 3) := by decide +kernel
theorem d_M_stands_28 : decode prog_14_method_12_code 28 = .ok (.iconst 1, 1) := by decide +kernel
theorem d_M_stands_29 : decode prog_14_method_12_code 29 = .ok (.istore 5, 2) := by decide +kernel
theorem d_M_stands_31 : decode prog_14_method_12_code 31 = .ok (.iconst 0, 1) := by decide +kernel
theorem d_M_stands_32 : decode prog_14_method_12_code 32 = .ok (.istore 6, 2) := by decide +kernel
theorem d_M_stands_34 : decode prog_14_method_12_code 34 = .ok (.iload 6, 2) := by decide +kernel
theorem d_M_stands_36 : decode prog_14_method_12_code 36 = .ok (.iload 4, 2) := by decide +kernel
theorem d_M_stands_38 : decode prog_14_method_12_code 38 = .ok (.if_icmp .ge 49, 3) := by decide +kernel
theorem d_M_stands_41 : decode prog_14_method_12_code 41 = .ok (.iload 5, 2) := by decide +kernel
theorem d_M_stands_43 : decode prog_14_method_12_code 43 = .ok (.ifCond .eq 35, 3) := by decide +kernel
theorem d_M_stands_46 : decode prog_14_method_12_code 46 = .ok (.aload_n 0, 1) := by decide +kernel
theorem d_M_stands_47 : decode prog_14_method_12_code 47 = .ok (.iload_n 1, 1) := by decide +kernel
theorem d_M_stands_48 : decode prog_14_method_12_code 48 = .ok (.iload 6, 2) := by decide +kernel
theorem d_M_stands_50 : decode prog_14_method_12_code 50 = .ok (.iadd, 1) := by decide +kernel
theorem d_M_stands_51 : decode prog_14_method_12_code 51 = .ok (.invokevirtual 94, 3) := by decide +kernel
theorem d_M_stands_54 : decode prog_14_method_12_code 54 = .ok (.lload_n 2, 1) := by decide +kernel
theorem d_M_stands_55 : decode prog_14_method_12_code 55 = .ok (.bipush 8, 2) := by decide +kernel
theorem d_M_stands_57 : decode prog_14_method_12_code 57 = .ok (.iload 4, 2) := by decide +kernel
theorem d_M_stands_59 : decode prog_14_method_12_code 59 = .ok (.iconst 1, 1) := by decide +kernel
theorem d_M_stands_60 : decode prog_14_method_12_code 60 = .ok (.isub, 1) := by decide +kernel
theorem d_M_stands_61 : decode prog_14_method_12_code 61 = .ok (.iload 6, 2) := by decide +kernel
theorem d_M_stands_63 : decode prog_14_method_12_code 63 = .ok (.isub, 1) := by decide +kernel
theorem d_M_stands_64 : decode prog_14_method_12_code 64 = .ok (.imul, 1) := by decide +kernel
theorem d_M_stands_65 : decode prog_14_method_12_code 65 = .ok (.lshr, 1) := by decide +kernel
theorem d_M_stands_66 : decode prog_14_method_12_code 66 = .ok (.ldc2_w 97, 3) := by decide +kernel
theorem d_M_stands_69 : decode prog_14_method_12_code 69 = .ok (.land, 1) := by decide +kernel
theorem d_M_stands_70 : decode prog_14_method_12_code 70 = .ok (.l2i, 1) := by decide +kernel
theorem d_M_stands_71 : decode prog_14_method_12_code 71 = .ok (.if_icmp .ne 7, 3) := by decide +kernel
theorem d_M_stands_74 : decode prog_14_method_12_code 74 = .ok (.iconst 1, 1) := by decide +kernel
theorem d_M_stands_75 : decode prog_14_method_12_code 75 = .ok (.goto 4, 3) := by decide +kernel
theorem d_M_stands_78 : decode prog_14_method_12_code 78 = .ok (.iconst 0, 1) := by decide +kernel
theorem d_M_stands_79 : decode prog_14_method_12_code 79 = .ok (.istore 5, 2) := by decide +kernel
theorem d_M_stands_81 : decode prog_14_method_12_code 81 = .ok (.iinc 6 1, 3) := by decide +kernel
theorem d_M_stands_84 : decode prog_14_method_12_code 84 = .ok (.goto (-50), 3) := by decide +kernel
theorem d_M_stands_87 : decode prog_14_method_12_code 87 = .ok (.iload 5, 2) := by decide +kernel
theorem d_M_stands_89 : decode prog_14_method_12_code 89 = .ok (.ireturn, 1) := by decide +kernel
set_option maxHeartbeats 4000000 in
set_option maxRecDepth 100000 in
theorem b_M_stands_79 {h0 : Nat} {a0_4 : Nat} {a0_5 : Nat} {a0_6 : Nat} {a0_7 : Nat} {a0_8 : Nat} {a0_9 : Nat} {a0_10 : Nat} {a0_11 : Nat} {a0_22 : Nat} {a0_26 : Nat} {a0_29 : Nat} {a0_31 : Nat} {a0_32 : Nat} {a0_34 : Nat} {h1 : Nat} {cA1 : ClassId} {I0 : Nat → Int32} {J0 : Nat → Int64} {n1 : Nat} {f1 : Nat → Int32} {x1 : Int32} {x2 : Int64} {x4 : Int32} {x6 : Int32} {s0 : Int32} {k34 : Int32 → Int32 → Prop} {Z : Int32 → Unit → Prop} {H : Heap} {locs : List Loc} {ls : Array Slot} (hc : zC p s m args meth c prog_14_method_12_code (some .boolean) 7 "NumberDressModel") (hA : ∀ q : Nat, s.heap.size ≤ q → A q) (hE : zE gE A s) (hk34 : ∀ (x5 : Int32) (x6 : Int32) (H : Heap) (locs : List Loc) (ls : Array Slot), lv_has ls 7 [(0, .ref h0), (1, .int x1), (2, .long x2), (4, .int x4), (5, .int x5), (6, .int x6)] → va_K (dC, dI) zCl [(cA1, .int)] s → va_P (dC, dI) zCl [(h0, .inr (12, o_M I0 J0 h1 a0_4 a0_5 a0_6 a0_7 a0_8 a0_9 a0_10 a0_11 a0_22 a0_26 a0_29 a0_31 a0_32 a0_34)), (h1, .inl (cA1, n1, .inl f1))] H → va_D A [(h0, .inr (12, o_M I0 J0 h1 a0_4 a0_5 a0_6 a0_7 a0_8 a0_9 a0_10 a0_11 a0_22 a0_26 a0_29 a0_31 a0_32 a0_34)), (h1, .inl (cA1, n1, .inl f1))] → va_S A s.heap H locs → k34 x5 x6 → W p l e (headSpec (Cond.code (⟨"NumberDressModel", "stands", "(IJ)Z"⟩ : MethodName) prog_14_method_12_code 7 (some .boolean) :: zT) { frames := 2, cells := 0, slots := 0, locals := 42 }).room s m args below meth c H locs 0 0 (MQ below (va_Qi Z (zB (dC, dI) zCl [(cA1, .int)] A (fun u : Unit => [(h0, .inr (12, o_M I0 J0 h1 a0_4 a0_5 a0_6 a0_7 a0_8 a0_9 a0_10 a0_11 a0_22 a0_26 a0_29 a0_31 a0_32 a0_34)), (h1, .inl (cA1, n1, .inl f1))])) A) args s 0 0 A) (F0 m 34 ls [])) (hl : lv_has ls 7 [(0, .ref h0), (1, .int x1), (2, .long x2), (4, .int x4), (6, .int x6)]) (hK : va_K (dC, dI) zCl [(cA1, .int)] s) (hP : va_P (dC, dI) zCl [(h0, .inr (12, o_M I0 J0 h1 a0_4 a0_5 a0_6 a0_7 a0_8 a0_9 a0_10 a0_11 a0_22 a0_26 a0_29 a0_31 a0_32 a0_34)), (h1, .inl (cA1, n1, .inl f1))] H) (hD : va_D A [(h0, .inr (12, o_M I0 J0 h1 a0_4 a0_5 a0_6 a0_7 a0_8 a0_9 a0_10 a0_11 a0_22 a0_26 a0_29 a0_31 a0_32 a0_34)), (h1, .inl (cA1, n1, .inl f1))]) (hS : va_S A s.heap H locs) (hv : v_M_stands_79 I0 J0 n1 f1 x1 x2 x4 x6 s0 k34 Z) : W p l e (headSpec (Cond.code (⟨"NumberDressModel", "stands", "(IJ)Z"⟩ : MethodName) prog_14_method_12_code 7 (some .boolean) :: zT) { frames := 2, cells := 0, slots := 0, locals := 42 }).room s m args below meth c H locs 0 0 (MQ below (va_Qi Z (zB (dC, dI) zCl [(cA1, .int)] A (fun u : Unit => [(h0, .inr (12, o_M I0 J0 h1 a0_4 a0_5 a0_6 a0_7 a0_8 a0_9 a0_10 a0_11 a0_22 a0_26 a0_29 a0_31 a0_32 a0_34)), (h1, .inl (cA1, n1, .inl f1))])) A) args s 0 0 A) (F0 m 79 ls [.int s0]) := by
  obtain ⟨hx, hb, hr, hml, hown, ht, hlocks⟩ := id hc
  unfold v_M_stands_79 at hv
  refine lv_istore (lv' := [(5, .int s0), (0, .ref h0), (1, .int x1), (2, .long x2), (4, .int x4), (6, .int x6)]) hx hb d_M_stands_79 hl (by decide) rfl (fun ls hl => ?_)
  refine lv_iinc (v := (x6 + (1 : Int32))) (lv' := [(6, .int (x6 + (1 : Int32))), (5, .int s0), (0, .ref h0), (1, .int x1), (2, .long x2), (4, .int x4)]) hx hb d_M_stands_81 hl (k := 5) rfl rfl (by decide) rfl (fun ls hl => ?_)
  refine lv_goto (tgt := 34) hx hb d_M_stands_84 (by decide) ?_
  exact hk34 s0 (x6 + (1 : Int32)) _ _ _ (lv_sub hl [2, 3, 4, 5, 1, 0] rfl) hK hP hD hS hv
set_option maxHeartbeats 4000000 in
set_option maxRecDepth 100000 in
theorem b_M_stands_78 {h0 : Nat} {a0_4 : Nat} {a0_5 : Nat} {a0_6 : Nat} {a0_7 : Nat} {a0_8 : Nat} {a0_9 : Nat} {a0_10 : Nat} {a0_11 : Nat} {a0_22 : Nat} {a0_26 : Nat} {a0_29 : Nat} {a0_31 : Nat} {a0_32 : Nat} {a0_34 : Nat} {h1 : Nat} {cA1 : ClassId} {I0 : Nat → Int32} {J0 : Nat → Int64} {n1 : Nat} {f1 : Nat → Int32} {x1 : Int32} {x2 : Int64} {x4 : Int32} {x6 : Int32} {k34 : Int32 → Int32 → Prop} {Z : Int32 → Unit → Prop} {H : Heap} {locs : List Loc} {ls : Array Slot} (hc : zC p s m args meth c prog_14_method_12_code (some .boolean) 7 "NumberDressModel") (hA : ∀ q : Nat, s.heap.size ≤ q → A q) (hE : zE gE A s) (hk34 : ∀ (x5 : Int32) (x6 : Int32) (H : Heap) (locs : List Loc) (ls : Array Slot), lv_has ls 7 [(0, .ref h0), (1, .int x1), (2, .long x2), (4, .int x4), (5, .int x5), (6, .int x6)] → va_K (dC, dI) zCl [(cA1, .int)] s → va_P (dC, dI) zCl [(h0, .inr (12, o_M I0 J0 h1 a0_4 a0_5 a0_6 a0_7 a0_8 a0_9 a0_10 a0_11 a0_22 a0_26 a0_29 a0_31 a0_32 a0_34)), (h1, .inl (cA1, n1, .inl f1))] H → va_D A [(h0, .inr (12, o_M I0 J0 h1 a0_4 a0_5 a0_6 a0_7 a0_8 a0_9 a0_10 a0_11 a0_22 a0_26 a0_29 a0_31 a0_32 a0_34)), (h1, .inl (cA1, n1, .inl f1))] → va_S A s.heap H locs → k34 x5 x6 → W p l e (headSpec (Cond.code (⟨"NumberDressModel", "stands", "(IJ)Z"⟩ : MethodName) prog_14_method_12_code 7 (some .boolean) :: zT) { frames := 2, cells := 0, slots := 0, locals := 42 }).room s m args below meth c H locs 0 0 (MQ below (va_Qi Z (zB (dC, dI) zCl [(cA1, .int)] A (fun u : Unit => [(h0, .inr (12, o_M I0 J0 h1 a0_4 a0_5 a0_6 a0_7 a0_8 a0_9 a0_10 a0_11 a0_22 a0_26 a0_29 a0_31 a0_32 a0_34)), (h1, .inl (cA1, n1, .inl f1))])) A) args s 0 0 A) (F0 m 34 ls [])) (hl : lv_has ls 7 [(0, .ref h0), (1, .int x1), (2, .long x2), (4, .int x4), (6, .int x6)]) (hK : va_K (dC, dI) zCl [(cA1, .int)] s) (hP : va_P (dC, dI) zCl [(h0, .inr (12, o_M I0 J0 h1 a0_4 a0_5 a0_6 a0_7 a0_8 a0_9 a0_10 a0_11 a0_22 a0_26 a0_29 a0_31 a0_32 a0_34)), (h1, .inl (cA1, n1, .inl f1))] H) (hD : va_D A [(h0, .inr (12, o_M I0 J0 h1 a0_4 a0_5 a0_6 a0_7 a0_8 a0_9 a0_10 a0_11 a0_22 a0_26 a0_29 a0_31 a0_32 a0_34)), (h1, .inl (cA1, n1, .inl f1))]) (hS : va_S A s.heap H locs) (hv : v_M_stands_78 I0 J0 n1 f1 x1 x2 x4 x6 k34 Z) : W p l e (headSpec (Cond.code (⟨"NumberDressModel", "stands", "(IJ)Z"⟩ : MethodName) prog_14_method_12_code 7 (some .boolean) :: zT) { frames := 2, cells := 0, slots := 0, locals := 42 }).room s m args below meth c H locs 0 0 (MQ below (va_Qi Z (zB (dC, dI) zCl [(cA1, .int)] A (fun u : Unit => [(h0, .inr (12, o_M I0 J0 h1 a0_4 a0_5 a0_6 a0_7 a0_8 a0_9 a0_10 a0_11 a0_22 a0_26 a0_29 a0_31 a0_32 a0_34)), (h1, .inl (cA1, n1, .inl f1))])) A) args s 0 0 A) (F0 m 78 ls []) := by
  obtain ⟨hx, hb, hr, hml, hown, ht, hlocks⟩ := id hc
  unfold v_M_stands_78 at hv
  refine lv_iconst (v := (0 : Int32)) hx hb d_M_stands_78 (by decide) ?_
  exact b_M_stands_79 hc hA hE hk34 (lv_sub hl [0, 1, 2, 3, 4] rfl) hK hP hD hS hv
set_option maxHeartbeats 4000000 in
set_option maxRecDepth 100000 in
theorem b_M_stands_54 {h0 : Nat} {a0_4 : Nat} {a0_5 : Nat} {a0_6 : Nat} {a0_7 : Nat} {a0_8 : Nat} {a0_9 : Nat} {a0_10 : Nat} {a0_11 : Nat} {a0_22 : Nat} {a0_26 : Nat} {a0_29 : Nat} {a0_31 : Nat} {a0_32 : Nat} {a0_34 : Nat} {h1 : Nat} {cA1 : ClassId} {I0 : Nat → Int32} {J0 : Nat → Int64} {n1 : Nat} {f1 : Nat → Int32} {x1 : Int32} {x2 : Int64} {x4 : Int32} {x6 : Int32} {s0 : Int32} {k34 : Int32 → Int32 → Prop} {Z : Int32 → Unit → Prop} {H : Heap} {locs : List Loc} {ls : Array Slot} (hc : zC p s m args meth c prog_14_method_12_code (some .boolean) 7 "NumberDressModel") (hA : ∀ q : Nat, s.heap.size ≤ q → A q) (hE : zE gE A s) (hk34 : ∀ (x5 : Int32) (x6 : Int32) (H : Heap) (locs : List Loc) (ls : Array Slot), lv_has ls 7 [(0, .ref h0), (1, .int x1), (2, .long x2), (4, .int x4), (5, .int x5), (6, .int x6)] → va_K (dC, dI) zCl [(cA1, .int)] s → va_P (dC, dI) zCl [(h0, .inr (12, o_M I0 J0 h1 a0_4 a0_5 a0_6 a0_7 a0_8 a0_9 a0_10 a0_11 a0_22 a0_26 a0_29 a0_31 a0_32 a0_34)), (h1, .inl (cA1, n1, .inl f1))] H → va_D A [(h0, .inr (12, o_M I0 J0 h1 a0_4 a0_5 a0_6 a0_7 a0_8 a0_9 a0_10 a0_11 a0_22 a0_26 a0_29 a0_31 a0_32 a0_34)), (h1, .inl (cA1, n1, .inl f1))] → va_S A s.heap H locs → k34 x5 x6 → W p l e (headSpec (Cond.code (⟨"NumberDressModel", "stands", "(IJ)Z"⟩ : MethodName) prog_14_method_12_code 7 (some .boolean) :: zT) { frames := 2, cells := 0, slots := 0, locals := 42 }).room s m args below meth c H locs 0 0 (MQ below (va_Qi Z (zB (dC, dI) zCl [(cA1, .int)] A (fun u : Unit => [(h0, .inr (12, o_M I0 J0 h1 a0_4 a0_5 a0_6 a0_7 a0_8 a0_9 a0_10 a0_11 a0_22 a0_26 a0_29 a0_31 a0_32 a0_34)), (h1, .inl (cA1, n1, .inl f1))])) A) args s 0 0 A) (F0 m 34 ls [])) (hl : lv_has ls 7 [(0, .ref h0), (1, .int x1), (2, .long x2), (4, .int x4), (6, .int x6)]) (hK : va_K (dC, dI) zCl [(cA1, .int)] s) (hP : va_P (dC, dI) zCl [(h0, .inr (12, o_M I0 J0 h1 a0_4 a0_5 a0_6 a0_7 a0_8 a0_9 a0_10 a0_11 a0_22 a0_26 a0_29 a0_31 a0_32 a0_34)), (h1, .inl (cA1, n1, .inl f1))] H) (hD : va_D A [(h0, .inr (12, o_M I0 J0 h1 a0_4 a0_5 a0_6 a0_7 a0_8 a0_9 a0_10 a0_11 a0_22 a0_26 a0_29 a0_31 a0_32 a0_34)), (h1, .inl (cA1, n1, .inl f1))]) (hS : va_S A s.heap H locs) (hv : v_M_stands_54 I0 J0 n1 f1 x1 x2 x4 x6 s0 k34 Z) : W p l e (headSpec (Cond.code (⟨"NumberDressModel", "stands", "(IJ)Z"⟩ : MethodName) prog_14_method_12_code 7 (some .boolean) :: zT) { frames := 2, cells := 0, slots := 0, locals := 42 }).room s m args below meth c H locs 0 0 (MQ below (va_Qi Z (zB (dC, dI) zCl [(cA1, .int)] A (fun u : Unit => [(h0, .inr (12, o_M I0 J0 h1 a0_4 a0_5 a0_6 a0_7 a0_8 a0_9 a0_10 a0_11 a0_22 a0_26 a0_29 a0_31 a0_32 a0_34)), (h1, .inl (cA1, n1, .inl f1))])) A) args s 0 0 A) (F0 m 54 ls [.int s0]) := by
  obtain ⟨hx, hb, hr, hml, hown, ht, hlocks⟩ := id hc
  unfold v_M_stands_54 at hv
  refine lv_lload_n hx hb d_M_stands_54 rfl (lv_at hl 2 rfl) ?_
  refine lv_bipush (v := (8 : Int32)) hx hb d_M_stands_55 (by decide) ?_
  refine lv_iload hx hb d_M_stands_57 (lv_at hl 3 rfl) ?_
  refine lv_iconst (v := (1 : Int32)) hx hb d_M_stands_59 (by decide) ?_
  refine lv_isub hx hb d_M_stands_60 ?_
  refine lv_iload hx hb d_M_stands_61 (lv_at hl 4 rfl) ?_
  refine lv_isub hx hb d_M_stands_63 ?_
  refine lv_imul hx hb d_M_stands_64 ?_
  refine lv_lshr (v := (x2 >>> (((8 : Int32) * ((x4 - (1 : Int32)) - x6)).toInt64 &&& 63))) hx hb d_M_stands_65 rfl ?_
  refine lv_ldc2 (v := (255 : Int64)) hx hb hown (ht _ zw_1449) d_M_stands_66 ?_
  refine lv_land hx hb d_M_stands_69 ?_
  refine lv_l2i (v := ((x2 >>> (((8 : Int32) * ((x4 - (1 : Int32)) - x6)).toInt64 &&& 63)) &&& (255 : Int64)).toInt32) hx hb d_M_stands_70 rfl ?_
  refine lv_icmp_ne (tgt := 78) hx hb d_M_stands_71 (by decide) (fun c_1 => ?_) (fun c_1 => ?_)
  · have hv := hv.1 c_1
    exact b_M_stands_78 hc hA hE hk34 (lv_sub hl [0, 1, 2, 3, 4] rfl) hK hP hD hS hv
  · have hv := hv.2 c_1
    refine lv_iconst (v := (1 : Int32)) hx hb d_M_stands_74 (by decide) ?_
    refine lv_goto (tgt := 79) hx hb d_M_stands_75 (by decide) ?_
    exact b_M_stands_79 hc hA hE hk34 (lv_sub hl [0, 1, 2, 3, 4] rfl) hK hP hD hS hv
set_option maxHeartbeats 4000000 in
set_option maxRecDepth 100000 in
theorem b_M_stands_34 {h0 : Nat} {a0_4 : Nat} {a0_5 : Nat} {a0_6 : Nat} {a0_7 : Nat} {a0_8 : Nat} {a0_9 : Nat} {a0_10 : Nat} {a0_11 : Nat} {a0_22 : Nat} {a0_26 : Nat} {a0_29 : Nat} {a0_31 : Nat} {a0_32 : Nat} {a0_34 : Nat} {h1 : Nat} {cA1 : ClassId} {I0 : Nat → Int32} {J0 : Nat → Int64} {n1 : Nat} {f1 : Nat → Int32} {x1 : Int32} {x2 : Int64} {x4 : Int32}  {Z : Int32 → Unit → Prop} (hc : zC p s m args meth c prog_14_method_12_code (some .boolean) 7 "NumberDressModel") (hA : ∀ q : Nat, s.heap.size ≤ q → A q) (hE : zE gE A s) : ∀ (N : Nat) (x5 : Int32) (x6 : Int32) (H : Heap) (locs : List Loc) (ls : Array Slot), lv_has ls 7 [(0, .ref h0), (1, .int x1), (2, .long x2), (4, .int x4), (5, .int x5), (6, .int x6)] → va_K (dC, dI) zCl [(cA1, .int)] s → va_P (dC, dI) zCl [(h0, .inr (12, o_M I0 J0 h1 a0_4 a0_5 a0_6 a0_7 a0_8 a0_9 a0_10 a0_11 a0_22 a0_26 a0_29 a0_31 a0_32 a0_34)), (h1, .inl (cA1, n1, .inl f1))] H → va_D A [(h0, .inr (12, o_M I0 J0 h1 a0_4 a0_5 a0_6 a0_7 a0_8 a0_9 a0_10 a0_11 a0_22 a0_26 a0_29 a0_31 a0_32 a0_34)), (h1, .inl (cA1, n1, .inl f1))] → va_S A s.heap H locs → v_M_stands_34 I0 J0 n1 f1 x1 x2 x4  Z N x5 x6 → W p l e (headSpec (Cond.code (⟨"NumberDressModel", "stands", "(IJ)Z"⟩ : MethodName) prog_14_method_12_code 7 (some .boolean) :: zT) { frames := 2, cells := 0, slots := 0, locals := 42 }).room s m args below meth c H locs 0 0 (MQ below (va_Qi Z (zB (dC, dI) zCl [(cA1, .int)] A (fun u : Unit => [(h0, .inr (12, o_M I0 J0 h1 a0_4 a0_5 a0_6 a0_7 a0_8 a0_9 a0_10 a0_11 a0_22 a0_26 a0_29 a0_31 a0_32 a0_34)), (h1, .inl (cA1, n1, .inl f1))])) A) args s 0 0 A) (F0 m 34 ls []) := by
  obtain ⟨hx, hb, hr, hml, hown, ht, hlocks⟩ := id hc
  intro N
  induction N with
  | zero => intro x5 x6 H locs ls hl hK hP hD hS hv; exact hv.elim
  | succ N hk34 =>
    intro x5 x6 H locs ls hl hK hP hD hS hv
    unfold v_M_stands_34 at hv
    refine lv_iload hx hb d_M_stands_34 (lv_at hl 5 rfl) ?_
    refine lv_iload hx hb d_M_stands_36 (lv_at hl 3 rfl) ?_
    refine lv_icmp_ge (tgt := 87) hx hb d_M_stands_38 (by decide) (fun c_1 => ?_) (fun c_1 => ?_)
    · have hv := hv.1 c_1
      refine lv_iload hx hb d_M_stands_87 (lv_at hl 4 rfl) ?_
      exact W.zret (v := x5) hx hb hr (zb_n hv.1) (fun t ht hW => ⟨⟨_, (), rfl, hv.2, ⟨by rw [ht]; exact hP, va_K.moved hW.alike hK, hD⟩⟩, hS.F ht⟩) hS.2.2 d_M_stands_89
    · have hv := hv.2 c_1
      refine lv_iload hx hb d_M_stands_41 (lv_at hl 4 rfl) ?_
      refine lv_if_eq (tgt := 78) hx hb d_M_stands_43 (by decide) (fun c_2 => ?_) (fun c_2 => ?_)
      · have hv := hv.1 c_2
        exact b_M_stands_78 hc hA hE hk34 (lv_sub hl [0, 1, 2, 3, 5] rfl) hK hP hD hS hv
      · have hv := hv.2 c_2
        refine lv_aload_n hx hb d_M_stands_46 rfl (lv_at hl 0 rfl) ?_
        refine lv_iload_n hx hb d_M_stands_47 rfl (lv_at hl 1 rfl) ?_
        refine lv_iload hx hb d_M_stands_48 (lv_at hl 5 rfl) ?_
        refine lv_iadd hx hb d_M_stands_50 ?_
        refine z_calli (wc := [(h0, .inr (12, o_M I0 J0 h1 a0_4 a0_5 a0_6 a0_7 a0_8 a0_9 a0_10 a0_11 a0_22 a0_26 a0_29 a0_31 a0_32 a0_34)), (h1, .inl (cA1, n1, .inl f1))]) (wr := []) [0, 1] [] (va_runV (As := [.int (x1 + x6)]) (rest := []) ⟨hx, hb, hml, hown, ht⟩ (m_M_low l dC dI hv) ⟨(callB_of 1 ht (zG_in zi_M_low) rfl rfl rfl (ht _ zw_122) (ht _ zw_1442) zh_M_low ⟨Nat.le_of_ble_eq_true rfl, Nat.le_of_ble_eq_true rfl⟩), (ht _ zw_1444), (ht _ zw_67)⟩ ⟨zPc_blind, va_recv hK hP (ci := 12) (q0 := 0) rfl rfl, zPc_pre hP hK hD hS hA hE [0, 1] [0] rfl rfl (by decide) rfl⟩ rfl rfl hl.1 rfl (lv_room (Nat.le_of_ble_eq_true rfl)) d_M_stands_51 ⟨Nat.le_of_ble_eq_true rfl, Nat.le_of_ble_eq_true rfl⟩) hP hD hS hA rfl rfl (by decide) (by decide) (fun r u H locs hv hP hD hS => ?_)
        have hP : va_P (dC, dI) zCl [(h0, .inr (12, o_M I0 J0 h1 a0_4 a0_5 a0_6 a0_7 a0_8 a0_9 a0_10 a0_11 a0_22 a0_26 a0_29 a0_31 a0_32 a0_34)), (h1, .inl (cA1, n1, .inl f1))] H := hP.sub [0, 1] rfl
        have hD : va_D A [(h0, .inr (12, o_M I0 J0 h1 a0_4 a0_5 a0_6 a0_7 a0_8 a0_9 a0_10 a0_11 a0_22 a0_26 a0_29 a0_31 a0_32 a0_34)), (h1, .inl (cA1, n1, .inl f1))] := hD.sub [0, 1] (by decide) rfl
        exact b_M_stands_54 hc hA hE hk34 (lv_sub hl [0, 1, 2, 3, 5] rfl) hK hP hD hS hv
set_option maxHeartbeats 4000000 in
set_option maxRecDepth 100000 in
theorem b_M_stands_28 {h0 : Nat} {a0_4 : Nat} {a0_5 : Nat} {a0_6 : Nat} {a0_7 : Nat} {a0_8 : Nat} {a0_9 : Nat} {a0_10 : Nat} {a0_11 : Nat} {a0_22 : Nat} {a0_26 : Nat} {a0_29 : Nat} {a0_31 : Nat} {a0_32 : Nat} {a0_34 : Nat} {h1 : Nat} {cA1 : ClassId} {I0 : Nat → Int32} {J0 : Nat → Int64} {n1 : Nat} {f1 : Nat → Int32} {x1 : Int32} {x2 : Int64} {x4 : Int32}  {Z : Int32 → Unit → Prop} {H : Heap} {locs : List Loc} {ls : Array Slot} (hc : zC p s m args meth c prog_14_method_12_code (some .boolean) 7 "NumberDressModel") (hA : ∀ q : Nat, s.heap.size ≤ q → A q) (hE : zE gE A s) (hl : lv_has ls 7 [(0, .ref h0), (1, .int x1), (2, .long x2), (4, .int x4)]) (hK : va_K (dC, dI) zCl [(cA1, .int)] s) (hP : va_P (dC, dI) zCl [(h0, .inr (12, o_M I0 J0 h1 a0_4 a0_5 a0_6 a0_7 a0_8 a0_9 a0_10 a0_11 a0_22 a0_26 a0_29 a0_31 a0_32 a0_34)), (h1, .inl (cA1, n1, .inl f1))] H) (hD : va_D A [(h0, .inr (12, o_M I0 J0 h1 a0_4 a0_5 a0_6 a0_7 a0_8 a0_9 a0_10 a0_11 a0_22 a0_26 a0_29 a0_31 a0_32 a0_34)), (h1, .inl (cA1, n1, .inl f1))]) (hS : va_S A s.heap H locs) (hv : v_M_stands_28 I0 J0 n1 f1 x1 x2 x4  Z) : W p l e (headSpec (Cond.code (⟨"NumberDressModel", "stands", "(IJ)Z"⟩ : MethodName) prog_14_method_12_code 7 (some .boolean) :: zT) { frames := 2, cells := 0, slots := 0, locals := 42 }).room s m args below meth c H locs 0 0 (MQ below (va_Qi Z (zB (dC, dI) zCl [(cA1, .int)] A (fun u : Unit => [(h0, .inr (12, o_M I0 J0 h1 a0_4 a0_5 a0_6 a0_7 a0_8 a0_9 a0_10 a0_11 a0_22 a0_26 a0_29 a0_31 a0_32 a0_34)), (h1, .inl (cA1, n1, .inl f1))])) A) args s 0 0 A) (F0 m 28 ls []) := by
  obtain ⟨hx, hb, hr, hml, hown, ht, hlocks⟩ := id hc
  unfold v_M_stands_28 at hv
  refine lv_iconst (v := (1 : Int32)) hx hb d_M_stands_28 (by decide) ?_
  refine lv_istore (lv' := [(5, .int (1 : Int32)), (0, .ref h0), (1, .int x1), (2, .long x2), (4, .int x4)]) hx hb d_M_stands_29 hl (by decide) rfl (fun ls hl => ?_)
  refine lv_iconst (v := (0 : Int32)) hx hb d_M_stands_31 (by decide) ?_
  refine lv_istore (lv' := [(6, .int (0 : Int32)), (5, .int (1 : Int32)), (0, .ref h0), (1, .int x1), (2, .long x2), (4, .int x4)]) hx hb d_M_stands_32 hl (by decide) rfl (fun ls hl => ?_)
  obtain ⟨Nx, hv⟩ := hv
  exact b_M_stands_34 hc hA hE  Nx (1 : Int32) (0 : Int32) _ _ _ (lv_sub hl [2, 3, 4, 5, 1, 0] rfl) hK hP hD hS hv
set_option maxHeartbeats 4000000 in
set_option maxRecDepth 100000 in
theorem b_M_stands_3 {h0 : Nat} {a0_4 : Nat} {a0_5 : Nat} {a0_6 : Nat} {a0_7 : Nat} {a0_8 : Nat} {a0_9 : Nat} {a0_10 : Nat} {a0_11 : Nat} {a0_22 : Nat} {a0_26 : Nat} {a0_29 : Nat} {a0_31 : Nat} {a0_32 : Nat} {a0_34 : Nat} {h1 : Nat} {cA1 : ClassId} {I0 : Nat → Int32} {J0 : Nat → Int64} {n1 : Nat} {f1 : Nat → Int32} {x1 : Int32} {x2 : Int64}  {Z : Int32 → Unit → Prop} (hc : zC p s m args meth c prog_14_method_12_code (some .boolean) 7 "NumberDressModel") (hA : ∀ q : Nat, s.heap.size ≤ q → A q) (hE : zE gE A s) : ∀ (N : Nat) (x4 : Int32) (H : Heap) (locs : List Loc) (ls : Array Slot), lv_has ls 7 [(0, .ref h0), (1, .int x1), (2, .long x2), (4, .int x4)] → va_K (dC, dI) zCl [(cA1, .int)] s → va_P (dC, dI) zCl [(h0, .inr (12, o_M I0 J0 h1 a0_4 a0_5 a0_6 a0_7 a0_8 a0_9 a0_10 a0_11 a0_22 a0_26 a0_29 a0_31 a0_32 a0_34)), (h1, .inl (cA1, n1, .inl f1))] H → va_D A [(h0, .inr (12, o_M I0 J0 h1 a0_4 a0_5 a0_6 a0_7 a0_8 a0_9 a0_10 a0_11 a0_22 a0_26 a0_29 a0_31 a0_32 a0_34)), (h1, .inl (cA1, n1, .inl f1))] → va_S A s.heap H locs → v_M_stands_3 I0 J0 n1 f1 x1 x2  Z N x4 → W p l e (headSpec (Cond.code (⟨"NumberDressModel", "stands", "(IJ)Z"⟩ : MethodName) prog_14_method_12_code 7 (some .boolean) :: zT) { frames := 2, cells := 0, slots := 0, locals := 42 }).room s m args below meth c H locs 0 0 (MQ below (va_Qi Z (zB (dC, dI) zCl [(cA1, .int)] A (fun u : Unit => [(h0, .inr (12, o_M I0 J0 h1 a0_4 a0_5 a0_6 a0_7 a0_8 a0_9 a0_10 a0_11 a0_22 a0_26 a0_29 a0_31 a0_32 a0_34)), (h1, .inl (cA1, n1, .inl f1))])) A) args s 0 0 A) (F0 m 3 ls []) := by
  obtain ⟨hx, hb, hr, hml, hown, ht, hlocks⟩ := id hc
  intro N
  induction N with
  | zero => intro x4 H locs ls hl hK hP hD hS hv; exact hv.elim
  | succ N hk3 =>
    intro x4 H locs ls hl hK hP hD hS hv
    unfold v_M_stands_3 at hv
    refine lv_iload hx hb d_M_stands_3 (lv_at hl 3 rfl) ?_
    refine lv_bipush (v := (8 : Int32)) hx hb d_M_stands_5 (by decide) ?_
    refine lv_icmp_ge (tgt := 28) hx hb d_M_stands_7 (by decide) (fun c_1 => ?_) (fun c_1 => ?_)
    · have hv := hv.1 c_1
      exact b_M_stands_28 hc hA hE  (lv_sub hl [0, 1, 2, 3] rfl) hK hP hD hS hv
    · have hv := hv.2 c_1
      refine lv_lload_n hx hb d_M_stands_10 rfl (lv_at hl 2 rfl) ?_
      refine lv_bipush (v := (8 : Int32)) hx hb d_M_stands_11 (by decide) ?_
      refine lv_iload hx hb d_M_stands_13 (lv_at hl 3 rfl) ?_
      refine lv_imul hx hb d_M_stands_15 ?_
      refine lv_lshr (v := (x2 >>> (((8 : Int32) * x4).toInt64 &&& 63))) hx hb d_M_stands_16 rfl ?_
      refine lv_lconst (v := (0 : Int64)) hx hb d_M_stands_17 (by decide) ?_
      refine z_lcmp_le (tgt := 28) hx hb d_M_stands_18 d_M_stands_19 (by decide) (fun c_2 => ?_) (fun c_2 => ?_)
      · have hv := hv.1 c_2
        exact b_M_stands_28 hc hA hE  (lv_sub hl [0, 1, 2, 3] rfl) hK hP hD hS hv
      · have hv := hv.2 c_2
        refine lv_iinc (v := (x4 + (1 : Int32))) (lv' := [(4, .int (x4 + (1 : Int32))), (0, .ref h0), (1, .int x1), (2, .long x2)]) hx hb d_M_stands_22 hl (k := 3) rfl rfl (by decide) rfl (fun ls hl => ?_)
        refine lv_goto (tgt := 3) hx hb d_M_stands_25 (by decide) ?_
        exact hk3 (x4 + (1 : Int32)) _ _ _ (lv_sub hl [1, 2, 3, 0] rfl) hK hP hD hS hv
set_option maxHeartbeats 4000000 in
set_option maxRecDepth 100000 in
theorem b_M_stands_0 {h0 : Nat} {a0_4 : Nat} {a0_5 : Nat} {a0_6 : Nat} {a0_7 : Nat} {a0_8 : Nat} {a0_9 : Nat} {a0_10 : Nat} {a0_11 : Nat} {a0_22 : Nat} {a0_26 : Nat} {a0_29 : Nat} {a0_31 : Nat} {a0_32 : Nat} {a0_34 : Nat} {h1 : Nat} {cA1 : ClassId} {I0 : Nat → Int32} {J0 : Nat → Int64} {n1 : Nat} {f1 : Nat → Int32} {x1 : Int32} {x2 : Int64}  {Z : Int32 → Unit → Prop} {H : Heap} {locs : List Loc} {ls : Array Slot} (hc : zC p s m args meth c prog_14_method_12_code (some .boolean) 7 "NumberDressModel") (hA : ∀ q : Nat, s.heap.size ≤ q → A q) (hE : zE gE A s) (hl : lv_has ls 7 [(0, .ref h0), (1, .int x1), (2, .long x2)]) (hK : va_K (dC, dI) zCl [(cA1, .int)] s) (hP : va_P (dC, dI) zCl [(h0, .inr (12, o_M I0 J0 h1 a0_4 a0_5 a0_6 a0_7 a0_8 a0_9 a0_10 a0_11 a0_22 a0_26 a0_29 a0_31 a0_32 a0_34)), (h1, .inl (cA1, n1, .inl f1))] H) (hD : va_D A [(h0, .inr (12, o_M I0 J0 h1 a0_4 a0_5 a0_6 a0_7 a0_8 a0_9 a0_10 a0_11 a0_22 a0_26 a0_29 a0_31 a0_32 a0_34)), (h1, .inl (cA1, n1, .inl f1))]) (hS : va_S A s.heap H locs) (hv : v_M_stands_0 I0 J0 n1 f1 x1 x2  Z) : W p l e (headSpec (Cond.code (⟨"NumberDressModel", "stands", "(IJ)Z"⟩ : MethodName) prog_14_method_12_code 7 (some .boolean) :: zT) { frames := 2, cells := 0, slots := 0, locals := 42 }).room s m args below meth c H locs 0 0 (MQ below (va_Qi Z (zB (dC, dI) zCl [(cA1, .int)] A (fun u : Unit => [(h0, .inr (12, o_M I0 J0 h1 a0_4 a0_5 a0_6 a0_7 a0_8 a0_9 a0_10 a0_11 a0_22 a0_26 a0_29 a0_31 a0_32 a0_34)), (h1, .inl (cA1, n1, .inl f1))])) A) args s 0 0 A) (F0 m 0 ls []) := by
  obtain ⟨hx, hb, hr, hml, hown, ht, hlocks⟩ := id hc
  unfold v_M_stands_0 at hv
  refine lv_iconst (v := (0 : Int32)) hx hb d_M_stands_0 (by decide) ?_
  refine lv_istore (lv' := [(4, .int (0 : Int32)), (0, .ref h0), (1, .int x1), (2, .long x2)]) hx hb d_M_stands_1 hl (by decide) rfl (fun ls hl => ?_)
  obtain ⟨Nx, hv⟩ := hv
  exact b_M_stands_3 hc hA hE  Nx (0 : Int32) _ _ _ (lv_sub hl [1, 2, 3, 0] rfl) hK hP hD hS hv
theorem zi_M_stands : Cond.code (⟨"NumberDressModel", "stands", "(IJ)Z"⟩ : MethodName) prog_14_method_12_code 7 (some .boolean) ∈ zT := zw_1441
theorem zh_M_stands : (((⟨"NumberDressModel", "stands", "(IJ)Z"⟩ : MethodName)).cls ≠ "java/lang/invoke/MethodHandle" ∧ ((⟨"NumberDressModel", "stands", "(IJ)Z"⟩ : MethodName)).cls ≠ "java/lang/invoke/VarHandle" ∧ (parseMethodDescriptor ((⟨"NumberDressModel", "stands", "(IJ)Z"⟩ : MethodName)).desc).map (fun d => d.parameters.length) = some 2) := by decide +kernel
set_option maxHeartbeats 4000000 in
set_option maxRecDepth 100000 in
theorem m_M_stands (l : Launch) (dC : Nat → ClassId) (dI : Nat → Nat → Nat) {gE : zG} {h0 : Nat} {a0_4 : Nat} {a0_5 : Nat} {a0_6 : Nat} {a0_7 : Nat} {a0_8 : Nat} {a0_9 : Nat} {a0_10 : Nat} {a0_11 : Nat} {a0_22 : Nat} {a0_26 : Nat} {a0_29 : Nat} {a0_31 : Nat} {a0_32 : Nat} {a0_34 : Nat} {h1 : Nat} {cA1 : ClassId} {I0 : Nat → Int32} {J0 : Nat → Int64} {n1 : Nat} {f1 : Nat → Int32} {x1 : Int32} {x2 : Int64} {sz : Nat} {Z : Int32 → Unit → Prop} (hv : v_M_stands_0 I0 J0 n1 f1 x1 x2 Z) : Met l (⟨"NumberDressModel", "stands", "(IJ)Z"⟩ : MethodName) (Cond.code (⟨"NumberDressModel", "stands", "(IJ)Z"⟩ : MethodName) prog_14_method_12_code 7 (some .boolean) :: zT) { frames := 2, cells := 0, slots := 0, locals := 42 } (zPc gE (dC, dI) zCl [(cA1, .int)] [.ref h0, .int x1, .long x2] sz [(h0, .inr (12, o_M I0 J0 h1 a0_4 a0_5 a0_6 a0_7 a0_8 a0_9 a0_10 a0_11 a0_22 a0_26 a0_29 a0_31 a0_32 a0_34)), (h1, .inl (cA1, n1, .inl f1))]) (va_Qi Z (zB (dC, dI) zCl [(cA1, .int)] (va_A [(h0, .inr (12, o_M I0 J0 h1 a0_4 a0_5 a0_6 a0_7 a0_8 a0_9 a0_10 a0_11 a0_22 a0_26 a0_29 a0_31 a0_32 a0_34)), (h1, .inl (cA1, n1, .inl f1))] sz) (fun u : Unit => [(h0, .inr (12, o_M I0 J0 h1 a0_4 a0_5 a0_6 a0_7 a0_8 a0_9 a0_10 a0_11 a0_22 a0_26 a0_29 a0_31 a0_32 a0_34)), (h1, .inl (cA1, n1, .inl f1))])) (va_A [(h0, .inr (12, o_M I0 J0 h1 a0_4 a0_5 a0_6 a0_7 a0_8 a0_9 a0_10 a0_11 a0_22 a0_26 a0_29 a0_31 a0_32 a0_34)), (h1, .inl (cA1, n1, .inl f1))] sz)) 0 0 (va_A [(h0, .inr (12, o_M I0 J0 h1 a0_4 a0_5 a0_6 a0_7 a0_8 a0_9 a0_10 a0_11 a0_22 a0_26 a0_29 a0_31 a0_32 a0_34)), (h1, .inl (cA1, n1, .inl f1))] sz) := by
  refine Met.ofW (cc := prog_14_method_12_code) (maxL := 7) (ret := (some .boolean)) (by decide +kernel) rfl ?_
  intro p e s m args below meth c s₁ B hml hp
  obtain ⟨rfl, hsz, hP, hK, hD0, hE⟩ := hp
  have hts := atoms_spec (ws := (Cond.code (⟨"NumberDressModel", "stands", "(IJ)Z"⟩ : MethodName) prog_14_method_12_code 7 (some .boolean) :: zT)) B.pre
  have hown : s.vm.findClass "NumberDressModel" = some m.cls := findClass_of_methodNamed B.named
  have hc : zC p s m _ meth c prog_14_method_12_code (some .boolean) 7 "NumberDressModel" := ⟨B.exec, B.bytes, B.returns, hml, hown, fun w h => hts w (List.mem_cons_of_mem _ h), B.notSynchronized⟩
  subst hsz
  have hD := hD0.self (sz := s.heap.size)
  generalize hAe : va_A [(h0, .inr (12, o_M I0 J0 h1 a0_4 a0_5 a0_6 a0_7 a0_8 a0_9 a0_10 a0_11 a0_22 a0_26 a0_29 a0_31 a0_32 a0_34)), (h1, .inl (cA1, n1, .inl f1))] s.heap.size = A at hD hE ⊢
  have hA : ∀ q : Nat, s.heap.size ≤ q → A q := fun q h => by rw [← hAe]; exact Or.inr h
  have hl := lv_entry ([.ref h0, .int x1, .long x2]) (n := 7) (Nat.le_of_ble_eq_true rfl)
  rw [lg_entry_eq]
  exact b_M_stands_0 hc hA hE hl hK hP hD va_S.rf hv
theorem d_M_colour_0 : decode prog_14_method_13_code 0 = .ok (.aload_n 0, 1) := by decide +kernel
theorem d_M_colour_1 : decode prog_14_method_13_code 1 = .ok (.iload_n 1, 1) := by decide +kernel
theorem d_M_colour_2 : decode prog_14_method_13_code 2 = .ok (.invokevirtual 62, 3) := by decide +kernel
theorem d_M_colour_5 : decode prog_14_method_13_code 5 = .ok (.bipush 91, 2) := by decide +kernel
theorem d_M_colour_7 : decode prog_14_method_13_code 7 = .ok (.if_icmp .eq 5, 3) := by decide +kernel
theorem d_M_colour_10 : decode prog_14_method_13_code 10 = .ok (.iconst 0, 1) := by decide +kernel
theorem d_M_colour_11 : decode prog_14_method_13_code 11 = .ok (.ireturn, 1) := by decide +kernel
theorem d_M_colour_12 : decode prog_14_method_13_code 12 = .ok (.aload_n 0, 1) := by decide +kernel
theorem d_M_colour_13 : decode prog_14_method_13_code 13 = .ok (.iload_n 1, 1) := by decide +kernel
theorem d_M_colour_14 : decode prog_14_method_13_code 14 = .ok (.iconst 1, 1) := by decide +kernel
theorem d_M_colour_15 : decode prog_14_method_13_code 15 = .ok (.iadd, 1) := by decide +kernel
theorem d_M_colour_16 : decode prog_14_method_13_code 16 = .ok (.ldc2_w 99, 3) := by decide +kernel
theorem d_M_colour_19 : decode prog_14_method_13_code 19 = .ok (.invokevirtual 101, 3) := by decide +kernel
theorem d_M_colour_22 : decode prog_14_method_13_code 22 = .ok (.ifCond .ne 29, 3) := by decide +kernel
theorem d_M_colour_25 : decode prog_14_method_13_code 25 = .ok (.aload_n 0, 1) := by decide +kernel
theorem d_M_colour_26 : decode prog_14_method_13_code 26 = .ok (.iload_n 1, 1) := by decide +kernel
theorem d_M_colour_27 : decode prog_14_method_13_code 27 = .ok (.iconst 1, 1) := by decide +kernel
theorem d_M_colour_28 : decode prog_14_method_13_code 28 = .ok (.iadd, 1) := by decide +kernel
theorem d_M_colour_29 : decode prog_14_method_13_code 29 = .ok (.ldc2_w 105, 3) := by decide +kernel
theorem d_M_colour_32 : decode prog_14_method_13_code 32 = .ok (.invokevirtual 101, 3) := by decide +kernel
theorem d_M_colour_35 : decode prog_14_method_13_code 35 = .ok (.ifCond .ne 16, 3) := by decide +kernel
theorem d_M_colour_38 : decode prog_14_method_13_code 38 = .ok (.aload_n 0, 1) := by decide +kernel
theorem d_M_colour_39 : decode prog_14_method_13_code 39 = .ok (.iload_n 1, 1) := by decide +kernel
theorem d_M_colour_40 : decode prog_14_method_13_code 40 = .ok (.iconst 1, 1) := by decide +kernel
theorem d_M_colour_41 : decode prog_14_method_13_code 41 = .ok (.iadd, 1) := by decide +kernel
theorem d_M_colour_42 : decode prog_14_method_13_code 42 = .ok (.ldc2_w 107, 3) := by decide +kernel
theorem d_M_colour_45 : decode prog_14_method_13_code 45 = .ok (.invokevirtual 101, 3) := by decide +kernel
theorem d_M_colour_48 : decode prog_14_method_13_code 48 = .ok (.ifCond .eq 7, 3) := by decide +kernel
theorem d_M_colour_51 : decode prog_14_method_13_code 51 = .ok (.iconst 5, 1) := by decide +kernel
theorem d_M_colour_52 : decode prog_14_method_13_code 52 = .ok (.goto 87, 3) := by decide +kernel
theorem d_M_colour_55 : decode prog_14_method_13_code 55 = .ok (.aload_n 0, 1) := by decide +kernel
theorem d_M_colour_56 : decode prog_14_method_13_code 56 = .ok (.iload_n 1, 1) := by decide +kernel
theorem d_M_colour_57 : decode prog_14_method_13_code 57 = .ok (.iconst 1, 1) := by decide +kernel
theorem d_M_colour_58 : decode prog_14_method_13_code 58 = .ok (.iadd, 1) := by decide +kernel
theorem d_M_colour_59 : decode prog_14_method_13_code 59 = .ok (.ldc2_w 109, 3) := by decide +kernel
theorem d_M_colour_62 : decode prog_14_method_13_code 62 = .ok (.invokevirtual 101, 3) := by decide +kernel
theorem d_M_colour_65 : decode prog_14_method_13_code 65 = .ok (.ifCond .ne 16, 3) := by decide +kernel
theorem d_M_colour_68 : decode prog_14_method_13_code 68 = .ok (.aload_n 0, 1) := by decide +kernel
theorem d_M_colour_69 : decode prog_14_method_13_code 69 = .ok (.iload_n 1, 1) := by decide +kernel
theorem d_M_colour_70 : decode prog_14_method_13_code 70 = .ok (.iconst 1, 1) := by decide +kernel
theorem d_M_colour_71 : decode prog_14_method_13_code 71 = .ok (.iadd, 1) := by decide +kernel
theorem d_M_colour_72 : decode prog_14_method_13_code 72 = .ok (.ldc2_w 111, 3) := by decide +kernel
theorem d_M_colour_75 : decode prog_14_method_13_code 75 = .ok (.invokevirtual 101, 3) := by decide +kernel
theorem d_M_colour_78 : decode prog_14_method_13_code 78 = .ok (.ifCond .eq 7, 3) := by decide +kernel
theorem d_M_colour_81 : decode prog_14_method_13_code 81 = .ok (.iconst 4, 1) := by decide +kernel
theorem d_M_colour_82 : decode prog_14_method_13_code 82 = .ok (.goto 57, 3) := by decide +kernel
theorem d_M_colour_85 : decode prog_14_method_13_code 85 = .ok (.aload_n 0, 1) := by decide +kernel
theorem d_M_colour_86 : decode prog_14_method_13_code 86 = .ok (.iload_n 1, 1) := by decide +kernel
theorem d_M_colour_87 : decode prog_14_method_13_code 87 = .ok (.iconst 1, 1) := by decide +kernel
theorem d_M_colour_88 : decode prog_14_method_13_code 88 = .ok (.iadd, 1) := by decide +kernel
theorem d_M_colour_89 : decode prog_14_method_13_code 89 = .ok (.ldc2_w 113, 3) := by decide +kernel
theorem d_M_colour_92 : decode prog_14_method_13_code 92 = .ok (.invokevirtual 101, 3) := by decide +kernel
theorem d_M_colour_95 : decode prog_14_method_13_code 95 = .ok (.ifCond .eq 7, 3) := by decide +kernel
theorem d_M_colour_98 : decode prog_14_method_13_code 98 = .ok (.iconst 3, 1) := by decide +kernel
theorem d_M_colour_99 : decode prog_14_method_13_code 99 = .ok (.goto 40, 3) := by decide +kernel
theorem d_M_colour_102 : decode prog_14_method_13_code 102 = .ok (.aload_n 0, 1) := by decide +kernel
theorem d_M_colour_103 : decode prog_14_method_13_code 103 = .ok (.iload_n 1, 1) := by decide +kernel
theorem d_M_colour_104 : decode prog_14_method_13_code 104 = .ok (.iconst 1, 1) := by decide +kernel
theorem d_M_colour_105 : decode prog_14_method_13_code 105 = .ok (.iadd, 1) := by decide +kernel
theorem d_M_colour_106 : decode prog_14_method_13_code 106 = .ok (.ldc2_w 115, 3) := by decide +kernel
theorem d_M_colour_109 : decode prog_14_method_13_code 109 = .ok (.invokevirtual 101, 3) := by decide +kernel
theorem d_M_colour_112 : decode prog_14_method_13_code 112 = .ok (.ifCond .eq 8, 3) := by decide +kernel
theorem d_M_colour_115 : decode prog_14_method_13_code 115 = .ok (.bipush 6, 2) := by decide +kernel
theorem d_M_colour_117 : decode prog_14_method_13_code 117 = .ok (.goto 22, 3) := by decide +kernel
theorem d_M_colour_120 : decode prog_14_method_13_code 120 = .ok (.aload_n 0, 1) := by decide +kernel
theorem d_M_colour_121 : decode prog_14_method_13_code 121 = .ok (.iload_n 1, 1) := by decide +kernel
theorem d_M_colour_122 : decode prog_14_method_13_code 122 = .ok (.iconst 1, 1) := by decide +kernel
theorem d_M_colour_123 : decode prog_14_method_13_code 123 = .ok (.iadd, 1) := by decide +kernel
theorem d_M_colour_124 : decode prog_14_method_13_code 124 = .ok (.ldc2_w 117, 3) := by decide +kernel
theorem d_M_colour_127 : decode prog_14_method_13_code 127 = .ok (.invokevirtual 101, 3) := by decide +kernel
theorem d_M_colour_130 : decode prog_14_method_13_code 130 = .ok (.ifCond .eq 8, 3) := by decide +kernel
theorem d_M_colour_133 : decode prog_14_method_13_code 133 = .ok (.bipush 7, 2) := by decide +kernel
theorem d_M_colour_135 : decode prog_14_method_13_code 135 = .ok (.goto 4, 3) := by decide +kernel
theorem d_M_colour_138 : decode prog_14_method_13_code 138 = .ok (.iconst 0, 1) := by decide +kernel
theorem d_M_colour_139 : decode prog_14_method_13_code 139 = .ok (.istore_n 2, 1) := by decide +kernel
theorem d_M_colour_140 : decode prog_14_method_13_code 140 = .ok (.iload_n 2, 1) := by decide +kernel
theorem d_M_colour_141 : decode prog_14_method_13_code 141 = .ok (.ifCond .le 23, 3) := by decide +kernel
theorem d_M_colour_144 : decode prog_14_method_13_code 144 = .ok (.aload_n 0, 1) := by decide +kernel
theorem d_M_colour_145 : decode prog_14_method_13_code 145 = .ok (.iload_n 1, 1) := by decide +kernel
theorem d_M_colour_146 : decode prog_14_method_13_code 146 = .ok (.iconst 1, 1) := by decide +kernel
theorem d_M_colour_147 : decode prog_14_method_13_code 147 = .ok (.iadd, 1) := by decide +kernel
theorem d_M_colour_148 : decode prog_14_method_13_code 148 = .ok (.iload_n 2, 1) := by decide +kernel
theorem d_M_colour_149 : decode prog_14_method_13_code 149 = .ok (.iadd, 1) := by decide +kernel
theorem d_M_colour_150 : decode prog_14_method_13_code 150 = .ok (.invokevirtual 62, 3) := by decide +kernel
theorem d_M_colour_153 : decode prog_14_method_13_code 153 = .ok (.bipush 93, 2) := by decide +kernel
theorem d_M_colour_155 : decode prog_14_method_13_code 155 = .ok (.if_icmp .ne 9, 3) := by decide +kernel
theorem d_M_colour_158 : decode prog_14_method_13_code 158 = .ok (.iload_n 2, 1) := by decide +kernel
theorem d_M_colour_159 : decode prog_14_method_13_code 159 = .ok (.iconst 2, 1) := by decide +kernel
theorem d_M_colour_160 : decode prog_14_method_13_code 160 = .ok (.iadd, 1) := by decide +kernel
theorem d_M_colour_161 : decode prog_14_method_13_code 161 = .ok (.goto 4, 3) := by decide +kernel
theorem d_M_colour_164 : decode prog_14_method_13_code 164 = .ok (.iconst 0, 1) := by decide +kernel
theorem d_M_colour_165 : decode prog_14_method_13_code 165 = .ok (.ireturn, 1) := by decide +kernel
set_option maxHeartbeats 4000000 in
set_option maxRecDepth 100000 in
theorem b_M_colour_153 {h0 : Nat} {a0_4 : Nat} {a0_5 : Nat} {a0_6 : Nat} {a0_7 : Nat} {a0_8 : Nat} {a0_9 : Nat} {a0_10 : Nat} {a0_11 : Nat} {a0_22 : Nat} {a0_26 : Nat} {a0_29 : Nat} {a0_31 : Nat} {a0_32 : Nat} {a0_34 : Nat} {h1 : Nat} {cA1 : ClassId} {I0 : Nat → Int32} {J0 : Nat → Int64} {n1 : Nat} {f1 : Nat → Int32} {x2 : Int32} {s0 : Int32}  {Z : Int32 → Unit → Prop} {H : Heap} {locs : List Loc} {ls : Array Slot} (hc : zC p s m args meth c prog_14_method_13_code (some .int) 3 "NumberDressModel") (hA : ∀ q : Nat, s.heap.size ≤ q → A q) (hE : zE gE A s) (hl : lv_has ls 3 [(2, .int x2)]) (hK : va_K (dC, dI) zCl [(cA1, .int)] s) (hP : va_P (dC, dI) zCl [(h0, .inr (12, o_M I0 J0 h1 a0_4 a0_5 a0_6 a0_7 a0_8 a0_9 a0_10 a0_11 a0_22 a0_26 a0_29 a0_31 a0_32 a0_34)), (h1, .inl (cA1, n1, .inl f1))] H) (hD : va_D A [(h0, .inr (12, o_M I0 J0 h1 a0_4 a0_5 a0_6 a0_7 a0_8 a0_9 a0_10 a0_11 a0_22 a0_26 a0_29 a0_31 a0_32 a0_34)), (h1, .inl (cA1, n1, .inl f1))]) (hS : va_S A s.heap H locs) (hv : v_M_colour_153 I0 J0 n1 f1 x2 s0  Z) : W p l e (headSpec (Cond.code (⟨"NumberDressModel", "colour", "(I)I"⟩ : MethodName) prog_14_method_13_code 3 (some .int) :: zT) { frames := 3, cells := 0, slots := 0, locals := 68 }).room s m args below meth c H locs 0 0 (MQ below (va_Qi Z (zB (dC, dI) zCl [(cA1, .int)] A (fun u : Unit => [(h0, .inr (12, o_M I0 J0 h1 a0_4 a0_5 a0_6 a0_7 a0_8 a0_9 a0_10 a0_11 a0_22 a0_26 a0_29 a0_31 a0_32 a0_34)), (h1, .inl (cA1, n1, .inl f1))])) A) args s 0 0 A) (F0 m 153 ls [.int s0]) := by
  obtain ⟨hx, hb, hr, hml, hown, ht, hlocks⟩ := id hc
  unfold v_M_colour_153 at hv
  refine lv_bipush (v := (93 : Int32)) hx hb d_M_colour_153 (by decide) ?_
  refine lv_icmp_ne (tgt := 164) hx hb d_M_colour_155 (by decide) (fun c_1 => ?_) (fun c_1 => ?_)
  · have hv := hv.1 c_1
    refine lv_iconst (v := (0 : Int32)) hx hb d_M_colour_164 (by decide) ?_
    exact W.iret (v := (0 : Int32)) hx hb hr (fun t ht hW => ⟨⟨_, (), rfl, hv, ⟨by rw [ht]; exact hP, va_K.moved hW.alike hK, hD⟩⟩, hS.F ht⟩) hS.2.2 d_M_colour_165
  · have hv := hv.2 c_1
    refine lv_iload_n hx hb d_M_colour_158 rfl (lv_at hl 0 rfl) ?_
    refine lv_iconst (v := (2 : Int32)) hx hb d_M_colour_159 (by decide) ?_
    refine lv_iadd hx hb d_M_colour_160 ?_
    refine lv_goto (tgt := 165) hx hb d_M_colour_161 (by decide) ?_
    exact W.iret (v := (x2 + (2 : Int32))) hx hb hr (fun t ht hW => ⟨⟨_, (), rfl, hv, ⟨by rw [ht]; exact hP, va_K.moved hW.alike hK, hD⟩⟩, hS.F ht⟩) hS.2.2 d_M_colour_165
set_option maxHeartbeats 4000000 in
set_option maxRecDepth 100000 in
theorem b_M_colour_139 {h0 : Nat} {a0_4 : Nat} {a0_5 : Nat} {a0_6 : Nat} {a0_7 : Nat} {a0_8 : Nat} {a0_9 : Nat} {a0_10 : Nat} {a0_11 : Nat} {a0_22 : Nat} {a0_26 : Nat} {a0_29 : Nat} {a0_31 : Nat} {a0_32 : Nat} {a0_34 : Nat} {h1 : Nat} {cA1 : ClassId} {I0 : Nat → Int32} {J0 : Nat → Int64} {n1 : Nat} {f1 : Nat → Int32} {x1 : Int32} {s0 : Int32}  {Z : Int32 → Unit → Prop} {H : Heap} {locs : List Loc} {ls : Array Slot} (hc : zC p s m args meth c prog_14_method_13_code (some .int) 3 "NumberDressModel") (hA : ∀ q : Nat, s.heap.size ≤ q → A q) (hE : zE gE A s) (hl : lv_has ls 3 [(0, .ref h0), (1, .int x1)]) (hK : va_K (dC, dI) zCl [(cA1, .int)] s) (hP : va_P (dC, dI) zCl [(h0, .inr (12, o_M I0 J0 h1 a0_4 a0_5 a0_6 a0_7 a0_8 a0_9 a0_10 a0_11 a0_22 a0_26 a0_29 a0_31 a0_32 a0_34)), (h1, .inl (cA1, n1, .inl f1))] H) (hD : va_D A [(h0, .inr (12, o_M I0 J0 h1 a0_4 a0_5 a0_6 a0_7 a0_8 a0_9 a0_10 a0_11 a0_22 a0_26 a0_29 a0_31 a0_32 a0_34)), (h1, .inl (cA1, n1, .inl f1))]) (hS : va_S A s.heap H locs) (hv : v_M_colour_139 I0 J0 n1 f1 x1 s0  Z) : W p l e (headSpec (Cond.code (⟨"NumberDressModel", "colour", "(I)I"⟩ : MethodName) prog_14_method_13_code 3 (some .int) :: zT) { frames := 3, cells := 0, slots := 0, locals := 68 }).room s m args below meth c H locs 0 0 (MQ below (va_Qi Z (zB (dC, dI) zCl [(cA1, .int)] A (fun u : Unit => [(h0, .inr (12, o_M I0 J0 h1 a0_4 a0_5 a0_6 a0_7 a0_8 a0_9 a0_10 a0_11 a0_22 a0_26 a0_29 a0_31 a0_32 a0_34)), (h1, .inl (cA1, n1, .inl f1))])) A) args s 0 0 A) (F0 m 139 ls [.int s0]) := by
  obtain ⟨hx, hb, hr, hml, hown, ht, hlocks⟩ := id hc
  unfold v_M_colour_139 at hv
  refine lv_istore_n (lv' := [(2, .int s0), (0, .ref h0), (1, .int x1)]) hx hb d_M_colour_139 rfl hl (by decide) rfl (fun ls hl => ?_)
  refine lv_iload_n hx hb d_M_colour_140 rfl (lv_at hl 0 rfl) ?_
  refine lv_if_le (tgt := 164) hx hb d_M_colour_141 (by decide) (fun c_1 => ?_) (fun c_1 => ?_)
  · have hv := hv.1 c_1
    refine lv_iconst (v := (0 : Int32)) hx hb d_M_colour_164 (by decide) ?_
    exact W.iret (v := (0 : Int32)) hx hb hr (fun t ht hW => ⟨⟨_, (), rfl, hv, ⟨by rw [ht]; exact hP, va_K.moved hW.alike hK, hD⟩⟩, hS.F ht⟩) hS.2.2 d_M_colour_165
  · have hv := hv.2 c_1
    refine lv_aload_n hx hb d_M_colour_144 rfl (lv_at hl 1 rfl) ?_
    refine lv_iload_n hx hb d_M_colour_145 rfl (lv_at hl 2 rfl) ?_
    refine lv_iconst (v := (1 : Int32)) hx hb d_M_colour_146 (by decide) ?_
    refine lv_iadd hx hb d_M_colour_147 ?_
    refine lv_iload_n hx hb d_M_colour_148 rfl (lv_at hl 0 rfl) ?_
    refine lv_iadd hx hb d_M_colour_149 ?_
    refine z_calli (wc := [(h0, .inr (12, o_M I0 J0 h1 a0_4 a0_5 a0_6 a0_7 a0_8 a0_9 a0_10 a0_11 a0_22 a0_26 a0_29 a0_31 a0_32 a0_34)), (h1, .inl (cA1, n1, .inl f1))]) (wr := []) [0, 1] [] (va_runV (As := [.int ((x1 + (1 : Int32)) + s0)]) (rest := []) ⟨hx, hb, hml, hown, ht⟩ (m_M_ch l dC dI hv) ⟨(callB_of 1 ht (zG_in zi_M_ch) rfl rfl rfl (ht _ zw_122) (ht _ zw_1425) zh_M_ch ⟨Nat.le_of_ble_eq_true rfl, Nat.le_of_ble_eq_true rfl⟩), (ht _ zw_1427), (ht _ zw_63)⟩ ⟨zPc_blind, va_recv hK hP (ci := 12) (q0 := 0) rfl rfl, zPc_pre hP hK hD hS hA hE [0, 1] [0] rfl rfl (by decide) rfl⟩ rfl rfl hl.1 rfl (lv_room (Nat.le_of_ble_eq_true rfl)) d_M_colour_150 ⟨Nat.le_of_ble_eq_true rfl, Nat.le_of_ble_eq_true rfl⟩) hP hD hS hA rfl rfl (by decide) (by decide) (fun r u H locs hv hP hD hS => ?_)
    have hP : va_P (dC, dI) zCl [(h0, .inr (12, o_M I0 J0 h1 a0_4 a0_5 a0_6 a0_7 a0_8 a0_9 a0_10 a0_11 a0_22 a0_26 a0_29 a0_31 a0_32 a0_34)), (h1, .inl (cA1, n1, .inl f1))] H := hP.sub [0, 1] rfl
    have hD : va_D A [(h0, .inr (12, o_M I0 J0 h1 a0_4 a0_5 a0_6 a0_7 a0_8 a0_9 a0_10 a0_11 a0_22 a0_26 a0_29 a0_31 a0_32 a0_34)), (h1, .inl (cA1, n1, .inl f1))] := hD.sub [0, 1] (by decide) rfl
    exact b_M_colour_153 hc hA hE  (lv_sub hl [0] rfl) hK hP hD hS hv
set_option maxHeartbeats 4000000 in
set_option maxRecDepth 100000 in
theorem b_M_colour_51 {h0 : Nat} {a0_4 : Nat} {a0_5 : Nat} {a0_6 : Nat} {a0_7 : Nat} {a0_8 : Nat} {a0_9 : Nat} {a0_10 : Nat} {a0_11 : Nat} {a0_22 : Nat} {a0_26 : Nat} {a0_29 : Nat} {a0_31 : Nat} {a0_32 : Nat} {a0_34 : Nat} {h1 : Nat} {cA1 : ClassId} {I0 : Nat → Int32} {J0 : Nat → Int64} {n1 : Nat} {f1 : Nat → Int32} {x1 : Int32}  {Z : Int32 → Unit → Prop} {H : Heap} {locs : List Loc} {ls : Array Slot} (hc : zC p s m args meth c prog_14_method_13_code (some .int) 3 "NumberDressModel") (hA : ∀ q : Nat, s.heap.size ≤ q → A q) (hE : zE gE A s) (hl : lv_has ls 3 [(0, .ref h0), (1, .int x1)]) (hK : va_K (dC, dI) zCl [(cA1, .int)] s) (hP : va_P (dC, dI) zCl [(h0, .inr (12, o_M I0 J0 h1 a0_4 a0_5 a0_6 a0_7 a0_8 a0_9 a0_10 a0_11 a0_22 a0_26 a0_29 a0_31 a0_32 a0_34)), (h1, .inl (cA1, n1, .inl f1))] H) (hD : va_D A [(h0, .inr (12, o_M I0 J0 h1 a0_4 a0_5 a0_6 a0_7 a0_8 a0_9 a0_10 a0_11 a0_22 a0_26 a0_29 a0_31 a0_32 a0_34)), (h1, .inl (cA1, n1, .inl f1))]) (hS : va_S A s.heap H locs) (hv : v_M_colour_51 I0 J0 n1 f1 x1  Z) : W p l e (headSpec (Cond.code (⟨"NumberDressModel", "colour", "(I)I"⟩ : MethodName) prog_14_method_13_code 3 (some .int) :: zT) { frames := 3, cells := 0, slots := 0, locals := 68 }).room s m args below meth c H locs 0 0 (MQ below (va_Qi Z (zB (dC, dI) zCl [(cA1, .int)] A (fun u : Unit => [(h0, .inr (12, o_M I0 J0 h1 a0_4 a0_5 a0_6 a0_7 a0_8 a0_9 a0_10 a0_11 a0_22 a0_26 a0_29 a0_31 a0_32 a0_34)), (h1, .inl (cA1, n1, .inl f1))])) A) args s 0 0 A) (F0 m 51 ls []) := by
  obtain ⟨hx, hb, hr, hml, hown, ht, hlocks⟩ := id hc
  unfold v_M_colour_51 at hv
  refine lv_iconst (v := (5 : Int32)) hx hb d_M_colour_51 (by decide) ?_
  refine lv_goto (tgt := 139) hx hb d_M_colour_52 (by decide) ?_
  exact b_M_colour_139 hc hA hE  (lv_sub hl [0, 1] rfl) hK hP hD hS hv
set_option maxHeartbeats 4000000 in
set_option maxRecDepth 100000 in
theorem b_M_colour_81 {h0 : Nat} {a0_4 : Nat} {a0_5 : Nat} {a0_6 : Nat} {a0_7 : Nat} {a0_8 : Nat} {a0_9 : Nat} {a0_10 : Nat} {a0_11 : Nat} {a0_22 : Nat} {a0_26 : Nat} {a0_29 : Nat} {a0_31 : Nat} {a0_32 : Nat} {a0_34 : Nat} {h1 : Nat} {cA1 : ClassId} {I0 : Nat → Int32} {J0 : Nat → Int64} {n1 : Nat} {f1 : Nat → Int32} {x1 : Int32}  {Z : Int32 → Unit → Prop} {H : Heap} {locs : List Loc} {ls : Array Slot} (hc : zC p s m args meth c prog_14_method_13_code (some .int) 3 "NumberDressModel") (hA : ∀ q : Nat, s.heap.size ≤ q → A q) (hE : zE gE A s) (hl : lv_has ls 3 [(0, .ref h0), (1, .int x1)]) (hK : va_K (dC, dI) zCl [(cA1, .int)] s) (hP : va_P (dC, dI) zCl [(h0, .inr (12, o_M I0 J0 h1 a0_4 a0_5 a0_6 a0_7 a0_8 a0_9 a0_10 a0_11 a0_22 a0_26 a0_29 a0_31 a0_32 a0_34)), (h1, .inl (cA1, n1, .inl f1))] H) (hD : va_D A [(h0, .inr (12, o_M I0 J0 h1 a0_4 a0_5 a0_6 a0_7 a0_8 a0_9 a0_10 a0_11 a0_22 a0_26 a0_29 a0_31 a0_32 a0_34)), (h1, .inl (cA1, n1, .inl f1))]) (hS : va_S A s.heap H locs) (hv : v_M_colour_81 I0 J0 n1 f1 x1  Z) : W p l e (headSpec (Cond.code (⟨"NumberDressModel", "colour", "(I)I"⟩ : MethodName) prog_14_method_13_code 3 (some .int) :: zT) { frames := 3, cells := 0, slots := 0, locals := 68 }).room s m args below meth c H locs 0 0 (MQ below (va_Qi Z (zB (dC, dI) zCl [(cA1, .int)] A (fun u : Unit => [(h0, .inr (12, o_M I0 J0 h1 a0_4 a0_5 a0_6 a0_7 a0_8 a0_9 a0_10 a0_11 a0_22 a0_26 a0_29 a0_31 a0_32 a0_34)), (h1, .inl (cA1, n1, .inl f1))])) A) args s 0 0 A) (F0 m 81 ls []) := by
  obtain ⟨hx, hb, hr, hml, hown, ht, hlocks⟩ := id hc
  unfold v_M_colour_81 at hv
  refine lv_iconst (v := (4 : Int32)) hx hb d_M_colour_81 (by decide) ?_
  refine lv_goto (tgt := 139) hx hb d_M_colour_82 (by decide) ?_
  exact b_M_colour_139 hc hA hE  (lv_sub hl [0, 1] rfl) hK hP hD hS hv
set_option maxHeartbeats 4000000 in
set_option maxRecDepth 100000 in
theorem b_M_colour_130 {h0 : Nat} {a0_4 : Nat} {a0_5 : Nat} {a0_6 : Nat} {a0_7 : Nat} {a0_8 : Nat} {a0_9 : Nat} {a0_10 : Nat} {a0_11 : Nat} {a0_22 : Nat} {a0_26 : Nat} {a0_29 : Nat} {a0_31 : Nat} {a0_32 : Nat} {a0_34 : Nat} {h1 : Nat} {cA1 : ClassId} {I0 : Nat → Int32} {J0 : Nat → Int64} {n1 : Nat} {f1 : Nat → Int32} {x1 : Int32} {s0 : Int32}  {Z : Int32 → Unit → Prop} {H : Heap} {locs : List Loc} {ls : Array Slot} (hc : zC p s m args meth c prog_14_method_13_code (some .int) 3 "NumberDressModel") (hA : ∀ q : Nat, s.heap.size ≤ q → A q) (hE : zE gE A s) (hl : lv_has ls 3 [(0, .ref h0), (1, .int x1)]) (hK : va_K (dC, dI) zCl [(cA1, .int)] s) (hP : va_P (dC, dI) zCl [(h0, .inr (12, o_M I0 J0 h1 a0_4 a0_5 a0_6 a0_7 a0_8 a0_9 a0_10 a0_11 a0_22 a0_26 a0_29 a0_31 a0_32 a0_34)), (h1, .inl (cA1, n1, .inl f1))] H) (hD : va_D A [(h0, .inr (12, o_M I0 J0 h1 a0_4 a0_5 a0_6 a0_7 a0_8 a0_9 a0_10 a0_11 a0_22 a0_26 a0_29 a0_31 a0_32 a0_34)), (h1, .inl (cA1, n1, .inl f1))]) (hS : va_S A s.heap H locs) (hv : v_M_colour_130 I0 J0 n1 f1 x1 s0  Z) : W p l e (headSpec (Cond.code (⟨"NumberDressModel", "colour", "(I)I"⟩ : MethodName) prog_14_method_13_code 3 (some .int) :: zT) { frames := 3, cells := 0, slots := 0, locals := 68 }).room s m args below meth c H locs 0 0 (MQ below (va_Qi Z (zB (dC, dI) zCl [(cA1, .int)] A (fun u : Unit => [(h0, .inr (12, o_M I0 J0 h1 a0_4 a0_5 a0_6 a0_7 a0_8 a0_9 a0_10 a0_11 a0_22 a0_26 a0_29 a0_31 a0_32 a0_34)), (h1, .inl (cA1, n1, .inl f1))])) A) args s 0 0 A) (F0 m 130 ls [.int s0]) := by
  obtain ⟨hx, hb, hr, hml, hown, ht, hlocks⟩ := id hc
  unfold v_M_colour_130 at hv
  refine lv_if_eq (tgt := 138) hx hb d_M_colour_130 (by decide) (fun c_1 => ?_) (fun c_1 => ?_)
  · have hv := hv.1 c_1
    refine lv_iconst (v := (0 : Int32)) hx hb d_M_colour_138 (by decide) ?_
    exact b_M_colour_139 hc hA hE  (lv_sub hl [0, 1] rfl) hK hP hD hS hv
  · have hv := hv.2 c_1
    refine lv_bipush (v := (7 : Int32)) hx hb d_M_colour_133 (by decide) ?_
    refine lv_goto (tgt := 139) hx hb d_M_colour_135 (by decide) ?_
    exact b_M_colour_139 hc hA hE  (lv_sub hl [0, 1] rfl) hK hP hD hS hv
set_option maxHeartbeats 4000000 in
set_option maxRecDepth 100000 in
theorem b_M_colour_112 {h0 : Nat} {a0_4 : Nat} {a0_5 : Nat} {a0_6 : Nat} {a0_7 : Nat} {a0_8 : Nat} {a0_9 : Nat} {a0_10 : Nat} {a0_11 : Nat} {a0_22 : Nat} {a0_26 : Nat} {a0_29 : Nat} {a0_31 : Nat} {a0_32 : Nat} {a0_34 : Nat} {h1 : Nat} {cA1 : ClassId} {I0 : Nat → Int32} {J0 : Nat → Int64} {n1 : Nat} {f1 : Nat → Int32} {x1 : Int32} {s0 : Int32}  {Z : Int32 → Unit → Prop} {H : Heap} {locs : List Loc} {ls : Array Slot} (hc : zC p s m args meth c prog_14_method_13_code (some .int) 3 "NumberDressModel") (hA : ∀ q : Nat, s.heap.size ≤ q → A q) (hE : zE gE A s) (hl : lv_has ls 3 [(0, .ref h0), (1, .int x1)]) (hK : va_K (dC, dI) zCl [(cA1, .int)] s) (hP : va_P (dC, dI) zCl [(h0, .inr (12, o_M I0 J0 h1 a0_4 a0_5 a0_6 a0_7 a0_8 a0_9 a0_10 a0_11 a0_22 a0_26 a0_29 a0_31 a0_32 a0_34)), (h1, .inl (cA1, n1, .inl f1))] H) (hD : va_D A [(h0, .inr (12, o_M I0 J0 h1 a0_4 a0_5 a0_6 a0_7 a0_8 a0_9 a0_10 a0_11 a0_22 a0_26 a0_29 a0_31 a0_32 a0_34)), (h1, .inl (cA1, n1, .inl f1))]) (hS : va_S A s.heap H locs) (hv : v_M_colour_112 I0 J0 n1 f1 x1 s0  Z) : W p l e (headSpec (Cond.code (⟨"NumberDressModel", "colour", "(I)I"⟩ : MethodName) prog_14_method_13_code 3 (some .int) :: zT) { frames := 3, cells := 0, slots := 0, locals := 68 }).room s m args below meth c H locs 0 0 (MQ below (va_Qi Z (zB (dC, dI) zCl [(cA1, .int)] A (fun u : Unit => [(h0, .inr (12, o_M I0 J0 h1 a0_4 a0_5 a0_6 a0_7 a0_8 a0_9 a0_10 a0_11 a0_22 a0_26 a0_29 a0_31 a0_32 a0_34)), (h1, .inl (cA1, n1, .inl f1))])) A) args s 0 0 A) (F0 m 112 ls [.int s0]) := by
  obtain ⟨hx, hb, hr, hml, hown, ht, hlocks⟩ := id hc
  unfold v_M_colour_112 at hv
  refine lv_if_eq (tgt := 120) hx hb d_M_colour_112 (by decide) (fun c_1 => ?_) (fun c_1 => ?_)
  · have hv := hv.1 c_1
    refine lv_aload_n hx hb d_M_colour_120 rfl (lv_at hl 0 rfl) ?_
    refine lv_iload_n hx hb d_M_colour_121 rfl (lv_at hl 1 rfl) ?_
    refine lv_iconst (v := (1 : Int32)) hx hb d_M_colour_122 (by decide) ?_
    refine lv_iadd hx hb d_M_colour_123 ?_
    refine lv_ldc2 (v := (30787869172724833 : Int64)) hx hb hown (ht _ zw_1473) d_M_colour_124 ?_
    refine z_calli (wc := [(h0, .inr (12, o_M I0 J0 h1 a0_4 a0_5 a0_6 a0_7 a0_8 a0_9 a0_10 a0_11 a0_22 a0_26 a0_29 a0_31 a0_32 a0_34)), (h1, .inl (cA1, n1, .inl f1))]) (wr := []) [0, 1] [] (va_runV (As := [.int (x1 + (1 : Int32)), .long (30787869172724833 : Int64)]) (rest := []) ⟨hx, hb, hml, hown, ht⟩ (m_M_stands l dC dI hv) ⟨(callB_of 2 ht (zG_in zi_M_stands) rfl rfl rfl (ht _ zw_122) (ht _ zw_1438) zh_M_stands ⟨Nat.le_of_ble_eq_true rfl, Nat.le_of_ble_eq_true rfl⟩), (ht _ zw_1440), (ht _ zw_66)⟩ ⟨zPc_blind, va_recv hK hP (ci := 12) (q0 := 0) rfl rfl, zPc_pre hP hK hD hS hA hE [0, 1] [0] rfl rfl (by decide) rfl⟩ rfl rfl hl.1 rfl (lv_room (Nat.le_of_ble_eq_true rfl)) d_M_colour_127 ⟨Nat.le_of_ble_eq_true rfl, Nat.le_of_ble_eq_true rfl⟩) hP hD hS hA rfl rfl (by decide) (by decide) (fun r u H locs hv hP hD hS => ?_)
    have hP : va_P (dC, dI) zCl [(h0, .inr (12, o_M I0 J0 h1 a0_4 a0_5 a0_6 a0_7 a0_8 a0_9 a0_10 a0_11 a0_22 a0_26 a0_29 a0_31 a0_32 a0_34)), (h1, .inl (cA1, n1, .inl f1))] H := hP.sub [0, 1] rfl
    have hD : va_D A [(h0, .inr (12, o_M I0 J0 h1 a0_4 a0_5 a0_6 a0_7 a0_8 a0_9 a0_10 a0_11 a0_22 a0_26 a0_29 a0_31 a0_32 a0_34)), (h1, .inl (cA1, n1, .inl f1))] := hD.sub [0, 1] (by decide) rfl
    exact b_M_colour_130 hc hA hE  (lv_sub hl [0, 1] rfl) hK hP hD hS hv
  · have hv := hv.2 c_1
    refine lv_bipush (v := (6 : Int32)) hx hb d_M_colour_115 (by decide) ?_
    refine lv_goto (tgt := 139) hx hb d_M_colour_117 (by decide) ?_
    exact b_M_colour_139 hc hA hE  (lv_sub hl [0, 1] rfl) hK hP hD hS hv
set_option maxHeartbeats 4000000 in
set_option maxRecDepth 100000 in
theorem b_M_colour_95 {h0 : Nat} {a0_4 : Nat} {a0_5 : Nat} {a0_6 : Nat} {a0_7 : Nat} {a0_8 : Nat} {a0_9 : Nat} {a0_10 : Nat} {a0_11 : Nat} {a0_22 : Nat} {a0_26 : Nat} {a0_29 : Nat} {a0_31 : Nat} {a0_32 : Nat} {a0_34 : Nat} {h1 : Nat} {cA1 : ClassId} {I0 : Nat → Int32} {J0 : Nat → Int64} {n1 : Nat} {f1 : Nat → Int32} {x1 : Int32} {s0 : Int32}  {Z : Int32 → Unit → Prop} {H : Heap} {locs : List Loc} {ls : Array Slot} (hc : zC p s m args meth c prog_14_method_13_code (some .int) 3 "NumberDressModel") (hA : ∀ q : Nat, s.heap.size ≤ q → A q) (hE : zE gE A s) (hl : lv_has ls 3 [(0, .ref h0), (1, .int x1)]) (hK : va_K (dC, dI) zCl [(cA1, .int)] s) (hP : va_P (dC, dI) zCl [(h0, .inr (12, o_M I0 J0 h1 a0_4 a0_5 a0_6 a0_7 a0_8 a0_9 a0_10 a0_11 a0_22 a0_26 a0_29 a0_31 a0_32 a0_34)), (h1, .inl (cA1, n1, .inl f1))] H) (hD : va_D A [(h0, .inr (12, o_M I0 J0 h1 a0_4 a0_5 a0_6 a0_7 a0_8 a0_9 a0_10 a0_11 a0_22 a0_26 a0_29 a0_31 a0_32 a0_34)), (h1, .inl (cA1, n1, .inl f1))]) (hS : va_S A s.heap H locs) (hv : v_M_colour_95 I0 J0 n1 f1 x1 s0  Z) : W p l e (headSpec (Cond.code (⟨"NumberDressModel", "colour", "(I)I"⟩ : MethodName) prog_14_method_13_code 3 (some .int) :: zT) { frames := 3, cells := 0, slots := 0, locals := 68 }).room s m args below meth c H locs 0 0 (MQ below (va_Qi Z (zB (dC, dI) zCl [(cA1, .int)] A (fun u : Unit => [(h0, .inr (12, o_M I0 J0 h1 a0_4 a0_5 a0_6 a0_7 a0_8 a0_9 a0_10 a0_11 a0_22 a0_26 a0_29 a0_31 a0_32 a0_34)), (h1, .inl (cA1, n1, .inl f1))])) A) args s 0 0 A) (F0 m 95 ls [.int s0]) := by
  obtain ⟨hx, hb, hr, hml, hown, ht, hlocks⟩ := id hc
  unfold v_M_colour_95 at hv
  refine lv_if_eq (tgt := 102) hx hb d_M_colour_95 (by decide) (fun c_1 => ?_) (fun c_1 => ?_)
  · have hv := hv.1 c_1
    refine lv_aload_n hx hb d_M_colour_102 rfl (lv_at hl 0 rfl) ?_
    refine lv_iload_n hx hb d_M_colour_103 rfl (lv_at hl 1 rfl) ?_
    refine lv_iconst (v := (1 : Int32)) hx hb d_M_colour_104 (by decide) ?_
    refine lv_iadd hx hb d_M_colour_105 ?_
    refine lv_ldc2 (v := (133476517703543 : Int64)) hx hb hown (ht _ zw_1472) d_M_colour_106 ?_
    refine z_calli (wc := [(h0, .inr (12, o_M I0 J0 h1 a0_4 a0_5 a0_6 a0_7 a0_8 a0_9 a0_10 a0_11 a0_22 a0_26 a0_29 a0_31 a0_32 a0_34)), (h1, .inl (cA1, n1, .inl f1))]) (wr := []) [0, 1] [] (va_runV (As := [.int (x1 + (1 : Int32)), .long (133476517703543 : Int64)]) (rest := []) ⟨hx, hb, hml, hown, ht⟩ (m_M_stands l dC dI hv) ⟨(callB_of 2 ht (zG_in zi_M_stands) rfl rfl rfl (ht _ zw_122) (ht _ zw_1438) zh_M_stands ⟨Nat.le_of_ble_eq_true rfl, Nat.le_of_ble_eq_true rfl⟩), (ht _ zw_1440), (ht _ zw_66)⟩ ⟨zPc_blind, va_recv hK hP (ci := 12) (q0 := 0) rfl rfl, zPc_pre hP hK hD hS hA hE [0, 1] [0] rfl rfl (by decide) rfl⟩ rfl rfl hl.1 rfl (lv_room (Nat.le_of_ble_eq_true rfl)) d_M_colour_109 ⟨Nat.le_of_ble_eq_true rfl, Nat.le_of_ble_eq_true rfl⟩) hP hD hS hA rfl rfl (by decide) (by decide) (fun r u H locs hv hP hD hS => ?_)
    have hP : va_P (dC, dI) zCl [(h0, .inr (12, o_M I0 J0 h1 a0_4 a0_5 a0_6 a0_7 a0_8 a0_9 a0_10 a0_11 a0_22 a0_26 a0_29 a0_31 a0_32 a0_34)), (h1, .inl (cA1, n1, .inl f1))] H := hP.sub [0, 1] rfl
    have hD : va_D A [(h0, .inr (12, o_M I0 J0 h1 a0_4 a0_5 a0_6 a0_7 a0_8 a0_9 a0_10 a0_11 a0_22 a0_26 a0_29 a0_31 a0_32 a0_34)), (h1, .inl (cA1, n1, .inl f1))] := hD.sub [0, 1] (by decide) rfl
    exact b_M_colour_112 hc hA hE  (lv_sub hl [0, 1] rfl) hK hP hD hS hv
  · have hv := hv.2 c_1
    refine lv_iconst (v := (3 : Int32)) hx hb d_M_colour_98 (by decide) ?_
    refine lv_goto (tgt := 139) hx hb d_M_colour_99 (by decide) ?_
    exact b_M_colour_139 hc hA hE  (lv_sub hl [0, 1] rfl) hK hP hD hS hv
set_option maxHeartbeats 4000000 in
set_option maxRecDepth 100000 in
theorem b_M_colour_78 {h0 : Nat} {a0_4 : Nat} {a0_5 : Nat} {a0_6 : Nat} {a0_7 : Nat} {a0_8 : Nat} {a0_9 : Nat} {a0_10 : Nat} {a0_11 : Nat} {a0_22 : Nat} {a0_26 : Nat} {a0_29 : Nat} {a0_31 : Nat} {a0_32 : Nat} {a0_34 : Nat} {h1 : Nat} {cA1 : ClassId} {I0 : Nat → Int32} {J0 : Nat → Int64} {n1 : Nat} {f1 : Nat → Int32} {x1 : Int32} {s0 : Int32}  {Z : Int32 → Unit → Prop} {H : Heap} {locs : List Loc} {ls : Array Slot} (hc : zC p s m args meth c prog_14_method_13_code (some .int) 3 "NumberDressModel") (hA : ∀ q : Nat, s.heap.size ≤ q → A q) (hE : zE gE A s) (hl : lv_has ls 3 [(0, .ref h0), (1, .int x1)]) (hK : va_K (dC, dI) zCl [(cA1, .int)] s) (hP : va_P (dC, dI) zCl [(h0, .inr (12, o_M I0 J0 h1 a0_4 a0_5 a0_6 a0_7 a0_8 a0_9 a0_10 a0_11 a0_22 a0_26 a0_29 a0_31 a0_32 a0_34)), (h1, .inl (cA1, n1, .inl f1))] H) (hD : va_D A [(h0, .inr (12, o_M I0 J0 h1 a0_4 a0_5 a0_6 a0_7 a0_8 a0_9 a0_10 a0_11 a0_22 a0_26 a0_29 a0_31 a0_32 a0_34)), (h1, .inl (cA1, n1, .inl f1))]) (hS : va_S A s.heap H locs) (hv : v_M_colour_78 I0 J0 n1 f1 x1 s0  Z) : W p l e (headSpec (Cond.code (⟨"NumberDressModel", "colour", "(I)I"⟩ : MethodName) prog_14_method_13_code 3 (some .int) :: zT) { frames := 3, cells := 0, slots := 0, locals := 68 }).room s m args below meth c H locs 0 0 (MQ below (va_Qi Z (zB (dC, dI) zCl [(cA1, .int)] A (fun u : Unit => [(h0, .inr (12, o_M I0 J0 h1 a0_4 a0_5 a0_6 a0_7 a0_8 a0_9 a0_10 a0_11 a0_22 a0_26 a0_29 a0_31 a0_32 a0_34)), (h1, .inl (cA1, n1, .inl f1))])) A) args s 0 0 A) (F0 m 78 ls [.int s0]) := by
  obtain ⟨hx, hb, hr, hml, hown, ht, hlocks⟩ := id hc
  unfold v_M_colour_78 at hv
  refine lv_if_eq (tgt := 85) hx hb d_M_colour_78 (by decide) (fun c_1 => ?_) (fun c_1 => ?_)
  · have hv := hv.1 c_1
    refine lv_aload_n hx hb d_M_colour_85 rfl (lv_at hl 0 rfl) ?_
    refine lv_iload_n hx hb d_M_colour_86 rfl (lv_at hl 1 rfl) ?_
    refine lv_iconst (v := (1 : Int32)) hx hb d_M_colour_87 (by decide) ?_
    refine lv_iadd hx hb d_M_colour_88 ?_
    refine lv_ldc2 (v := (7497060 : Int64)) hx hb hown (ht _ zw_1471) d_M_colour_89 ?_
    refine z_calli (wc := [(h0, .inr (12, o_M I0 J0 h1 a0_4 a0_5 a0_6 a0_7 a0_8 a0_9 a0_10 a0_11 a0_22 a0_26 a0_29 a0_31 a0_32 a0_34)), (h1, .inl (cA1, n1, .inl f1))]) (wr := []) [0, 1] [] (va_runV (As := [.int (x1 + (1 : Int32)), .long (7497060 : Int64)]) (rest := []) ⟨hx, hb, hml, hown, ht⟩ (m_M_stands l dC dI hv) ⟨(callB_of 2 ht (zG_in zi_M_stands) rfl rfl rfl (ht _ zw_122) (ht _ zw_1438) zh_M_stands ⟨Nat.le_of_ble_eq_true rfl, Nat.le_of_ble_eq_true rfl⟩), (ht _ zw_1440), (ht _ zw_66)⟩ ⟨zPc_blind, va_recv hK hP (ci := 12) (q0 := 0) rfl rfl, zPc_pre hP hK hD hS hA hE [0, 1] [0] rfl rfl (by decide) rfl⟩ rfl rfl hl.1 rfl (lv_room (Nat.le_of_ble_eq_true rfl)) d_M_colour_92 ⟨Nat.le_of_ble_eq_true rfl, Nat.le_of_ble_eq_true rfl⟩) hP hD hS hA rfl rfl (by decide) (by decide) (fun r u H locs hv hP hD hS => ?_)
    have hP : va_P (dC, dI) zCl [(h0, .inr (12, o_M I0 J0 h1 a0_4 a0_5 a0_6 a0_7 a0_8 a0_9 a0_10 a0_11 a0_22 a0_26 a0_29 a0_31 a0_32 a0_34)), (h1, .inl (cA1, n1, .inl f1))] H := hP.sub [0, 1] rfl
    have hD : va_D A [(h0, .inr (12, o_M I0 J0 h1 a0_4 a0_5 a0_6 a0_7 a0_8 a0_9 a0_10 a0_11 a0_22 a0_26 a0_29 a0_31 a0_32 a0_34)), (h1, .inl (cA1, n1, .inl f1))] := hD.sub [0, 1] (by decide) rfl
    exact b_M_colour_95 hc hA hE  (lv_sub hl [0, 1] rfl) hK hP hD hS hv
  · have hv := hv.2 c_1
    exact b_M_colour_81 hc hA hE  (lv_sub hl [0, 1] rfl) hK hP hD hS hv
set_option maxHeartbeats 4000000 in
set_option maxRecDepth 100000 in
theorem b_M_colour_65 {h0 : Nat} {a0_4 : Nat} {a0_5 : Nat} {a0_6 : Nat} {a0_7 : Nat} {a0_8 : Nat} {a0_9 : Nat} {a0_10 : Nat} {a0_11 : Nat} {a0_22 : Nat} {a0_26 : Nat} {a0_29 : Nat} {a0_31 : Nat} {a0_32 : Nat} {a0_34 : Nat} {h1 : Nat} {cA1 : ClassId} {I0 : Nat → Int32} {J0 : Nat → Int64} {n1 : Nat} {f1 : Nat → Int32} {x1 : Int32} {s0 : Int32}  {Z : Int32 → Unit → Prop} {H : Heap} {locs : List Loc} {ls : Array Slot} (hc : zC p s m args meth c prog_14_method_13_code (some .int) 3 "NumberDressModel") (hA : ∀ q : Nat, s.heap.size ≤ q → A q) (hE : zE gE A s) (hl : lv_has ls 3 [(0, .ref h0), (1, .int x1)]) (hK : va_K (dC, dI) zCl [(cA1, .int)] s) (hP : va_P (dC, dI) zCl [(h0, .inr (12, o_M I0 J0 h1 a0_4 a0_5 a0_6 a0_7 a0_8 a0_9 a0_10 a0_11 a0_22 a0_26 a0_29 a0_31 a0_32 a0_34)), (h1, .inl (cA1, n1, .inl f1))] H) (hD : va_D A [(h0, .inr (12, o_M I0 J0 h1 a0_4 a0_5 a0_6 a0_7 a0_8 a0_9 a0_10 a0_11 a0_22 a0_26 a0_29 a0_31 a0_32 a0_34)), (h1, .inl (cA1, n1, .inl f1))]) (hS : va_S A s.heap H locs) (hv : v_M_colour_65 I0 J0 n1 f1 x1 s0  Z) : W p l e (headSpec (Cond.code (⟨"NumberDressModel", "colour", "(I)I"⟩ : MethodName) prog_14_method_13_code 3 (some .int) :: zT) { frames := 3, cells := 0, slots := 0, locals := 68 }).room s m args below meth c H locs 0 0 (MQ below (va_Qi Z (zB (dC, dI) zCl [(cA1, .int)] A (fun u : Unit => [(h0, .inr (12, o_M I0 J0 h1 a0_4 a0_5 a0_6 a0_7 a0_8 a0_9 a0_10 a0_11 a0_22 a0_26 a0_29 a0_31 a0_32 a0_34)), (h1, .inl (cA1, n1, .inl f1))])) A) args s 0 0 A) (F0 m 65 ls [.int s0]) := by
  obtain ⟨hx, hb, hr, hml, hown, ht, hlocks⟩ := id hc
  unfold v_M_colour_65 at hv
  refine lv_if_ne (tgt := 81) hx hb d_M_colour_65 (by decide) (fun c_1 => ?_) (fun c_1 => ?_)
  · have hv := hv.1 c_1
    exact b_M_colour_81 hc hA hE  (lv_sub hl [0, 1] rfl) hK hP hD hS hv
  · have hv := hv.2 c_1
    refine lv_aload_n hx hb d_M_colour_68 rfl (lv_at hl 0 rfl) ?_
    refine lv_iload_n hx hb d_M_colour_69 rfl (lv_at hl 1 rfl) ?_
    refine lv_iconst (v := (1 : Int32)) hx hb d_M_colour_70 (by decide) ?_
    refine lv_iadd hx hb d_M_colour_71 ?_
    refine lv_ldc2 (v := (1668899182 : Int64)) hx hb hown (ht _ zw_1470) d_M_colour_72 ?_
    refine z_calli (wc := [(h0, .inr (12, o_M I0 J0 h1 a0_4 a0_5 a0_6 a0_7 a0_8 a0_9 a0_10 a0_11 a0_22 a0_26 a0_29 a0_31 a0_32 a0_34)), (h1, .inl (cA1, n1, .inl f1))]) (wr := []) [0, 1] [] (va_runV (As := [.int (x1 + (1 : Int32)), .long (1668899182 : Int64)]) (rest := []) ⟨hx, hb, hml, hown, ht⟩ (m_M_stands l dC dI hv) ⟨(callB_of 2 ht (zG_in zi_M_stands) rfl rfl rfl (ht _ zw_122) (ht _ zw_1438) zh_M_stands ⟨Nat.le_of_ble_eq_true rfl, Nat.le_of_ble_eq_true rfl⟩), (ht _ zw_1440), (ht _ zw_66)⟩ ⟨zPc_blind, va_recv hK hP (ci := 12) (q0 := 0) rfl rfl, zPc_pre hP hK hD hS hA hE [0, 1] [0] rfl rfl (by decide) rfl⟩ rfl rfl hl.1 rfl (lv_room (Nat.le_of_ble_eq_true rfl)) d_M_colour_75 ⟨Nat.le_of_ble_eq_true rfl, Nat.le_of_ble_eq_true rfl⟩) hP hD hS hA rfl rfl (by decide) (by decide) (fun r u H locs hv hP hD hS => ?_)
    have hP : va_P (dC, dI) zCl [(h0, .inr (12, o_M I0 J0 h1 a0_4 a0_5 a0_6 a0_7 a0_8 a0_9 a0_10 a0_11 a0_22 a0_26 a0_29 a0_31 a0_32 a0_34)), (h1, .inl (cA1, n1, .inl f1))] H := hP.sub [0, 1] rfl
    have hD : va_D A [(h0, .inr (12, o_M I0 J0 h1 a0_4 a0_5 a0_6 a0_7 a0_8 a0_9 a0_10 a0_11 a0_22 a0_26 a0_29 a0_31 a0_32 a0_34)), (h1, .inl (cA1, n1, .inl f1))] := hD.sub [0, 1] (by decide) rfl
    exact b_M_colour_78 hc hA hE  (lv_sub hl [0, 1] rfl) hK hP hD hS hv
set_option maxHeartbeats 4000000 in
set_option maxRecDepth 100000 in
theorem b_M_colour_48 {h0 : Nat} {a0_4 : Nat} {a0_5 : Nat} {a0_6 : Nat} {a0_7 : Nat} {a0_8 : Nat} {a0_9 : Nat} {a0_10 : Nat} {a0_11 : Nat} {a0_22 : Nat} {a0_26 : Nat} {a0_29 : Nat} {a0_31 : Nat} {a0_32 : Nat} {a0_34 : Nat} {h1 : Nat} {cA1 : ClassId} {I0 : Nat → Int32} {J0 : Nat → Int64} {n1 : Nat} {f1 : Nat → Int32} {x1 : Int32} {s0 : Int32}  {Z : Int32 → Unit → Prop} {H : Heap} {locs : List Loc} {ls : Array Slot} (hc : zC p s m args meth c prog_14_method_13_code (some .int) 3 "NumberDressModel") (hA : ∀ q : Nat, s.heap.size ≤ q → A q) (hE : zE gE A s) (hl : lv_has ls 3 [(0, .ref h0), (1, .int x1)]) (hK : va_K (dC, dI) zCl [(cA1, .int)] s) (hP : va_P (dC, dI) zCl [(h0, .inr (12, o_M I0 J0 h1 a0_4 a0_5 a0_6 a0_7 a0_8 a0_9 a0_10 a0_11 a0_22 a0_26 a0_29 a0_31 a0_32 a0_34)), (h1, .inl (cA1, n1, .inl f1))] H) (hD : va_D A [(h0, .inr (12, o_M I0 J0 h1 a0_4 a0_5 a0_6 a0_7 a0_8 a0_9 a0_10 a0_11 a0_22 a0_26 a0_29 a0_31 a0_32 a0_34)), (h1, .inl (cA1, n1, .inl f1))]) (hS : va_S A s.heap H locs) (hv : v_M_colour_48 I0 J0 n1 f1 x1 s0  Z) : W p l e (headSpec (Cond.code (⟨"NumberDressModel", "colour", "(I)I"⟩ : MethodName) prog_14_method_13_code 3 (some .int) :: zT) { frames := 3, cells := 0, slots := 0, locals := 68 }).room s m args below meth c H locs 0 0 (MQ below (va_Qi Z (zB (dC, dI) zCl [(cA1, .int)] A (fun u : Unit => [(h0, .inr (12, o_M I0 J0 h1 a0_4 a0_5 a0_6 a0_7 a0_8 a0_9 a0_10 a0_11 a0_22 a0_26 a0_29 a0_31 a0_32 a0_34)), (h1, .inl (cA1, n1, .inl f1))])) A) args s 0 0 A) (F0 m 48 ls [.int s0]) := by
  obtain ⟨hx, hb, hr, hml, hown, ht, hlocks⟩ := id hc
  unfold v_M_colour_48 at hv
  refine lv_if_eq (tgt := 55) hx hb d_M_colour_48 (by decide) (fun c_1 => ?_) (fun c_1 => ?_)
  · have hv := hv.1 c_1
    refine lv_aload_n hx hb d_M_colour_55 rfl (lv_at hl 0 rfl) ?_
    refine lv_iload_n hx hb d_M_colour_56 rfl (lv_at hl 1 rfl) ?_
    refine lv_iconst (v := (1 : Int32)) hx hb d_M_colour_57 (by decide) ?_
    refine lv_iadd hx hb d_M_colour_58 ?_
    refine lv_ldc2 (v := (1651275109 : Int64)) hx hb hown (ht _ zw_1469) d_M_colour_59 ?_
    refine z_calli (wc := [(h0, .inr (12, o_M I0 J0 h1 a0_4 a0_5 a0_6 a0_7 a0_8 a0_9 a0_10 a0_11 a0_22 a0_26 a0_29 a0_31 a0_32 a0_34)), (h1, .inl (cA1, n1, .inl f1))]) (wr := []) [0, 1] [] (va_runV (As := [.int (x1 + (1 : Int32)), .long (1651275109 : Int64)]) (rest := []) ⟨hx, hb, hml, hown, ht⟩ (m_M_stands l dC dI hv) ⟨(callB_of 2 ht (zG_in zi_M_stands) rfl rfl rfl (ht _ zw_122) (ht _ zw_1438) zh_M_stands ⟨Nat.le_of_ble_eq_true rfl, Nat.le_of_ble_eq_true rfl⟩), (ht _ zw_1440), (ht _ zw_66)⟩ ⟨zPc_blind, va_recv hK hP (ci := 12) (q0 := 0) rfl rfl, zPc_pre hP hK hD hS hA hE [0, 1] [0] rfl rfl (by decide) rfl⟩ rfl rfl hl.1 rfl (lv_room (Nat.le_of_ble_eq_true rfl)) d_M_colour_62 ⟨Nat.le_of_ble_eq_true rfl, Nat.le_of_ble_eq_true rfl⟩) hP hD hS hA rfl rfl (by decide) (by decide) (fun r u H locs hv hP hD hS => ?_)
    have hP : va_P (dC, dI) zCl [(h0, .inr (12, o_M I0 J0 h1 a0_4 a0_5 a0_6 a0_7 a0_8 a0_9 a0_10 a0_11 a0_22 a0_26 a0_29 a0_31 a0_32 a0_34)), (h1, .inl (cA1, n1, .inl f1))] H := hP.sub [0, 1] rfl
    have hD : va_D A [(h0, .inr (12, o_M I0 J0 h1 a0_4 a0_5 a0_6 a0_7 a0_8 a0_9 a0_10 a0_11 a0_22 a0_26 a0_29 a0_31 a0_32 a0_34)), (h1, .inl (cA1, n1, .inl f1))] := hD.sub [0, 1] (by decide) rfl
    exact b_M_colour_65 hc hA hE  (lv_sub hl [0, 1] rfl) hK hP hD hS hv
  · have hv := hv.2 c_1
    exact b_M_colour_51 hc hA hE  (lv_sub hl [0, 1] rfl) hK hP hD hS hv
set_option maxHeartbeats 4000000 in
set_option maxRecDepth 100000 in
theorem b_M_colour_35 {h0 : Nat} {a0_4 : Nat} {a0_5 : Nat} {a0_6 : Nat} {a0_7 : Nat} {a0_8 : Nat} {a0_9 : Nat} {a0_10 : Nat} {a0_11 : Nat} {a0_22 : Nat} {a0_26 : Nat} {a0_29 : Nat} {a0_31 : Nat} {a0_32 : Nat} {a0_34 : Nat} {h1 : Nat} {cA1 : ClassId} {I0 : Nat → Int32} {J0 : Nat → Int64} {n1 : Nat} {f1 : Nat → Int32} {x1 : Int32} {s0 : Int32}  {Z : Int32 → Unit → Prop} {H : Heap} {locs : List Loc} {ls : Array Slot} (hc : zC p s m args meth c prog_14_method_13_code (some .int) 3 "NumberDressModel") (hA : ∀ q : Nat, s.heap.size ≤ q → A q) (hE : zE gE A s) (hl : lv_has ls 3 [(0, .ref h0), (1, .int x1)]) (hK : va_K (dC, dI) zCl [(cA1, .int)] s) (hP : va_P (dC, dI) zCl [(h0, .inr (12, o_M I0 J0 h1 a0_4 a0_5 a0_6 a0_7 a0_8 a0_9 a0_10 a0_11 a0_22 a0_26 a0_29 a0_31 a0_32 a0_34)), (h1, .inl (cA1, n1, .inl f1))] H) (hD : va_D A [(h0, .inr (12, o_M I0 J0 h1 a0_4 a0_5 a0_6 a0_7 a0_8 a0_9 a0_10 a0_11 a0_22 a0_26 a0_29 a0_31 a0_32 a0_34)), (h1, .inl (cA1, n1, .inl f1))]) (hS : va_S A s.heap H locs) (hv : v_M_colour_35 I0 J0 n1 f1 x1 s0  Z) : W p l e (headSpec (Cond.code (⟨"NumberDressModel", "colour", "(I)I"⟩ : MethodName) prog_14_method_13_code 3 (some .int) :: zT) { frames := 3, cells := 0, slots := 0, locals := 68 }).room s m args below meth c H locs 0 0 (MQ below (va_Qi Z (zB (dC, dI) zCl [(cA1, .int)] A (fun u : Unit => [(h0, .inr (12, o_M I0 J0 h1 a0_4 a0_5 a0_6 a0_7 a0_8 a0_9 a0_10 a0_11 a0_22 a0_26 a0_29 a0_31 a0_32 a0_34)), (h1, .inl (cA1, n1, .inl f1))])) A) args s 0 0 A) (F0 m 35 ls [.int s0]) := by
  obtain ⟨hx, hb, hr, hml, hown, ht, hlocks⟩ := id hc
  unfold v_M_colour_35 at hv
  refine lv_if_ne (tgt := 51) hx hb d_M_colour_35 (by decide) (fun c_1 => ?_) (fun c_1 => ?_)
  · have hv := hv.1 c_1
    exact b_M_colour_51 hc hA hE  (lv_sub hl [0, 1] rfl) hK hP hD hS hv
  · have hv := hv.2 c_1
    refine lv_aload_n hx hb d_M_colour_38 rfl (lv_at hl 0 rfl) ?_
    refine lv_iload_n hx hb d_M_colour_39 rfl (lv_at hl 1 rfl) ?_
    refine lv_iconst (v := (1 : Int32)) hx hb d_M_colour_40 (by decide) ?_
    refine lv_iadd hx hb d_M_colour_41 ?_
    refine lv_ldc2 (v := (512852849765 : Int64)) hx hb hown (ht _ zw_1468) d_M_colour_42 ?_
    refine z_calli (wc := [(h0, .inr (12, o_M I0 J0 h1 a0_4 a0_5 a0_6 a0_7 a0_8 a0_9 a0_10 a0_11 a0_22 a0_26 a0_29 a0_31 a0_32 a0_34)), (h1, .inl (cA1, n1, .inl f1))]) (wr := []) [0, 1] [] (va_runV (As := [.int (x1 + (1 : Int32)), .long (512852849765 : Int64)]) (rest := []) ⟨hx, hb, hml, hown, ht⟩ (m_M_stands l dC dI hv) ⟨(callB_of 2 ht (zG_in zi_M_stands) rfl rfl rfl (ht _ zw_122) (ht _ zw_1438) zh_M_stands ⟨Nat.le_of_ble_eq_true rfl, Nat.le_of_ble_eq_true rfl⟩), (ht _ zw_1440), (ht _ zw_66)⟩ ⟨zPc_blind, va_recv hK hP (ci := 12) (q0 := 0) rfl rfl, zPc_pre hP hK hD hS hA hE [0, 1] [0] rfl rfl (by decide) rfl⟩ rfl rfl hl.1 rfl (lv_room (Nat.le_of_ble_eq_true rfl)) d_M_colour_45 ⟨Nat.le_of_ble_eq_true rfl, Nat.le_of_ble_eq_true rfl⟩) hP hD hS hA rfl rfl (by decide) (by decide) (fun r u H locs hv hP hD hS => ?_)
    have hP : va_P (dC, dI) zCl [(h0, .inr (12, o_M I0 J0 h1 a0_4 a0_5 a0_6 a0_7 a0_8 a0_9 a0_10 a0_11 a0_22 a0_26 a0_29 a0_31 a0_32 a0_34)), (h1, .inl (cA1, n1, .inl f1))] H := hP.sub [0, 1] rfl
    have hD : va_D A [(h0, .inr (12, o_M I0 J0 h1 a0_4 a0_5 a0_6 a0_7 a0_8 a0_9 a0_10 a0_11 a0_22 a0_26 a0_29 a0_31 a0_32 a0_34)), (h1, .inl (cA1, n1, .inl f1))] := hD.sub [0, 1] (by decide) rfl
    exact b_M_colour_48 hc hA hE  (lv_sub hl [0, 1] rfl) hK hP hD hS hv
set_option maxHeartbeats 4000000 in
set_option maxRecDepth 100000 in
theorem b_M_colour_22 {h0 : Nat} {a0_4 : Nat} {a0_5 : Nat} {a0_6 : Nat} {a0_7 : Nat} {a0_8 : Nat} {a0_9 : Nat} {a0_10 : Nat} {a0_11 : Nat} {a0_22 : Nat} {a0_26 : Nat} {a0_29 : Nat} {a0_31 : Nat} {a0_32 : Nat} {a0_34 : Nat} {h1 : Nat} {cA1 : ClassId} {I0 : Nat → Int32} {J0 : Nat → Int64} {n1 : Nat} {f1 : Nat → Int32} {x1 : Int32} {s0 : Int32}  {Z : Int32 → Unit → Prop} {H : Heap} {locs : List Loc} {ls : Array Slot} (hc : zC p s m args meth c prog_14_method_13_code (some .int) 3 "NumberDressModel") (hA : ∀ q : Nat, s.heap.size ≤ q → A q) (hE : zE gE A s) (hl : lv_has ls 3 [(0, .ref h0), (1, .int x1)]) (hK : va_K (dC, dI) zCl [(cA1, .int)] s) (hP : va_P (dC, dI) zCl [(h0, .inr (12, o_M I0 J0 h1 a0_4 a0_5 a0_6 a0_7 a0_8 a0_9 a0_10 a0_11 a0_22 a0_26 a0_29 a0_31 a0_32 a0_34)), (h1, .inl (cA1, n1, .inl f1))] H) (hD : va_D A [(h0, .inr (12, o_M I0 J0 h1 a0_4 a0_5 a0_6 a0_7 a0_8 a0_9 a0_10 a0_11 a0_22 a0_26 a0_29 a0_31 a0_32 a0_34)), (h1, .inl (cA1, n1, .inl f1))]) (hS : va_S A s.heap H locs) (hv : v_M_colour_22 I0 J0 n1 f1 x1 s0  Z) : W p l e (headSpec (Cond.code (⟨"NumberDressModel", "colour", "(I)I"⟩ : MethodName) prog_14_method_13_code 3 (some .int) :: zT) { frames := 3, cells := 0, slots := 0, locals := 68 }).room s m args below meth c H locs 0 0 (MQ below (va_Qi Z (zB (dC, dI) zCl [(cA1, .int)] A (fun u : Unit => [(h0, .inr (12, o_M I0 J0 h1 a0_4 a0_5 a0_6 a0_7 a0_8 a0_9 a0_10 a0_11 a0_22 a0_26 a0_29 a0_31 a0_32 a0_34)), (h1, .inl (cA1, n1, .inl f1))])) A) args s 0 0 A) (F0 m 22 ls [.int s0]) := by
  obtain ⟨hx, hb, hr, hml, hown, ht, hlocks⟩ := id hc
  unfold v_M_colour_22 at hv
  refine lv_if_ne (tgt := 51) hx hb d_M_colour_22 (by decide) (fun c_1 => ?_) (fun c_1 => ?_)
  · have hv := hv.1 c_1
    exact b_M_colour_51 hc hA hE  (lv_sub hl [0, 1] rfl) hK hP hD hS hv
  · have hv := hv.2 c_1
    refine lv_aload_n hx hb d_M_colour_25 rfl (lv_at hl 0 rfl) ?_
    refine lv_iload_n hx hb d_M_colour_26 rfl (lv_at hl 1 rfl) ?_
    refine lv_iconst (v := (1 : Int32)) hx hb d_M_colour_27 (by decide) ?_
    refine lv_iadd hx hb d_M_colour_28 ?_
    refine lv_ldc2 (v := (444300879214 : Int64)) hx hb hown (ht _ zw_1467) d_M_colour_29 ?_
    refine z_calli (wc := [(h0, .inr (12, o_M I0 J0 h1 a0_4 a0_5 a0_6 a0_7 a0_8 a0_9 a0_10 a0_11 a0_22 a0_26 a0_29 a0_31 a0_32 a0_34)), (h1, .inl (cA1, n1, .inl f1))]) (wr := []) [0, 1] [] (va_runV (As := [.int (x1 + (1 : Int32)), .long (444300879214 : Int64)]) (rest := []) ⟨hx, hb, hml, hown, ht⟩ (m_M_stands l dC dI hv) ⟨(callB_of 2 ht (zG_in zi_M_stands) rfl rfl rfl (ht _ zw_122) (ht _ zw_1438) zh_M_stands ⟨Nat.le_of_ble_eq_true rfl, Nat.le_of_ble_eq_true rfl⟩), (ht _ zw_1440), (ht _ zw_66)⟩ ⟨zPc_blind, va_recv hK hP (ci := 12) (q0 := 0) rfl rfl, zPc_pre hP hK hD hS hA hE [0, 1] [0] rfl rfl (by decide) rfl⟩ rfl rfl hl.1 rfl (lv_room (Nat.le_of_ble_eq_true rfl)) d_M_colour_32 ⟨Nat.le_of_ble_eq_true rfl, Nat.le_of_ble_eq_true rfl⟩) hP hD hS hA rfl rfl (by decide) (by decide) (fun r u H locs hv hP hD hS => ?_)
    have hP : va_P (dC, dI) zCl [(h0, .inr (12, o_M I0 J0 h1 a0_4 a0_5 a0_6 a0_7 a0_8 a0_9 a0_10 a0_11 a0_22 a0_26 a0_29 a0_31 a0_32 a0_34)), (h1, .inl (cA1, n1, .inl f1))] H := hP.sub [0, 1] rfl
    have hD : va_D A [(h0, .inr (12, o_M I0 J0 h1 a0_4 a0_5 a0_6 a0_7 a0_8 a0_9 a0_10 a0_11 a0_22 a0_26 a0_29 a0_31 a0_32 a0_34)), (h1, .inl (cA1, n1, .inl f1))] := hD.sub [0, 1] (by decide) rfl
    exact b_M_colour_35 hc hA hE  (lv_sub hl [0, 1] rfl) hK hP hD hS hv
set_option maxHeartbeats 4000000 in
set_option maxRecDepth 100000 in
theorem b_M_colour_5 {h0 : Nat} {a0_4 : Nat} {a0_5 : Nat} {a0_6 : Nat} {a0_7 : Nat} {a0_8 : Nat} {a0_9 : Nat} {a0_10 : Nat} {a0_11 : Nat} {a0_22 : Nat} {a0_26 : Nat} {a0_29 : Nat} {a0_31 : Nat} {a0_32 : Nat} {a0_34 : Nat} {h1 : Nat} {cA1 : ClassId} {I0 : Nat → Int32} {J0 : Nat → Int64} {n1 : Nat} {f1 : Nat → Int32} {x1 : Int32} {s0 : Int32}  {Z : Int32 → Unit → Prop} {H : Heap} {locs : List Loc} {ls : Array Slot} (hc : zC p s m args meth c prog_14_method_13_code (some .int) 3 "NumberDressModel") (hA : ∀ q : Nat, s.heap.size ≤ q → A q) (hE : zE gE A s) (hl : lv_has ls 3 [(0, .ref h0), (1, .int x1)]) (hK : va_K (dC, dI) zCl [(cA1, .int)] s) (hP : va_P (dC, dI) zCl [(h0, .inr (12, o_M I0 J0 h1 a0_4 a0_5 a0_6 a0_7 a0_8 a0_9 a0_10 a0_11 a0_22 a0_26 a0_29 a0_31 a0_32 a0_34)), (h1, .inl (cA1, n1, .inl f1))] H) (hD : va_D A [(h0, .inr (12, o_M I0 J0 h1 a0_4 a0_5 a0_6 a0_7 a0_8 a0_9 a0_10 a0_11 a0_22 a0_26 a0_29 a0_31 a0_32 a0_34)), (h1, .inl (cA1, n1, .inl f1))]) (hS : va_S A s.heap H locs) (hv : v_M_colour_5 I0 J0 n1 f1 x1 s0  Z) : W p l e (headSpec (Cond.code (⟨"NumberDressModel", "colour", "(I)I"⟩ : MethodName) prog_14_method_13_code 3 (some .int) :: zT) { frames := 3, cells := 0, slots := 0, locals := 68 }).room s m args below meth c H locs 0 0 (MQ below (va_Qi Z (zB (dC, dI) zCl [(cA1, .int)] A (fun u : Unit => [(h0, .inr (12, o_M I0 J0 h1 a0_4 a0_5 a0_6 a0_7 a0_8 a0_9 a0_10 a0_11 a0_22 a0_26 a0_29 a0_31 a0_32 a0_34)), (h1, .inl (cA1, n1, .inl f1))])) A) args s 0 0 A) (F0 m 5 ls [.int s0]) := by
  obtain ⟨hx, hb, hr, hml, hown, ht, hlocks⟩ := id hc
  unfold v_M_colour_5 at hv
  refine lv_bipush (v := (91 : Int32)) hx hb d_M_colour_5 (by decide) ?_
  refine lv_icmp_eq (tgt := 12) hx hb d_M_colour_7 (by decide) (fun c_1 => ?_) (fun c_1 => ?_)
  · have hv := hv.1 c_1
    refine lv_aload_n hx hb d_M_colour_12 rfl (lv_at hl 0 rfl) ?_
    refine lv_iload_n hx hb d_M_colour_13 rfl (lv_at hl 1 rfl) ?_
    refine lv_iconst (v := (1 : Int32)) hx hb d_M_colour_14 (by decide) ?_
    refine lv_iadd hx hb d_M_colour_15 ?_
    refine lv_ldc2 (v := (422725116779 : Int64)) hx hb hown (ht _ zw_1466) d_M_colour_16 ?_
    refine z_calli (wc := [(h0, .inr (12, o_M I0 J0 h1 a0_4 a0_5 a0_6 a0_7 a0_8 a0_9 a0_10 a0_11 a0_22 a0_26 a0_29 a0_31 a0_32 a0_34)), (h1, .inl (cA1, n1, .inl f1))]) (wr := []) [0, 1] [] (va_runV (As := [.int (x1 + (1 : Int32)), .long (422725116779 : Int64)]) (rest := []) ⟨hx, hb, hml, hown, ht⟩ (m_M_stands l dC dI hv) ⟨(callB_of 2 ht (zG_in zi_M_stands) rfl rfl rfl (ht _ zw_122) (ht _ zw_1438) zh_M_stands ⟨Nat.le_of_ble_eq_true rfl, Nat.le_of_ble_eq_true rfl⟩), (ht _ zw_1440), (ht _ zw_66)⟩ ⟨zPc_blind, va_recv hK hP (ci := 12) (q0 := 0) rfl rfl, zPc_pre hP hK hD hS hA hE [0, 1] [0] rfl rfl (by decide) rfl⟩ rfl rfl hl.1 rfl (lv_room (Nat.le_of_ble_eq_true rfl)) d_M_colour_19 ⟨Nat.le_of_ble_eq_true rfl, Nat.le_of_ble_eq_true rfl⟩) hP hD hS hA rfl rfl (by decide) (by decide) (fun r u H locs hv hP hD hS => ?_)
    have hP : va_P (dC, dI) zCl [(h0, .inr (12, o_M I0 J0 h1 a0_4 a0_5 a0_6 a0_7 a0_8 a0_9 a0_10 a0_11 a0_22 a0_26 a0_29 a0_31 a0_32 a0_34)), (h1, .inl (cA1, n1, .inl f1))] H := hP.sub [0, 1] rfl
    have hD : va_D A [(h0, .inr (12, o_M I0 J0 h1 a0_4 a0_5 a0_6 a0_7 a0_8 a0_9 a0_10 a0_11 a0_22 a0_26 a0_29 a0_31 a0_32 a0_34)), (h1, .inl (cA1, n1, .inl f1))] := hD.sub [0, 1] (by decide) rfl
    exact b_M_colour_22 hc hA hE  (lv_sub hl [0, 1] rfl) hK hP hD hS hv
  · have hv := hv.2 c_1
    refine lv_iconst (v := (0 : Int32)) hx hb d_M_colour_10 (by decide) ?_
    exact W.iret (v := (0 : Int32)) hx hb hr (fun t ht hW => ⟨⟨_, (), rfl, hv, ⟨by rw [ht]; exact hP, va_K.moved hW.alike hK, hD⟩⟩, hS.F ht⟩) hS.2.2 d_M_colour_11
set_option maxHeartbeats 4000000 in
set_option maxRecDepth 100000 in
theorem b_M_colour_0 {h0 : Nat} {a0_4 : Nat} {a0_5 : Nat} {a0_6 : Nat} {a0_7 : Nat} {a0_8 : Nat} {a0_9 : Nat} {a0_10 : Nat} {a0_11 : Nat} {a0_22 : Nat} {a0_26 : Nat} {a0_29 : Nat} {a0_31 : Nat} {a0_32 : Nat} {a0_34 : Nat} {h1 : Nat} {cA1 : ClassId} {I0 : Nat → Int32} {J0 : Nat → Int64} {n1 : Nat} {f1 : Nat → Int32} {x1 : Int32}  {Z : Int32 → Unit → Prop} {H : Heap} {locs : List Loc} {ls : Array Slot} (hc : zC p s m args meth c prog_14_method_13_code (some .int) 3 "NumberDressModel") (hA : ∀ q : Nat, s.heap.size ≤ q → A q) (hE : zE gE A s) (hl : lv_has ls 3 [(0, .ref h0), (1, .int x1)]) (hK : va_K (dC, dI) zCl [(cA1, .int)] s) (hP : va_P (dC, dI) zCl [(h0, .inr (12, o_M I0 J0 h1 a0_4 a0_5 a0_6 a0_7 a0_8 a0_9 a0_10 a0_11 a0_22 a0_26 a0_29 a0_31 a0_32 a0_34)), (h1, .inl (cA1, n1, .inl f1))] H) (hD : va_D A [(h0, .inr (12, o_M I0 J0 h1 a0_4 a0_5 a0_6 a0_7 a0_8 a0_9 a0_10 a0_11 a0_22 a0_26 a0_29 a0_31 a0_32 a0_34)), (h1, .inl (cA1, n1, .inl f1))]) (hS : va_S A s.heap H locs) (hv : v_M_colour_0 I0 J0 n1 f1 x1  Z) : W p l e (headSpec (Cond.code (⟨"NumberDressModel", "colour", "(I)I"⟩ : MethodName) prog_14_method_13_code 3 (some .int) :: zT) { frames := 3, cells := 0, slots := 0, locals := 68 }).room s m args below meth c H locs 0 0 (MQ below (va_Qi Z (zB (dC, dI) zCl [(cA1, .int)] A (fun u : Unit => [(h0, .inr (12, o_M I0 J0 h1 a0_4 a0_5 a0_6 a0_7 a0_8 a0_9 a0_10 a0_11 a0_22 a0_26 a0_29 a0_31 a0_32 a0_34)), (h1, .inl (cA1, n1, .inl f1))])) A) args s 0 0 A) (F0 m 0 ls []) := by
  obtain ⟨hx, hb, hr, hml, hown, ht, hlocks⟩ := id hc
  unfold v_M_colour_0 at hv
  refine lv_aload_n hx hb d_M_colour_0 rfl (lv_at hl 0 rfl) ?_
  refine lv_iload_n hx hb d_M_colour_1 rfl (lv_at hl 1 rfl) ?_
  refine z_calli (wc := [(h0, .inr (12, o_M I0 J0 h1 a0_4 a0_5 a0_6 a0_7 a0_8 a0_9 a0_10 a0_11 a0_22 a0_26 a0_29 a0_31 a0_32 a0_34)), (h1, .inl (cA1, n1, .inl f1))]) (wr := []) [0, 1] [] (va_runV (As := [.int x1]) (rest := []) ⟨hx, hb, hml, hown, ht⟩ (m_M_ch l dC dI hv) ⟨(callB_of 1 ht (zG_in zi_M_ch) rfl rfl rfl (ht _ zw_122) (ht _ zw_1425) zh_M_ch ⟨Nat.le_of_ble_eq_true rfl, Nat.le_of_ble_eq_true rfl⟩), (ht _ zw_1427), (ht _ zw_63)⟩ ⟨zPc_blind, va_recv hK hP (ci := 12) (q0 := 0) rfl rfl, zPc_pre hP hK hD hS hA hE [0, 1] [0] rfl rfl (by decide) rfl⟩ rfl rfl hl.1 rfl (lv_room (Nat.le_of_ble_eq_true rfl)) d_M_colour_2 ⟨Nat.le_of_ble_eq_true rfl, Nat.le_of_ble_eq_true rfl⟩) hP hD hS hA rfl rfl (by decide) (by decide) (fun r u H locs hv hP hD hS => ?_)
  have hP : va_P (dC, dI) zCl [(h0, .inr (12, o_M I0 J0 h1 a0_4 a0_5 a0_6 a0_7 a0_8 a0_9 a0_10 a0_11 a0_22 a0_26 a0_29 a0_31 a0_32 a0_34)), (h1, .inl (cA1, n1, .inl f1))] H := hP.sub [0, 1] rfl
  have hD : va_D A [(h0, .inr (12, o_M I0 J0 h1 a0_4 a0_5 a0_6 a0_7 a0_8 a0_9 a0_10 a0_11 a0_22 a0_26 a0_29 a0_31 a0_32 a0_34)), (h1, .inl (cA1, n1, .inl f1))] := hD.sub [0, 1] (by decide) rfl
  exact b_M_colour_5 hc hA hE  (lv_sub hl [0, 1] rfl) hK hP hD hS hv
theorem zi_M_colour : Cond.code (⟨"NumberDressModel", "colour", "(I)I"⟩ : MethodName) prog_14_method_13_code 3 (some .int) ∈ zT := zw_1465
theorem zh_M_colour : (((⟨"NumberDressModel", "colour", "(I)I"⟩ : MethodName)).cls ≠ "java/lang/invoke/MethodHandle" ∧ ((⟨"NumberDressModel", "colour", "(I)I"⟩ : MethodName)).cls ≠ "java/lang/invoke/VarHandle" ∧ (parseMethodDescriptor ((⟨"NumberDressModel", "colour", "(I)I"⟩ : MethodName)).desc).map (fun d => d.parameters.length) = some 1) := by decide +kernel
set_option maxHeartbeats 4000000 in
set_option maxRecDepth 100000 in
theorem m_M_colour (l : Launch) (dC : Nat → ClassId) (dI : Nat → Nat → Nat) {gE : zG} {h0 : Nat} {a0_4 : Nat} {a0_5 : Nat} {a0_6 : Nat} {a0_7 : Nat} {a0_8 : Nat} {a0_9 : Nat} {a0_10 : Nat} {a0_11 : Nat} {a0_22 : Nat} {a0_26 : Nat} {a0_29 : Nat} {a0_31 : Nat} {a0_32 : Nat} {a0_34 : Nat} {h1 : Nat} {cA1 : ClassId} {I0 : Nat → Int32} {J0 : Nat → Int64} {n1 : Nat} {f1 : Nat → Int32} {x1 : Int32} {sz : Nat} {Z : Int32 → Unit → Prop} (hv : v_M_colour_0 I0 J0 n1 f1 x1 Z) : Met l (⟨"NumberDressModel", "colour", "(I)I"⟩ : MethodName) (Cond.code (⟨"NumberDressModel", "colour", "(I)I"⟩ : MethodName) prog_14_method_13_code 3 (some .int) :: zT) { frames := 3, cells := 0, slots := 0, locals := 68 } (zPc gE (dC, dI) zCl [(cA1, .int)] [.ref h0, .int x1] sz [(h0, .inr (12, o_M I0 J0 h1 a0_4 a0_5 a0_6 a0_7 a0_8 a0_9 a0_10 a0_11 a0_22 a0_26 a0_29 a0_31 a0_32 a0_34)), (h1, .inl (cA1, n1, .inl f1))]) (va_Qi Z (zB (dC, dI) zCl [(cA1, .int)] (va_A [(h0, .inr (12, o_M I0 J0 h1 a0_4 a0_5 a0_6 a0_7 a0_8 a0_9 a0_10 a0_11 a0_22 a0_26 a0_29 a0_31 a0_32 a0_34)), (h1, .inl (cA1, n1, .inl f1))] sz) (fun u : Unit => [(h0, .inr (12, o_M I0 J0 h1 a0_4 a0_5 a0_6 a0_7 a0_8 a0_9 a0_10 a0_11 a0_22 a0_26 a0_29 a0_31 a0_32 a0_34)), (h1, .inl (cA1, n1, .inl f1))])) (va_A [(h0, .inr (12, o_M I0 J0 h1 a0_4 a0_5 a0_6 a0_7 a0_8 a0_9 a0_10 a0_11 a0_22 a0_26 a0_29 a0_31 a0_32 a0_34)), (h1, .inl (cA1, n1, .inl f1))] sz)) 0 0 (va_A [(h0, .inr (12, o_M I0 J0 h1 a0_4 a0_5 a0_6 a0_7 a0_8 a0_9 a0_10 a0_11 a0_22 a0_26 a0_29 a0_31 a0_32 a0_34)), (h1, .inl (cA1, n1, .inl f1))] sz) := by
  refine Met.ofW (cc := prog_14_method_13_code) (maxL := 3) (ret := (some .int)) (by decide +kernel) rfl ?_
  intro p e s m args below meth c s₁ B hml hp
  obtain ⟨rfl, hsz, hP, hK, hD0, hE⟩ := hp
  have hts := atoms_spec (ws := (Cond.code (⟨"NumberDressModel", "colour", "(I)I"⟩ : MethodName) prog_14_method_13_code 3 (some .int) :: zT)) B.pre
  have hown : s.vm.findClass "NumberDressModel" = some m.cls := findClass_of_methodNamed B.named
  have hc : zC p s m _ meth c prog_14_method_13_code (some .int) 3 "NumberDressModel" := ⟨B.exec, B.bytes, B.returns, hml, hown, fun w h => hts w (List.mem_cons_of_mem _ h), B.notSynchronized⟩
  subst hsz
  have hD := hD0.self (sz := s.heap.size)
  generalize hAe : va_A [(h0, .inr (12, o_M I0 J0 h1 a0_4 a0_5 a0_6 a0_7 a0_8 a0_9 a0_10 a0_11 a0_22 a0_26 a0_29 a0_31 a0_32 a0_34)), (h1, .inl (cA1, n1, .inl f1))] s.heap.size = A at hD hE ⊢
  have hA : ∀ q : Nat, s.heap.size ≤ q → A q := fun q h => by rw [← hAe]; exact Or.inr h
  have hl := lv_entry ([.ref h0, .int x1]) (n := 3) (Nat.le_of_ble_eq_true rfl)
  rw [lg_entry_eq]
  exact b_M_colour_0 hc hA hE hl hK hP hD va_S.rf hv
theorem d_M_inBrackets_0 : decode prog_14_method_14_code 0 = .ok (.aload_n 0, 1) := by decide +kernel
theorem d_M_inBrackets_1 : decode prog_14_method_14_code 1 = .ok (.iload_n 1, 1) := by decide +kernel
theorem d_M_inBrackets_2 : decode prog_14_method_14_code 2 = .ok (.iconst 1, 1) := by decide +kernel
theorem d_M_inBrackets_3 : decode prog_14_method_14_code 3 = .ok (.iadd, 1) := by decide +kernel
theorem d_M_inBrackets_4 : decode prog_14_method_14_code 4 = .ok (.invokevirtual 94, 3) := by decide +kernel
theorem d_M_inBrackets_7 : decode prog_14_method_14_code 7 = .ok (.istore_n 2, 1) := by decide +kernel
theorem d_M_inBrackets_8 : decode prog_14_method_14_code 8 = .ok (.aload_n 0, 1) := by decide +kernel
theorem d_M_inBrackets_9 : decode prog_14_method_14_code 9 = .ok (.iload_n 1, 1) := by decide +kernel
theorem d_M_inBrackets_10 : decode prog_14_method_14_code 10 = .ok (.invokevirtual 62, 3) := by decide +kernel
theorem d_M_inBrackets_13 : decode prog_14_method_14_code 13 = .ok (.bipush 91, 2) := by decide +kernel
theorem d_M_inBrackets_15 : decode prog_14_method_14_code 15 = .ok (.if_icmp .ne 21, 3) := by decide +kernel
theorem d_M_inBrackets_18 : decode prog_14_method_14_code 18 = .ok (.iload_n 2, 1) := by decide +kernel
theorem d_M_inBrackets_19 : decode prog_14_method_14_code 19 = .ok (.bipush 104, 2) := by decide +kernel
theorem d_M_inBrackets_21 : decode prog_14_method_14_code 21 = .ok (.if_icmp .eq 17, 3) := by decide +kernel
theorem d_M_inBrackets_24 : decode prog_14_method_14_code 24 = .ok (.iload_n 2, 1) := by decide +kernel
theorem d_M_inBrackets_25 : decode prog_14_method_14_code 25 = .ok (.bipush 109, 2) := by decide +kernel
theorem d_M_inBrackets_27 : decode prog_14_method_14_code 27 = .ok (.if_icmp .eq 11, 3) := by decide +kernel
theorem d_M_inBrackets_30 : decode prog_14_method_14_code 30 = .ok (.iload_n 2, 1) := by decide +kernel
theorem d_M_inBrackets_31 : decode prog_14_method_14_code 31 = .ok (.bipush 115, 2) := by decide +kernel
theorem d_M_inBrackets_33 : decode prog_14_method_14_code 33 = .ok (.if_icmp .eq 5, 3) := by decide +kernel
theorem d_M_inBrackets_36 : decode prog_14_method_14_code 36 = .ok (.iconst 0, 1) := by decide +kernel
theorem d_M_inBrackets_37 : decode prog_14_method_14_code 37 = .ok (.ireturn, 1) := by decide +kernel
theorem d_M_inBrackets_38 : decode prog_14_method_14_code 38 = .ok (.iconst 0, 1) := by decide +kernel
theorem d_M_inBrackets_39 : decode prog_14_method_14_code 39 = .ok (.istore_n 3, 1) := by decide +kernel
theorem d_M_inBrackets_40 : decode prog_14_method_14_code 40 = .ok (.aload_n 0, 1) := by decide +kernel
theorem d_M_inBrackets_41 : decode prog_14_method_14_code 41 = .ok (.iload_n 1, 1) := by decide +kernel
theorem d_M_inBrackets_42 : decode prog_14_method_14_code 42 = .ok (.iconst 1, 1) := by decide +kernel
theorem d_M_inBrackets_43 : decode prog_14_method_14_code 43 = .ok (.iadd, 1) := by decide +kernel
theorem d_M_inBrackets_44 : decode prog_14_method_14_code 44 = .ok (.iload_n 3, 1) := by decide +kernel
theorem d_M_inBrackets_45 : decode prog_14_method_14_code 45 = .ok (.iadd, 1) := by decide +kernel
theorem d_M_inBrackets_46 : decode prog_14_method_14_code 46 = .ok (.invokevirtual 94, 3) := by decide +kernel
theorem d_M_inBrackets_49 : decode prog_14_method_14_code 49 = .ok (.iload_n 2, 1) := by decide +kernel
theorem d_M_inBrackets_50 : decode prog_14_method_14_code 50 = .ok (.if_icmp .ne 9, 3) := by decide +kernel
theorem d_M_inBrackets_53 : decode prog_14_method_14_code 53 = .ok (.iinc 3 1, 3) := by decide +kernel
theorem d_M_inBrackets_56 : decode prog_14_method_14_code 56 = .ok (.goto (-16), 3) := by decide +kernel
theorem d_M_inBrackets_59 : decode prog_14_method_14_code 59 = .ok (.aload_n 0, 1) := by decide +kernel
theorem d_M_inBrackets_60 : decode prog_14_method_14_code 60 = .ok (.iload_n 1, 1) := by decide +kernel
theorem d_M_inBrackets_61 : decode prog_14_method_14_code 61 = .ok (.iconst 1, 1) := by decide +kernel
theorem d_M_inBrackets_62 : decode prog_14_method_14_code 62 = .ok (.iadd, 1) := by decide +kernel
theorem d_M_inBrackets_63 : decode prog_14_method_14_code 63 = .ok (.iload_n 3, 1) := by decide +kernel
theorem d_M_inBrackets_64 : decode prog_14_method_14_code 64 = .ok (.iadd, 1) := by decide +kernel
theorem d_M_inBrackets_65 : decode prog_14_method_14_code 65 = .ok (.invokevirtual 62, 3) := by decide +kernel
theorem d_M_inBrackets_68 : decode prog_14_method_14_code 68 = .ok (.bipush 93, 2) := by decide +kernel
theorem d_M_inBrackets_70 : decode prog_14_method_14_code 70 = .ok (.if_icmp .ne 7, 3) := by decide +kernel
theorem d_M_inBrackets_73 : decode prog_14_method_14_code 73 = .ok (.iload_n 3, 1) := by decide +kernel
theorem d_M_inBrackets_74 : decode prog_14_method_14_code 74 = .ok (.goto 4, 3) := by decide +kernel
theorem d_M_inBrackets_77 : decode prog_14_method_14_code 77 = .ok (.iconst 0, 1) := by decide +kernel
theorem d_M_inBrackets_78 : decode prog_14_method_14_code 78 = .ok (.ireturn, 1) := by decide +kernel
set_option maxHeartbeats 4000000 in
set_option maxRecDepth 100000 in
theorem b_M_inBrackets_68 {h0 : Nat} {a0_4 : Nat} {a0_5 : Nat} {a0_6 : Nat} {a0_7 : Nat} {a0_8 : Nat} {a0_9 : Nat} {a0_10 : Nat} {a0_11 : Nat} {a0_22 : Nat} {a0_26 : Nat} {a0_29 : Nat} {a0_31 : Nat} {a0_32 : Nat} {a0_34 : Nat} {h1 : Nat} {cA1 : ClassId} {I0 : Nat → Int32} {J0 : Nat → Int64} {n1 : Nat} {f1 : Nat → Int32} {x3 : Int32} {s0 : Int32}  {Z : Int32 → Unit → Prop} {H : Heap} {locs : List Loc} {ls : Array Slot} (hc : zC p s m args meth c prog_14_method_14_code (some .int) 4 "NumberDressModel") (hA : ∀ q : Nat, s.heap.size ≤ q → A q) (hE : zE gE A s) (hl : lv_has ls 4 [(3, .int x3)]) (hK : va_K (dC, dI) zCl [(cA1, .int)] s) (hP : va_P (dC, dI) zCl [(h0, .inr (12, o_M I0 J0 h1 a0_4 a0_5 a0_6 a0_7 a0_8 a0_9 a0_10 a0_11 a0_22 a0_26 a0_29 a0_31 a0_32 a0_34)), (h1, .inl (cA1, n1, .inl f1))] H) (hD : va_D A [(h0, .inr (12, o_M I0 J0 h1 a0_4 a0_5 a0_6 a0_7 a0_8 a0_9 a0_10 a0_11 a0_22 a0_26 a0_29 a0_31 a0_32 a0_34)), (h1, .inl (cA1, n1, .inl f1))]) (hS : va_S A s.heap H locs) (hv : v_M_inBrackets_68 I0 J0 n1 f1 x3 s0  Z) : W p l e (headSpec (Cond.code (⟨"NumberDressModel", "inBrackets", "(I)I"⟩ : MethodName) prog_14_method_14_code 4 (some .int) :: zT) { frames := 2, cells := 0, slots := 0, locals := 42 }).room s m args below meth c H locs 0 0 (MQ below (va_Qi Z (zB (dC, dI) zCl [(cA1, .int)] A (fun u : Unit => [(h0, .inr (12, o_M I0 J0 h1 a0_4 a0_5 a0_6 a0_7 a0_8 a0_9 a0_10 a0_11 a0_22 a0_26 a0_29 a0_31 a0_32 a0_34)), (h1, .inl (cA1, n1, .inl f1))])) A) args s 0 0 A) (F0 m 68 ls [.int s0]) := by
  obtain ⟨hx, hb, hr, hml, hown, ht, hlocks⟩ := id hc
  unfold v_M_inBrackets_68 at hv
  refine lv_bipush (v := (93 : Int32)) hx hb d_M_inBrackets_68 (by decide) ?_
  refine lv_icmp_ne (tgt := 77) hx hb d_M_inBrackets_70 (by decide) (fun c_1 => ?_) (fun c_1 => ?_)
  · have hv := hv.1 c_1
    refine lv_iconst (v := (0 : Int32)) hx hb d_M_inBrackets_77 (by decide) ?_
    exact W.iret (v := (0 : Int32)) hx hb hr (fun t ht hW => ⟨⟨_, (), rfl, hv, ⟨by rw [ht]; exact hP, va_K.moved hW.alike hK, hD⟩⟩, hS.F ht⟩) hS.2.2 d_M_inBrackets_78
  · have hv := hv.2 c_1
    refine lv_iload_n hx hb d_M_inBrackets_73 rfl (lv_at hl 0 rfl) ?_
    refine lv_goto (tgt := 78) hx hb d_M_inBrackets_74 (by decide) ?_
    exact W.iret (v := x3) hx hb hr (fun t ht hW => ⟨⟨_, (), rfl, hv, ⟨by rw [ht]; exact hP, va_K.moved hW.alike hK, hD⟩⟩, hS.F ht⟩) hS.2.2 d_M_inBrackets_78
set_option maxHeartbeats 4000000 in
set_option maxRecDepth 100000 in
theorem b_M_inBrackets_49 {h0 : Nat} {a0_4 : Nat} {a0_5 : Nat} {a0_6 : Nat} {a0_7 : Nat} {a0_8 : Nat} {a0_9 : Nat} {a0_10 : Nat} {a0_11 : Nat} {a0_22 : Nat} {a0_26 : Nat} {a0_29 : Nat} {a0_31 : Nat} {a0_32 : Nat} {a0_34 : Nat} {h1 : Nat} {cA1 : ClassId} {I0 : Nat → Int32} {J0 : Nat → Int64} {n1 : Nat} {f1 : Nat → Int32} {x1 : Int32} {x2 : Int32} {x3 : Int32} {s0 : Int32} {k40 : Int32 → Prop} {Z : Int32 → Unit → Prop} {H : Heap} {locs : List Loc} {ls : Array Slot} (hc : zC p s m args meth c prog_14_method_14_code (some .int) 4 "NumberDressModel") (hA : ∀ q : Nat, s.heap.size ≤ q → A q) (hE : zE gE A s) (hk40 : ∀ (x3 : Int32) (H : Heap) (locs : List Loc) (ls : Array Slot), lv_has ls 4 [(0, .ref h0), (1, .int x1), (2, .int x2), (3, .int x3)] → va_K (dC, dI) zCl [(cA1, .int)] s → va_P (dC, dI) zCl [(h0, .inr (12, o_M I0 J0 h1 a0_4 a0_5 a0_6 a0_7 a0_8 a0_9 a0_10 a0_11 a0_22 a0_26 a0_29 a0_31 a0_32 a0_34)), (h1, .inl (cA1, n1, .inl f1))] H → va_D A [(h0, .inr (12, o_M I0 J0 h1 a0_4 a0_5 a0_6 a0_7 a0_8 a0_9 a0_10 a0_11 a0_22 a0_26 a0_29 a0_31 a0_32 a0_34)), (h1, .inl (cA1, n1, .inl f1))] → va_S A s.heap H locs → k40 x3 → W p l e (headSpec (Cond.code (⟨"NumberDressModel", "inBrackets", "(I)I"⟩ : MethodName) prog_14_method_14_code 4 (some .int) :: zT) { frames := 2, cells := 0, slots := 0, locals := 42 }).room s m args below meth c H locs 0 0 (MQ below (va_Qi Z (zB (dC, dI) zCl [(cA1, .int)] A (fun u : Unit => [(h0, .inr (12, o_M I0 J0 h1 a0_4 a0_5 a0_6 a0_7 a0_8 a0_9 a0_10 a0_11 a0_22 a0_26 a0_29 a0_31 a0_32 a0_34)), (h1, .inl (cA1, n1, .inl f1))])) A) args s 0 0 A) (F0 m 40 ls [])) (hl : lv_has ls 4 [(0, .ref h0), (1, .int x1), (2, .int x2), (3, .int x3)]) (hK : va_K (dC, dI) zCl [(cA1, .int)] s) (hP : va_P (dC, dI) zCl [(h0, .inr (12, o_M I0 J0 h1 a0_4 a0_5 a0_6 a0_7 a0_8 a0_9 a0_10 a0_11 a0_22 a0_26 a0_29 a0_31 a0_32 a0_34)), (h1, .inl (cA1, n1, .inl f1))] H) (hD : va_D A [(h0, .inr (12, o_M I0 J0 h1 a0_4 a0_5 a0_6 a0_7 a0_8 a0_9 a0_10 a0_11 a0_22 a0_26 a0_29 a0_31 a0_32 a0_34)), (h1, .inl (cA1, n1, .inl f1))]) (hS : va_S A s.heap H locs) (hv : v_M_inBrackets_49 I0 J0 n1 f1 x1 x2 x3 s0 k40 Z) : W p l e (headSpec (Cond.code (⟨"NumberDressModel", "inBrackets", "(I)I"⟩ : MethodName) prog_14_method_14_code 4 (some .int) :: zT) { frames := 2, cells := 0, slots := 0, locals := 42 }).room s m args below meth c H locs 0 0 (MQ below (va_Qi Z (zB (dC, dI) zCl [(cA1, .int)] A (fun u : Unit => [(h0, .inr (12, o_M I0 J0 h1 a0_4 a0_5 a0_6 a0_7 a0_8 a0_9 a0_10 a0_11 a0_22 a0_26 a0_29 a0_31 a0_32 a0_34)), (h1, .inl (cA1, n1, .inl f1))])) A) args s 0 0 A) (F0 m 49 ls [.int s0]) := by
  obtain ⟨hx, hb, hr, hml, hown, ht, hlocks⟩ := id hc
  unfold v_M_inBrackets_49 at hv
  refine lv_iload_n hx hb d_M_inBrackets_49 rfl (lv_at hl 2 rfl) ?_
  refine lv_icmp_ne (tgt := 59) hx hb d_M_inBrackets_50 (by decide) (fun c_1 => ?_) (fun c_1 => ?_)
  · have hv := hv.1 c_1
    refine lv_aload_n hx hb d_M_inBrackets_59 rfl (lv_at hl 0 rfl) ?_
    refine lv_iload_n hx hb d_M_inBrackets_60 rfl (lv_at hl 1 rfl) ?_
    refine lv_iconst (v := (1 : Int32)) hx hb d_M_inBrackets_61 (by decide) ?_
    refine lv_iadd hx hb d_M_inBrackets_62 ?_
    refine lv_iload_n hx hb d_M_inBrackets_63 rfl (lv_at hl 3 rfl) ?_
    refine lv_iadd hx hb d_M_inBrackets_64 ?_
    refine z_calli (wc := [(h0, .inr (12, o_M I0 J0 h1 a0_4 a0_5 a0_6 a0_7 a0_8 a0_9 a0_10 a0_11 a0_22 a0_26 a0_29 a0_31 a0_32 a0_34)), (h1, .inl (cA1, n1, .inl f1))]) (wr := []) [0, 1] [] (va_runV (As := [.int ((x1 + (1 : Int32)) + x3)]) (rest := []) ⟨hx, hb, hml, hown, ht⟩ (m_M_ch l dC dI hv) ⟨(callB_of 1 ht (zG_in zi_M_ch) rfl rfl rfl (ht _ zw_122) (ht _ zw_1425) zh_M_ch ⟨Nat.le_of_ble_eq_true rfl, Nat.le_of_ble_eq_true rfl⟩), (ht _ zw_1427), (ht _ zw_63)⟩ ⟨zPc_blind, va_recv hK hP (ci := 12) (q0 := 0) rfl rfl, zPc_pre hP hK hD hS hA hE [0, 1] [0] rfl rfl (by decide) rfl⟩ rfl rfl hl.1 rfl (lv_room (Nat.le_of_ble_eq_true rfl)) d_M_inBrackets_65 ⟨Nat.le_of_ble_eq_true rfl, Nat.le_of_ble_eq_true rfl⟩) hP hD hS hA rfl rfl (by decide) (by decide) (fun r u H locs hv hP hD hS => ?_)
    have hP : va_P (dC, dI) zCl [(h0, .inr (12, o_M I0 J0 h1 a0_4 a0_5 a0_6 a0_7 a0_8 a0_9 a0_10 a0_11 a0_22 a0_26 a0_29 a0_31 a0_32 a0_34)), (h1, .inl (cA1, n1, .inl f1))] H := hP.sub [0, 1] rfl
    have hD : va_D A [(h0, .inr (12, o_M I0 J0 h1 a0_4 a0_5 a0_6 a0_7 a0_8 a0_9 a0_10 a0_11 a0_22 a0_26 a0_29 a0_31 a0_32 a0_34)), (h1, .inl (cA1, n1, .inl f1))] := hD.sub [0, 1] (by decide) rfl
    exact b_M_inBrackets_68 hc hA hE  (lv_sub hl [3] rfl) hK hP hD hS hv
  · have hv := hv.2 c_1
    refine lv_iinc (v := (x3 + (1 : Int32))) (lv' := [(3, .int (x3 + (1 : Int32))), (0, .ref h0), (1, .int x1), (2, .int x2)]) hx hb d_M_inBrackets_53 hl (k := 3) rfl rfl (by decide) rfl (fun ls hl => ?_)
    refine lv_goto (tgt := 40) hx hb d_M_inBrackets_56 (by decide) ?_
    exact hk40 (x3 + (1 : Int32)) _ _ _ (lv_sub hl [1, 2, 3, 0] rfl) hK hP hD hS hv
set_option maxHeartbeats 4000000 in
set_option maxRecDepth 100000 in
theorem b_M_inBrackets_40 {h0 : Nat} {a0_4 : Nat} {a0_5 : Nat} {a0_6 : Nat} {a0_7 : Nat} {a0_8 : Nat} {a0_9 : Nat} {a0_10 : Nat} {a0_11 : Nat} {a0_22 : Nat} {a0_26 : Nat} {a0_29 : Nat} {a0_31 : Nat} {a0_32 : Nat} {a0_34 : Nat} {h1 : Nat} {cA1 : ClassId} {I0 : Nat → Int32} {J0 : Nat → Int64} {n1 : Nat} {f1 : Nat → Int32} {x1 : Int32} {x2 : Int32}  {Z : Int32 → Unit → Prop} (hc : zC p s m args meth c prog_14_method_14_code (some .int) 4 "NumberDressModel") (hA : ∀ q : Nat, s.heap.size ≤ q → A q) (hE : zE gE A s) : ∀ (N : Nat) (x3 : Int32) (H : Heap) (locs : List Loc) (ls : Array Slot), lv_has ls 4 [(0, .ref h0), (1, .int x1), (2, .int x2), (3, .int x3)] → va_K (dC, dI) zCl [(cA1, .int)] s → va_P (dC, dI) zCl [(h0, .inr (12, o_M I0 J0 h1 a0_4 a0_5 a0_6 a0_7 a0_8 a0_9 a0_10 a0_11 a0_22 a0_26 a0_29 a0_31 a0_32 a0_34)), (h1, .inl (cA1, n1, .inl f1))] H → va_D A [(h0, .inr (12, o_M I0 J0 h1 a0_4 a0_5 a0_6 a0_7 a0_8 a0_9 a0_10 a0_11 a0_22 a0_26 a0_29 a0_31 a0_32 a0_34)), (h1, .inl (cA1, n1, .inl f1))] → va_S A s.heap H locs → v_M_inBrackets_40 I0 J0 n1 f1 x1 x2  Z N x3 → W p l e (headSpec (Cond.code (⟨"NumberDressModel", "inBrackets", "(I)I"⟩ : MethodName) prog_14_method_14_code 4 (some .int) :: zT) { frames := 2, cells := 0, slots := 0, locals := 42 }).room s m args below meth c H locs 0 0 (MQ below (va_Qi Z (zB (dC, dI) zCl [(cA1, .int)] A (fun u : Unit => [(h0, .inr (12, o_M I0 J0 h1 a0_4 a0_5 a0_6 a0_7 a0_8 a0_9 a0_10 a0_11 a0_22 a0_26 a0_29 a0_31 a0_32 a0_34)), (h1, .inl (cA1, n1, .inl f1))])) A) args s 0 0 A) (F0 m 40 ls []) := by
  obtain ⟨hx, hb, hr, hml, hown, ht, hlocks⟩ := id hc
  intro N
  induction N with
  | zero => intro x3 H locs ls hl hK hP hD hS hv; exact hv.elim
  | succ N hk40 =>
    intro x3 H locs ls hl hK hP hD hS hv
    unfold v_M_inBrackets_40 at hv
    refine lv_aload_n hx hb d_M_inBrackets_40 rfl (lv_at hl 0 rfl) ?_
    refine lv_iload_n hx hb d_M_inBrackets_41 rfl (lv_at hl 1 rfl) ?_
    refine lv_iconst (v := (1 : Int32)) hx hb d_M_inBrackets_42 (by decide) ?_
    refine lv_iadd hx hb d_M_inBrackets_43 ?_
    refine lv_iload_n hx hb d_M_inBrackets_44 rfl (lv_at hl 3 rfl) ?_
    refine lv_iadd hx hb d_M_inBrackets_45 ?_
    refine z_calli (wc := [(h0, .inr (12, o_M I0 J0 h1 a0_4 a0_5 a0_6 a0_7 a0_8 a0_9 a0_10 a0_11 a0_22 a0_26 a0_29 a0_31 a0_32 a0_34)), (h1, .inl (cA1, n1, .inl f1))]) (wr := []) [0, 1] [] (va_runV (As := [.int ((x1 + (1 : Int32)) + x3)]) (rest := []) ⟨hx, hb, hml, hown, ht⟩ (m_M_low l dC dI hv) ⟨(callB_of 1 ht (zG_in zi_M_low) rfl rfl rfl (ht _ zw_122) (ht _ zw_1442) zh_M_low ⟨Nat.le_of_ble_eq_true rfl, Nat.le_of_ble_eq_true rfl⟩), (ht _ zw_1444), (ht _ zw_67)⟩ ⟨zPc_blind, va_recv hK hP (ci := 12) (q0 := 0) rfl rfl, zPc_pre hP hK hD hS hA hE [0, 1] [0] rfl rfl (by decide) rfl⟩ rfl rfl hl.1 rfl (lv_room (Nat.le_of_ble_eq_true rfl)) d_M_inBrackets_46 ⟨Nat.le_of_ble_eq_true rfl, Nat.le_of_ble_eq_true rfl⟩) hP hD hS hA rfl rfl (by decide) (by decide) (fun r u H locs hv hP hD hS => ?_)
    have hP : va_P (dC, dI) zCl [(h0, .inr (12, o_M I0 J0 h1 a0_4 a0_5 a0_6 a0_7 a0_8 a0_9 a0_10 a0_11 a0_22 a0_26 a0_29 a0_31 a0_32 a0_34)), (h1, .inl (cA1, n1, .inl f1))] H := hP.sub [0, 1] rfl
    have hD : va_D A [(h0, .inr (12, o_M I0 J0 h1 a0_4 a0_5 a0_6 a0_7 a0_8 a0_9 a0_10 a0_11 a0_22 a0_26 a0_29 a0_31 a0_32 a0_34)), (h1, .inl (cA1, n1, .inl f1))] := hD.sub [0, 1] (by decide) rfl
    exact b_M_inBrackets_49 hc hA hE hk40 (lv_sub hl [0, 1, 2, 3] rfl) hK hP hD hS hv
set_option maxHeartbeats 4000000 in
set_option maxRecDepth 100000 in
theorem b_M_inBrackets_38 {h0 : Nat} {a0_4 : Nat} {a0_5 : Nat} {a0_6 : Nat} {a0_7 : Nat} {a0_8 : Nat} {a0_9 : Nat} {a0_10 : Nat} {a0_11 : Nat} {a0_22 : Nat} {a0_26 : Nat} {a0_29 : Nat} {a0_31 : Nat} {a0_32 : Nat} {a0_34 : Nat} {h1 : Nat} {cA1 : ClassId} {I0 : Nat → Int32} {J0 : Nat → Int64} {n1 : Nat} {f1 : Nat → Int32} {x1 : Int32} {x2 : Int32}  {Z : Int32 → Unit → Prop} {H : Heap} {locs : List Loc} {ls : Array Slot} (hc : zC p s m args meth c prog_14_method_14_code (some .int) 4 "NumberDressModel") (hA : ∀ q : Nat, s.heap.size ≤ q → A q) (hE : zE gE A s) (hl : lv_has ls 4 [(0, .ref h0), (1, .int x1), (2, .int x2)]) (hK : va_K (dC, dI) zCl [(cA1, .int)] s) (hP : va_P (dC, dI) zCl [(h0, .inr (12, o_M I0 J0 h1 a0_4 a0_5 a0_6 a0_7 a0_8 a0_9 a0_10 a0_11 a0_22 a0_26 a0_29 a0_31 a0_32 a0_34)), (h1, .inl (cA1, n1, .inl f1))] H) (hD : va_D A [(h0, .inr (12, o_M I0 J0 h1 a0_4 a0_5 a0_6 a0_7 a0_8 a0_9 a0_10 a0_11 a0_22 a0_26 a0_29 a0_31 a0_32 a0_34)), (h1, .inl (cA1, n1, .inl f1))]) (hS : va_S A s.heap H locs) (hv : v_M_inBrackets_38 I0 J0 n1 f1 x1 x2  Z) : W p l e (headSpec (Cond.code (⟨"NumberDressModel", "inBrackets", "(I)I"⟩ : MethodName) prog_14_method_14_code 4 (some .int) :: zT) { frames := 2, cells := 0, slots := 0, locals := 42 }).room s m args below meth c H locs 0 0 (MQ below (va_Qi Z (zB (dC, dI) zCl [(cA1, .int)] A (fun u : Unit => [(h0, .inr (12, o_M I0 J0 h1 a0_4 a0_5 a0_6 a0_7 a0_8 a0_9 a0_10 a0_11 a0_22 a0_26 a0_29 a0_31 a0_32 a0_34)), (h1, .inl (cA1, n1, .inl f1))])) A) args s 0 0 A) (F0 m 38 ls []) := by
  obtain ⟨hx, hb, hr, hml, hown, ht, hlocks⟩ := id hc
  unfold v_M_inBrackets_38 at hv
  refine lv_iconst (v := (0 : Int32)) hx hb d_M_inBrackets_38 (by decide) ?_
  refine lv_istore_n (lv' := [(3, .int (0 : Int32)), (0, .ref h0), (1, .int x1), (2, .int x2)]) hx hb d_M_inBrackets_39 rfl hl (by decide) rfl (fun ls hl => ?_)
  obtain ⟨Nx, hv⟩ := hv
  exact b_M_inBrackets_40 hc hA hE  Nx (0 : Int32) _ _ _ (lv_sub hl [1, 2, 3, 0] rfl) hK hP hD hS hv
set_option maxHeartbeats 4000000 in
set_option maxRecDepth 100000 in
theorem b_M_inBrackets_13 {h0 : Nat} {a0_4 : Nat} {a0_5 : Nat} {a0_6 : Nat} {a0_7 : Nat} {a0_8 : Nat} {a0_9 : Nat} {a0_10 : Nat} {a0_11 : Nat} {a0_22 : Nat} {a0_26 : Nat} {a0_29 : Nat} {a0_31 : Nat} {a0_32 : Nat} {a0_34 : Nat} {h1 : Nat} {cA1 : ClassId} {I0 : Nat → Int32} {J0 : Nat → Int64} {n1 : Nat} {f1 : Nat → Int32} {x1 : Int32} {x2 : Int32} {s0 : Int32}  {Z : Int32 → Unit → Prop} {H : Heap} {locs : List Loc} {ls : Array Slot} (hc : zC p s m args meth c prog_14_method_14_code (some .int) 4 "NumberDressModel") (hA : ∀ q : Nat, s.heap.size ≤ q → A q) (hE : zE gE A s) (hl : lv_has ls 4 [(0, .ref h0), (1, .int x1), (2, .int x2)]) (hK : va_K (dC, dI) zCl [(cA1, .int)] s) (hP : va_P (dC, dI) zCl [(h0, .inr (12, o_M I0 J0 h1 a0_4 a0_5 a0_6 a0_7 a0_8 a0_9 a0_10 a0_11 a0_22 a0_26 a0_29 a0_31 a0_32 a0_34)), (h1, .inl (cA1, n1, .inl f1))] H) (hD : va_D A [(h0, .inr (12, o_M I0 J0 h1 a0_4 a0_5 a0_6 a0_7 a0_8 a0_9 a0_10 a0_11 a0_22 a0_26 a0_29 a0_31 a0_32 a0_34)), (h1, .inl (cA1, n1, .inl f1))]) (hS : va_S A s.heap H locs) (hv : v_M_inBrackets_13 I0 J0 n1 f1 x1 x2 s0  Z) : W p l e (headSpec (Cond.code (⟨"NumberDressModel", "inBrackets", "(I)I"⟩ : MethodName) prog_14_method_14_code 4 (some .int) :: zT) { frames := 2, cells := 0, slots := 0, locals := 42 }).room s m args below meth c H locs 0 0 (MQ below (va_Qi Z (zB (dC, dI) zCl [(cA1, .int)] A (fun u : Unit => [(h0, .inr (12, o_M I0 J0 h1 a0_4 a0_5 a0_6 a0_7 a0_8 a0_9 a0_10 a0_11 a0_22 a0_26 a0_29 a0_31 a0_32 a0_34)), (h1, .inl (cA1, n1, .inl f1))])) A) args s 0 0 A) (F0 m 13 ls [.int s0]) := by
  obtain ⟨hx, hb, hr, hml, hown, ht, hlocks⟩ := id hc
  unfold v_M_inBrackets_13 at hv
  refine lv_bipush (v := (91 : Int32)) hx hb d_M_inBrackets_13 (by decide) ?_
  refine lv_icmp_ne (tgt := 36) hx hb d_M_inBrackets_15 (by decide) (fun c_1 => ?_) (fun c_1 => ?_)
  · have hv := hv.1 c_1
    refine lv_iconst (v := (0 : Int32)) hx hb d_M_inBrackets_36 (by decide) ?_
    exact W.iret (v := (0 : Int32)) hx hb hr (fun t ht hW => ⟨⟨_, (), rfl, hv, ⟨by rw [ht]; exact hP, va_K.moved hW.alike hK, hD⟩⟩, hS.F ht⟩) hS.2.2 d_M_inBrackets_37
  · have hv := hv.2 c_1
    refine lv_iload_n hx hb d_M_inBrackets_18 rfl (lv_at hl 2 rfl) ?_
    refine lv_bipush (v := (104 : Int32)) hx hb d_M_inBrackets_19 (by decide) ?_
    refine lv_icmp_eq (tgt := 38) hx hb d_M_inBrackets_21 (by decide) (fun c_2 => ?_) (fun c_2 => ?_)
    · have hv := hv.1 c_2
      exact b_M_inBrackets_38 hc hA hE  (lv_sub hl [0, 1, 2] rfl) hK hP hD hS hv
    · have hv := hv.2 c_2
      refine lv_iload_n hx hb d_M_inBrackets_24 rfl (lv_at hl 2 rfl) ?_
      refine lv_bipush (v := (109 : Int32)) hx hb d_M_inBrackets_25 (by decide) ?_
      refine lv_icmp_eq (tgt := 38) hx hb d_M_inBrackets_27 (by decide) (fun c_3 => ?_) (fun c_3 => ?_)
      · have hv := hv.1 c_3
        exact b_M_inBrackets_38 hc hA hE  (lv_sub hl [0, 1, 2] rfl) hK hP hD hS hv
      · have hv := hv.2 c_3
        refine lv_iload_n hx hb d_M_inBrackets_30 rfl (lv_at hl 2 rfl) ?_
        refine lv_bipush (v := (115 : Int32)) hx hb d_M_inBrackets_31 (by decide) ?_
        refine lv_icmp_eq (tgt := 38) hx hb d_M_inBrackets_33 (by decide) (fun c_4 => ?_) (fun c_4 => ?_)
        · have hv := hv.1 c_4
          exact b_M_inBrackets_38 hc hA hE  (lv_sub hl [0, 1, 2] rfl) hK hP hD hS hv
        · have hv := hv.2 c_4
          refine lv_iconst (v := (0 : Int32)) hx hb d_M_inBrackets_36 (by decide) ?_
          exact W.iret (v := (0 : Int32)) hx hb hr (fun t ht hW => ⟨⟨_, (), rfl, hv, ⟨by rw [ht]; exact hP, va_K.moved hW.alike hK, hD⟩⟩, hS.F ht⟩) hS.2.2 d_M_inBrackets_37
set_option maxHeartbeats 4000000 in
set_option maxRecDepth 100000 in
theorem b_M_inBrackets_7 {h0 : Nat} {a0_4 : Nat} {a0_5 : Nat} {a0_6 : Nat} {a0_7 : Nat} {a0_8 : Nat} {a0_9 : Nat} {a0_10 : Nat} {a0_11 : Nat} {a0_22 : Nat} {a0_26 : Nat} {a0_29 : Nat} {a0_31 : Nat} {a0_32 : Nat} {a0_34 : Nat} {h1 : Nat} {cA1 : ClassId} {I0 : Nat → Int32} {J0 : Nat → Int64} {n1 : Nat} {f1 : Nat → Int32} {x1 : Int32} {s0 : Int32}  {Z : Int32 → Unit → Prop} {H : Heap} {locs : List Loc} {ls : Array Slot} (hc : zC p s m args meth c prog_14_method_14_code (some .int) 4 "NumberDressModel") (hA : ∀ q : Nat, s.heap.size ≤ q → A q) (hE : zE gE A s) (hl : lv_has ls 4 [(0, .ref h0), (1, .int x1)]) (hK : va_K (dC, dI) zCl [(cA1, .int)] s) (hP : va_P (dC, dI) zCl [(h0, .inr (12, o_M I0 J0 h1 a0_4 a0_5 a0_6 a0_7 a0_8 a0_9 a0_10 a0_11 a0_22 a0_26 a0_29 a0_31 a0_32 a0_34)), (h1, .inl (cA1, n1, .inl f1))] H) (hD : va_D A [(h0, .inr (12, o_M I0 J0 h1 a0_4 a0_5 a0_6 a0_7 a0_8 a0_9 a0_10 a0_11 a0_22 a0_26 a0_29 a0_31 a0_32 a0_34)), (h1, .inl (cA1, n1, .inl f1))]) (hS : va_S A s.heap H locs) (hv : v_M_inBrackets_7 I0 J0 n1 f1 x1 s0  Z) : W p l e (headSpec (Cond.code (⟨"NumberDressModel", "inBrackets", "(I)I"⟩ : MethodName) prog_14_method_14_code 4 (some .int) :: zT) { frames := 2, cells := 0, slots := 0, locals := 42 }).room s m args below meth c H locs 0 0 (MQ below (va_Qi Z (zB (dC, dI) zCl [(cA1, .int)] A (fun u : Unit => [(h0, .inr (12, o_M I0 J0 h1 a0_4 a0_5 a0_6 a0_7 a0_8 a0_9 a0_10 a0_11 a0_22 a0_26 a0_29 a0_31 a0_32 a0_34)), (h1, .inl (cA1, n1, .inl f1))])) A) args s 0 0 A) (F0 m 7 ls [.int s0]) := by
  obtain ⟨hx, hb, hr, hml, hown, ht, hlocks⟩ := id hc
  unfold v_M_inBrackets_7 at hv
  refine lv_istore_n (lv' := [(2, .int s0), (0, .ref h0), (1, .int x1)]) hx hb d_M_inBrackets_7 rfl hl (by decide) rfl (fun ls hl => ?_)
  refine lv_aload_n hx hb d_M_inBrackets_8 rfl (lv_at hl 1 rfl) ?_
  refine lv_iload_n hx hb d_M_inBrackets_9 rfl (lv_at hl 2 rfl) ?_
  refine z_calli (wc := [(h0, .inr (12, o_M I0 J0 h1 a0_4 a0_5 a0_6 a0_7 a0_8 a0_9 a0_10 a0_11 a0_22 a0_26 a0_29 a0_31 a0_32 a0_34)), (h1, .inl (cA1, n1, .inl f1))]) (wr := []) [0, 1] [] (va_runV (As := [.int x1]) (rest := []) ⟨hx, hb, hml, hown, ht⟩ (m_M_ch l dC dI hv) ⟨(callB_of 1 ht (zG_in zi_M_ch) rfl rfl rfl (ht _ zw_122) (ht _ zw_1425) zh_M_ch ⟨Nat.le_of_ble_eq_true rfl, Nat.le_of_ble_eq_true rfl⟩), (ht _ zw_1427), (ht _ zw_63)⟩ ⟨zPc_blind, va_recv hK hP (ci := 12) (q0 := 0) rfl rfl, zPc_pre hP hK hD hS hA hE [0, 1] [0] rfl rfl (by decide) rfl⟩ rfl rfl hl.1 rfl (lv_room (Nat.le_of_ble_eq_true rfl)) d_M_inBrackets_10 ⟨Nat.le_of_ble_eq_true rfl, Nat.le_of_ble_eq_true rfl⟩) hP hD hS hA rfl rfl (by decide) (by decide) (fun r u H locs hv hP hD hS => ?_)
  have hP : va_P (dC, dI) zCl [(h0, .inr (12, o_M I0 J0 h1 a0_4 a0_5 a0_6 a0_7 a0_8 a0_9 a0_10 a0_11 a0_22 a0_26 a0_29 a0_31 a0_32 a0_34)), (h1, .inl (cA1, n1, .inl f1))] H := hP.sub [0, 1] rfl
  have hD : va_D A [(h0, .inr (12, o_M I0 J0 h1 a0_4 a0_5 a0_6 a0_7 a0_8 a0_9 a0_10 a0_11 a0_22 a0_26 a0_29 a0_31 a0_32 a0_34)), (h1, .inl (cA1, n1, .inl f1))] := hD.sub [0, 1] (by decide) rfl
  exact b_M_inBrackets_13 hc hA hE  (lv_sub hl [1, 2, 0] rfl) hK hP hD hS hv
set_option maxHeartbeats 4000000 in
set_option maxRecDepth 100000 in
theorem b_M_inBrackets_0 {h0 : Nat} {a0_4 : Nat} {a0_5 : Nat} {a0_6 : Nat} {a0_7 : Nat} {a0_8 : Nat} {a0_9 : Nat} {a0_10 : Nat} {a0_11 : Nat} {a0_22 : Nat} {a0_26 : Nat} {a0_29 : Nat} {a0_31 : Nat} {a0_32 : Nat} {a0_34 : Nat} {h1 : Nat} {cA1 : ClassId} {I0 : Nat → Int32} {J0 : Nat → Int64} {n1 : Nat} {f1 : Nat → Int32} {x1 : Int32}  {Z : Int32 → Unit → Prop} {H : Heap} {locs : List Loc} {ls : Array Slot} (hc : zC p s m args meth c prog_14_method_14_code (some .int) 4 "NumberDressModel") (hA : ∀ q : Nat, s.heap.size ≤ q → A q) (hE : zE gE A s) (hl : lv_has ls 4 [(0, .ref h0), (1, .int x1)]) (hK : va_K (dC, dI) zCl [(cA1, .int)] s) (hP : va_P (dC, dI) zCl [(h0, .inr (12, o_M I0 J0 h1 a0_4 a0_5 a0_6 a0_7 a0_8 a0_9 a0_10 a0_11 a0_22 a0_26 a0_29 a0_31 a0_32 a0_34)), (h1, .inl (cA1, n1, .inl f1))] H) (hD : va_D A [(h0, .inr (12, o_M I0 J0 h1 a0_4 a0_5 a0_6 a0_7 a0_8 a0_9 a0_10 a0_11 a0_22 a0_26 a0_29 a0_31 a0_32 a0_34)), (h1, .inl (cA1, n1, .inl f1))]) (hS : va_S A s.heap H locs) (hv : v_M_inBrackets_0 I0 J0 n1 f1 x1  Z) : W p l e (headSpec (Cond.code (⟨"NumberDressModel", "inBrackets", "(I)I"⟩ : MethodName) prog_14_method_14_code 4 (some .int) :: zT) { frames := 2, cells := 0, slots := 0, locals := 42 }).room s m args below meth c H locs 0 0 (MQ below (va_Qi Z (zB (dC, dI) zCl [(cA1, .int)] A (fun u : Unit => [(h0, .inr (12, o_M I0 J0 h1 a0_4 a0_5 a0_6 a0_7 a0_8 a0_9 a0_10 a0_11 a0_22 a0_26 a0_29 a0_31 a0_32 a0_34)), (h1, .inl (cA1, n1, .inl f1))])) A) args s 0 0 A) (F0 m 0 ls []) := by
  obtain ⟨hx, hb, hr, hml, hown, ht, hlocks⟩ := id hc
  unfold v_M_inBrackets_0 at hv
  refine lv_aload_n hx hb d_M_inBrackets_0 rfl (lv_at hl 0 rfl) ?_
  refine lv_iload_n hx hb d_M_inBrackets_1 rfl (lv_at hl 1 rfl) ?_
  refine lv_iconst (v := (1 : Int32)) hx hb d_M_inBrackets_2 (by decide) ?_
  refine lv_iadd hx hb d_M_inBrackets_3 ?_
  refine z_calli (wc := [(h0, .inr (12, o_M I0 J0 h1 a0_4 a0_5 a0_6 a0_7 a0_8 a0_9 a0_10 a0_11 a0_22 a0_26 a0_29 a0_31 a0_32 a0_34)), (h1, .inl (cA1, n1, .inl f1))]) (wr := []) [0, 1] [] (va_runV (As := [.int (x1 + (1 : Int32))]) (rest := []) ⟨hx, hb, hml, hown, ht⟩ (m_M_low l dC dI hv) ⟨(callB_of 1 ht (zG_in zi_M_low) rfl rfl rfl (ht _ zw_122) (ht _ zw_1442) zh_M_low ⟨Nat.le_of_ble_eq_true rfl, Nat.le_of_ble_eq_true rfl⟩), (ht _ zw_1444), (ht _ zw_67)⟩ ⟨zPc_blind, va_recv hK hP (ci := 12) (q0 := 0) rfl rfl, zPc_pre hP hK hD hS hA hE [0, 1] [0] rfl rfl (by decide) rfl⟩ rfl rfl hl.1 rfl (lv_room (Nat.le_of_ble_eq_true rfl)) d_M_inBrackets_4 ⟨Nat.le_of_ble_eq_true rfl, Nat.le_of_ble_eq_true rfl⟩) hP hD hS hA rfl rfl (by decide) (by decide) (fun r u H locs hv hP hD hS => ?_)
  have hP : va_P (dC, dI) zCl [(h0, .inr (12, o_M I0 J0 h1 a0_4 a0_5 a0_6 a0_7 a0_8 a0_9 a0_10 a0_11 a0_22 a0_26 a0_29 a0_31 a0_32 a0_34)), (h1, .inl (cA1, n1, .inl f1))] H := hP.sub [0, 1] rfl
  have hD : va_D A [(h0, .inr (12, o_M I0 J0 h1 a0_4 a0_5 a0_6 a0_7 a0_8 a0_9 a0_10 a0_11 a0_22 a0_26 a0_29 a0_31 a0_32 a0_34)), (h1, .inl (cA1, n1, .inl f1))] := hD.sub [0, 1] (by decide) rfl
  exact b_M_inBrackets_7 hc hA hE  (lv_sub hl [0, 1] rfl) hK hP hD hS hv
theorem zi_M_inBrackets : Cond.code (⟨"NumberDressModel", "inBrackets", "(I)I"⟩ : MethodName) prog_14_method_14_code 4 (some .int) ∈ zT := zw_1459
theorem zh_M_inBrackets : (((⟨"NumberDressModel", "inBrackets", "(I)I"⟩ : MethodName)).cls ≠ "java/lang/invoke/MethodHandle" ∧ ((⟨"NumberDressModel", "inBrackets", "(I)I"⟩ : MethodName)).cls ≠ "java/lang/invoke/VarHandle" ∧ (parseMethodDescriptor ((⟨"NumberDressModel", "inBrackets", "(I)I"⟩ : MethodName)).desc).map (fun d => d.parameters.length) = some 1) := by decide +kernel
set_option maxHeartbeats 4000000 in
set_option maxRecDepth 100000 in
theorem m_M_inBrackets (l : Launch) (dC : Nat → ClassId) (dI : Nat → Nat → Nat) {gE : zG} {h0 : Nat} {a0_4 : Nat} {a0_5 : Nat} {a0_6 : Nat} {a0_7 : Nat} {a0_8 : Nat} {a0_9 : Nat} {a0_10 : Nat} {a0_11 : Nat} {a0_22 : Nat} {a0_26 : Nat} {a0_29 : Nat} {a0_31 : Nat} {a0_32 : Nat} {a0_34 : Nat} {h1 : Nat} {cA1 : ClassId} {I0 : Nat → Int32} {J0 : Nat → Int64} {n1 : Nat} {f1 : Nat → Int32} {x1 : Int32} {sz : Nat} {Z : Int32 → Unit → Prop} (hv : v_M_inBrackets_0 I0 J0 n1 f1 x1 Z) : Met l (⟨"NumberDressModel", "inBrackets", "(I)I"⟩ : MethodName) (Cond.code (⟨"NumberDressModel", "inBrackets", "(I)I"⟩ : MethodName) prog_14_method_14_code 4 (some .int) :: zT) { frames := 2, cells := 0, slots := 0, locals := 42 } (zPc gE (dC, dI) zCl [(cA1, .int)] [.ref h0, .int x1] sz [(h0, .inr (12, o_M I0 J0 h1 a0_4 a0_5 a0_6 a0_7 a0_8 a0_9 a0_10 a0_11 a0_22 a0_26 a0_29 a0_31 a0_32 a0_34)), (h1, .inl (cA1, n1, .inl f1))]) (va_Qi Z (zB (dC, dI) zCl [(cA1, .int)] (va_A [(h0, .inr (12, o_M I0 J0 h1 a0_4 a0_5 a0_6 a0_7 a0_8 a0_9 a0_10 a0_11 a0_22 a0_26 a0_29 a0_31 a0_32 a0_34)), (h1, .inl (cA1, n1, .inl f1))] sz) (fun u : Unit => [(h0, .inr (12, o_M I0 J0 h1 a0_4 a0_5 a0_6 a0_7 a0_8 a0_9 a0_10 a0_11 a0_22 a0_26 a0_29 a0_31 a0_32 a0_34)), (h1, .inl (cA1, n1, .inl f1))])) (va_A [(h0, .inr (12, o_M I0 J0 h1 a0_4 a0_5 a0_6 a0_7 a0_8 a0_9 a0_10 a0_11 a0_22 a0_26 a0_29 a0_31 a0_32 a0_34)), (h1, .inl (cA1, n1, .inl f1))] sz)) 0 0 (va_A [(h0, .inr (12, o_M I0 J0 h1 a0_4 a0_5 a0_6 a0_7 a0_8 a0_9 a0_10 a0_11 a0_22 a0_26 a0_29 a0_31 a0_32 a0_34)), (h1, .inl (cA1, n1, .inl f1))] sz) := by
  refine Met.ofW (cc := prog_14_method_14_code) (maxL := 4) (ret := (some .int)) (by decide +kernel) rfl ?_
  intro p e s m args below meth c s₁ B hml hp
  obtain ⟨rfl, hsz, hP, hK, hD0, hE⟩ := hp
  have hts := atoms_spec (ws := (Cond.code (⟨"NumberDressModel", "inBrackets", "(I)I"⟩ : MethodName) prog_14_method_14_code 4 (some .int) :: zT)) B.pre
  have hown : s.vm.findClass "NumberDressModel" = some m.cls := findClass_of_methodNamed B.named
  have hc : zC p s m _ meth c prog_14_method_14_code (some .int) 4 "NumberDressModel" := ⟨B.exec, B.bytes, B.returns, hml, hown, fun w h => hts w (List.mem_cons_of_mem _ h), B.notSynchronized⟩
  subst hsz
  have hD := hD0.self (sz := s.heap.size)
  generalize hAe : va_A [(h0, .inr (12, o_M I0 J0 h1 a0_4 a0_5 a0_6 a0_7 a0_8 a0_9 a0_10 a0_11 a0_22 a0_26 a0_29 a0_31 a0_32 a0_34)), (h1, .inl (cA1, n1, .inl f1))] s.heap.size = A at hD hE ⊢
  have hA : ∀ q : Nat, s.heap.size ≤ q → A q := fun q h => by rw [← hAe]; exact Or.inr h
  have hl := lv_entry ([.ref h0, .int x1]) (n := 4) (Nat.le_of_ble_eq_true rfl)
  rw [lg_entry_eq]
  exact b_M_inBrackets_0 hc hA hE hl hK hP hD va_S.rf hv
end
