section
variable {p : Program} {l : Launch} {e : Env} {s : State} {m : MethodId} {args : Array Value} {below : List Frame} {meth : Method} {c : Code} {dC : Nat → ClassId} {dI : Nat → Nat → Nat} {A : Nat → Prop} {gE : zG}
theorem d_ND_about_0 : decode prog_1_method_9_code 0 = .ok (.iload_n 1, 1) := by decide +kernel
theorem d_ND_about_1 : decode prog_1_method_9_code 1 = .ok (.ifCond .lt 8, 3) := by decide +kernel
theorem d_ND_about_4 : decode prog_1_method_9_code 4 = .ok (.iload_n 1, 1) := by decide +kernel
theorem d_ND_about_5 : decode prog_1_method_9_code 5 = .ok (.iconst 5, 1) := by decide +kernel
theorem d_ND_about_6 : decode prog_1_method_9_code 6 = .ok (.if_icmp .le 13, 3) := by decide +kernel
theorem d_ND_about_9 : decode prog_1_method_9_code 9 = .ok (.new 48, 3) := by decide +kernel
theorem d_ND_about_19 : decode prog_1_method_9_code 19 = .ok (.iload_n 1, 1) := by decide +kernel
theorem d_ND_about_20 : decode prog_1_method_9_code 20 = .ok (.ifCond .ne 11, 3) := by decide +kernel
theorem d_ND_about_23 : decode prog_1_method_9_code 23 = .ok (.aload_n 0, 1) := by decide +kernel
theorem d_ND_about_24 : decode prog_1_method_9_code 24 = .ok (.getfield 16, 3) := by decide +kernel
theorem d_ND_about_27 : decode prog_1_method_9_code 27 = .ok (.getfield 103, 3) := by decide +kernel
theorem d_ND_about_30 : decode prog_1_method_9_code 30 = .ok (.ireturn, 1) := by decide +kernel
theorem d_ND_about_31 : decode prog_1_method_9_code 31 = .ok (.iload_n 1, 1) := by decide +kernel
theorem d_ND_about_32 : decode prog_1_method_9_code 32 = .ok (.iconst 5, 1) := by decide +kernel
theorem d_ND_about_33 : decode prog_1_method_9_code 33 = .ok (.if_icmp .ne 17, 3) := by decide +kernel
theorem d_ND_about_36 : decode prog_1_method_9_code 36 = .ok (.aload_n 0, 1) := by decide +kernel
theorem d_ND_about_37 : decode prog_1_method_9_code 37 = .ok (.getfield 16, 3) := by decide +kernel
theorem d_ND_about_40 : decode prog_1_method_9_code 40 = .ok (.aload_n 0, 1) := by decide +kernel
theorem d_ND_about_41 : decode prog_1_method_9_code 41 = .ok (.getfield 30, 3) := by decide +kernel
theorem d_ND_about_44 : decode prog_1_method_9_code 44 = .ok (.invokevirtual 106, 3) := by decide +kernel
theorem d_ND_about_47 : decode prog_1_method_9_code 47 = .ok (.iconst 1, 1) := by decide +kernel
theorem d_ND_about_48 : decode prog_1_method_9_code 48 = .ok (.iadd, 1) := by decide +kernel
theorem d_ND_about_49 : decode prog_1_method_9_code 49 = .ok (.ireturn, 1) := by decide +kernel
theorem d_ND_about_50 : decode prog_1_method_9_code 50 = .ok (.aload_n 0, 1) := by decide +kernel
theorem d_ND_about_51 : decode prog_1_method_9_code 51 = .ok (.getfield 16, 3) := by decide +kernel
theorem d_ND_about_54 : decode prog_1_method_9_code 54 = .ok (.iload_n 1, 1) := by decide +kernel
theorem d_ND_about_55 : decode prog_1_method_9_code 55 = .ok (.iconst 1, 1) := by decide +kernel
theorem d_ND_about_56 : decode prog_1_method_9_code 56 = .ok (.isub, 1) := by decide +kernel
theorem d_ND_about_57 : decode prog_1_method_9_code 57 = .ok (.invokevirtual 110, 3) := by decide +kernel
theorem d_ND_about_60 : decode prog_1_method_9_code 60 = .ok (.astore_n 2, 1) := by decide +kernel
theorem d_ND_about_61 : decode prog_1_method_9_code 61 = .ok (.aload_n 2, 1) := by decide +kernel
theorem d_ND_about_62 : decode prog_1_method_9_code 62 = .ok (.ifnonnull 7, 3) := by decide +kernel
theorem d_ND_about_65 : decode prog_1_method_9_code 65 = .ok (.iconst (-1), 1) := by decide +kernel
theorem d_ND_about_66 : decode prog_1_method_9_code 66 = .ok (.goto 7, 3) := by decide +kernel
theorem d_ND_about_69 : decode prog_1_method_9_code 69 = .ok (.aload_n 2, 1) := by decide +kernel
theorem d_ND_about_70 : decode prog_1_method_9_code 70 = .ok (.getfield 114, 3) := by decide +kernel
theorem d_ND_about_73 : decode prog_1_method_9_code 73 = .ok (.ireturn, 1) := by decide +kernel
set_option maxHeartbeats 4000000 in
set_option maxRecDepth 100000 in
theorem b_ND_about_47 {h0 : Nat} {a0_0 : Nat} {a0_3 : Nat} {a0_5 : Nat} {a0_6 : Nat} {h1 : Nat} {a1_2 : Nat} {a1_3 : Nat} {h2 : Nat} {cA2 : ClassId} {ad2 : Nat → Nat} {h3 : Nat} {a3_4 : Nat} {I0 : Nat → Int32} {I1 : Nat → Int32} {I3 : Nat → Int32} {J3 : Nat → Int64} {I4 : Nat → Int32} {I5 : Nat → Int32} {I6 : Nat → Int32} {I7 : Nat → Int32} {s0 : Int32}  {Z : Int32 → Unit → Prop} {H : Heap} {locs : List Loc} {ls : Array Slot} (hc : zC p s m args meth c prog_1_method_9_code (some .int) 3 "NumberDress") (hA : ∀ q : Nat, s.heap.size ≤ q → A q) (hE : zE gE A s) (hl : lv_has ls 3 []) (hK : va_K (dC, dI) zCl [(cA2, .object "NumberDress$Section")] s) (hP : va_P (dC, dI) zCl [(h0, .inr (0, o_ND I0 a0_0 h1 a0_3 h3 a0_5 a0_6)), (h1, .inr (1, o_Code I1 h2 a1_2 a1_3)), (h2, .inl (cA2, 4, .inr (.inr (.inr (.inr (zra ad2 4)))))), (h3, .inr (11, o_Value I3 J3 a3_4)), ((ad2 0), .inr (9, o_Section I4)), ((ad2 1), .inr (9, o_Section I5)), ((ad2 2), .inr (9, o_Section I6)), ((ad2 3), .inr (9, o_Section I7))] H) (hD : va_D A [(h0, .inr (0, o_ND I0 a0_0 h1 a0_3 h3 a0_5 a0_6)), (h1, .inr (1, o_Code I1 h2 a1_2 a1_3)), (h2, .inl (cA2, 4, .inr (.inr (.inr (.inr (zra ad2 4)))))), (h3, .inr (11, o_Value I3 J3 a3_4)), ((ad2 0), .inr (9, o_Section I4)), ((ad2 1), .inr (9, o_Section I5)), ((ad2 2), .inr (9, o_Section I6)), ((ad2 3), .inr (9, o_Section I7))]) (hS : va_S A s.heap H locs) (hv : v_ND_about_47 I0 I1 I3 J3 I4 I5 I6 I7 s0  Z) : W p l e (headSpec (Cond.code (⟨"NumberDress", "about", "(I)I"⟩ : MethodName) prog_1_method_9_code 3 (some .int) :: zT) { frames := 3, cells := 0, slots := 0, locals := 66 }).room s m args below meth c H locs 0 0 (MQ below (va_Qi Z (zB (dC, dI) zCl [(cA2, .object "NumberDress$Section")] A (fun u : Unit => [(h0, .inr (0, o_ND I0 a0_0 h1 a0_3 h3 a0_5 a0_6)), (h1, .inr (1, o_Code I1 h2 a1_2 a1_3)), (h2, .inl (cA2, 4, .inr (.inr (.inr (.inr (zra ad2 4)))))), (h3, .inr (11, o_Value I3 J3 a3_4)), ((ad2 0), .inr (9, o_Section I4)), ((ad2 1), .inr (9, o_Section I5)), ((ad2 2), .inr (9, o_Section I6)), ((ad2 3), .inr (9, o_Section I7))])) A) args s 0 0 A) (F0 m 47 ls [.int s0]) := by
  obtain ⟨hx, hb, hr, hml, hown, ht, hlocks⟩ := id hc
  unfold v_ND_about_47 at hv
  refine lv_iconst (v := (1 : Int32)) hx hb d_ND_about_47 (by decide) ?_
  refine lv_iadd hx hb d_ND_about_48 ?_
  exact W.iret (v := (s0 + (1 : Int32))) hx hb hr (fun t ht hW => ⟨⟨_, (), rfl, hv, ⟨by rw [ht]; exact hP, va_K.moved hW.alike hK, hD⟩⟩, hS.F ht⟩) hS.2.2 d_ND_about_49
set_option maxHeartbeats 4000000 in
set_option maxRecDepth 100000 in
theorem b_ND_about_60 {h0 : Nat} {a0_0 : Nat} {a0_3 : Nat} {a0_5 : Nat} {a0_6 : Nat} {h1 : Nat} {a1_2 : Nat} {a1_3 : Nat} {h2 : Nat} {cA2 : ClassId} {ad2 : Nat → Nat} {h3 : Nat} {a3_4 : Nat} {I0 : Nat → Int32} {I1 : Nat → Int32} {I3 : Nat → Int32} {J3 : Nat → Int64} {I4 : Nat → Int32} {I5 : Nat → Int32} {I6 : Nat → Int32} {I7 : Nat → Int32}  {Z : Int32 → Unit → Prop} {H : Heap} {locs : List Loc} {ls : Array Slot} (hc : zC p s m args meth c prog_1_method_9_code (some .int) 3 "NumberDress") (hA : ∀ q : Nat, s.heap.size ≤ q → A q) (hE : zE gE A s) (hl : lv_has ls 3 []) (hK : va_K (dC, dI) zCl [(cA2, .object "NumberDress$Section")] s) (hP : va_P (dC, dI) zCl [(h0, .inr (0, o_ND I0 a0_0 h1 a0_3 h3 a0_5 a0_6)), (h1, .inr (1, o_Code I1 h2 a1_2 a1_3)), (h2, .inl (cA2, 4, .inr (.inr (.inr (.inr (zra ad2 4)))))), (h3, .inr (11, o_Value I3 J3 a3_4)), ((ad2 0), .inr (9, o_Section I4)), ((ad2 1), .inr (9, o_Section I5)), ((ad2 2), .inr (9, o_Section I6)), ((ad2 3), .inr (9, o_Section I7))] H) (hD : va_D A [(h0, .inr (0, o_ND I0 a0_0 h1 a0_3 h3 a0_5 a0_6)), (h1, .inr (1, o_Code I1 h2 a1_2 a1_3)), (h2, .inl (cA2, 4, .inr (.inr (.inr (.inr (zra ad2 4)))))), (h3, .inr (11, o_Value I3 J3 a3_4)), ((ad2 0), .inr (9, o_Section I4)), ((ad2 1), .inr (9, o_Section I5)), ((ad2 2), .inr (9, o_Section I6)), ((ad2 3), .inr (9, o_Section I7))]) (hS : va_S A s.heap H locs) (hv : v_ND_about_60 I0 I1 I3 J3 I4 I5 I6 I7  Z) : W p l e (headSpec (Cond.code (⟨"NumberDress", "about", "(I)I"⟩ : MethodName) prog_1_method_9_code 3 (some .int) :: zT) { frames := 3, cells := 0, slots := 0, locals := 66 }).room s m args below meth c H locs 0 0 (MQ below (va_Qi Z (zB (dC, dI) zCl [(cA2, .object "NumberDress$Section")] A (fun u : Unit => [(h0, .inr (0, o_ND I0 a0_0 h1 a0_3 h3 a0_5 a0_6)), (h1, .inr (1, o_Code I1 h2 a1_2 a1_3)), (h2, .inl (cA2, 4, .inr (.inr (.inr (.inr (zra ad2 4)))))), (h3, .inr (11, o_Value I3 J3 a3_4)), ((ad2 0), .inr (9, o_Section I4)), ((ad2 1), .inr (9, o_Section I5)), ((ad2 2), .inr (9, o_Section I6)), ((ad2 3), .inr (9, o_Section I7))])) A) args s 0 0 A) (F0 m 60 ls [.null]) := by
  obtain ⟨hx, hb, hr, hml, hown, ht, hlocks⟩ := id hc
  unfold v_ND_about_60 at hv
  refine lv_astore_nN (lv' := [(2, .null)]) hx hb d_ND_about_60 rfl hl (by decide) rfl (fun ls hl => ?_)
  refine lv_aload_nN hx hb d_ND_about_61 rfl (lv_at hl 0 rfl) ?_
  refine lv_ifnonnullN hx hb d_ND_about_62 ?_
  refine lv_iconst (v := (-1 : Int32)) hx hb d_ND_about_65 (by decide) ?_
  refine lv_goto (tgt := 73) hx hb d_ND_about_66 (by decide) ?_
  exact W.iret (v := (-1 : Int32)) hx hb hr (fun t ht hW => ⟨⟨_, (), rfl, hv, ⟨by rw [ht]; exact hP, va_K.moved hW.alike hK, hD⟩⟩, hS.F ht⟩) hS.2.2 d_ND_about_73
set_option maxHeartbeats 4000000 in
set_option maxRecDepth 100000 in
theorem b_ND_about_60v1 {h0 : Nat} {a0_0 : Nat} {a0_3 : Nat} {a0_5 : Nat} {a0_6 : Nat} {h1 : Nat} {a1_2 : Nat} {a1_3 : Nat} {h2 : Nat} {cA2 : ClassId} {ad2 : Nat → Nat} {h3 : Nat} {a3_4 : Nat} {I0 : Nat → Int32} {I1 : Nat → Int32} {I3 : Nat → Int32} {J3 : Nat → Int64} {I4 : Nat → Int32} {I5 : Nat → Int32} {I6 : Nat → Int32} {I7 : Nat → Int32} {s0 : Nat}  {Z : Int32 → Unit → Prop} {H : Heap} {locs : List Loc} {ls : Array Slot} (hc : zC p s m args meth c prog_1_method_9_code (some .int) 3 "NumberDress") (hA : ∀ q : Nat, s.heap.size ≤ q → A q) (hE : zE gE A s) (hl : lv_has ls 3 []) (hK : va_K (dC, dI) zCl [(cA2, .object "NumberDress$Section")] s) (hP : va_P (dC, dI) zCl [(h0, .inr (0, o_ND I0 a0_0 h1 a0_3 h3 a0_5 a0_6)), (h1, .inr (1, o_Code I1 h2 a1_2 a1_3)), (h2, .inl (cA2, 4, .inr (.inr (.inr (.inr (zra ad2 4)))))), (h3, .inr (11, o_Value I3 J3 a3_4)), ((ad2 0), .inr (9, o_Section I4)), ((ad2 1), .inr (9, o_Section I5)), ((ad2 2), .inr (9, o_Section I6)), ((ad2 3), .inr (9, o_Section I7))] H) (hD : va_D A [(h0, .inr (0, o_ND I0 a0_0 h1 a0_3 h3 a0_5 a0_6)), (h1, .inr (1, o_Code I1 h2 a1_2 a1_3)), (h2, .inl (cA2, 4, .inr (.inr (.inr (.inr (zra ad2 4)))))), (h3, .inr (11, o_Value I3 J3 a3_4)), ((ad2 0), .inr (9, o_Section I4)), ((ad2 1), .inr (9, o_Section I5)), ((ad2 2), .inr (9, o_Section I6)), ((ad2 3), .inr (9, o_Section I7))]) (hS : va_S A s.heap H locs) (hv : v_ND_about_60v1 I0 I1 I3 J3 I4 I5 I6 I7 s0  Z) : W p l e (headSpec (Cond.code (⟨"NumberDress", "about", "(I)I"⟩ : MethodName) prog_1_method_9_code 3 (some .int) :: zT) { frames := 3, cells := 0, slots := 0, locals := 66 }).room s m args below meth c H locs 0 0 (MQ below (va_Qi Z (zB (dC, dI) zCl [(cA2, .object "NumberDress$Section")] A (fun u : Unit => [(h0, .inr (0, o_ND I0 a0_0 h1 a0_3 h3 a0_5 a0_6)), (h1, .inr (1, o_Code I1 h2 a1_2 a1_3)), (h2, .inl (cA2, 4, .inr (.inr (.inr (.inr (zra ad2 4)))))), (h3, .inr (11, o_Value I3 J3 a3_4)), ((ad2 0), .inr (9, o_Section I4)), ((ad2 1), .inr (9, o_Section I5)), ((ad2 2), .inr (9, o_Section I6)), ((ad2 3), .inr (9, o_Section I7))])) A) args s 0 0 A) (F0 m 60 ls [.ref (ad2 s0)]) := by
  obtain ⟨hx, hb, hr, hml, hown, ht, hlocks⟩ := id hc
  unfold v_ND_about_60v1 at hv
  refine lv_astore_n (lv' := [(2, .ref (ad2 s0))]) hx hb d_ND_about_60 rfl hl (by decide) rfl (fun ls hl => ?_)
  refine lv_aload_n hx hb d_ND_about_61 rfl (lv_at hl 0 rfl) ?_
  refine lv_ifnonnull (tgt := 69) hx hb d_ND_about_62 (by decide) ?_
  refine lv_aload_n hx hb d_ND_about_69 rfl (lv_at hl 0 rfl) ?_
  obtain ⟨q_1, hv⟩ := hv
  rcases z4 q_1 with rfl | rfl | rfl | rfl
  · have hv := hv.1 rfl
    refine va_get (D := (dC, dI)) (ci := 9) (v := .int (I4 0)) (C := "NumberDress$Section") (T := T_Section) (N := 15) hx hb ht zin_Section hown hK hP 4 rfl rfl 0 (by decide) (ht _ zw_161) (fun _ h9 => h9) rfl d_ND_about_70 ?_
    exact W.iret (v := (I4 0)) hx hb hr (fun t ht hW => ⟨⟨_, (), rfl, hv, ⟨by rw [ht]; exact hP, va_K.moved hW.alike hK, hD⟩⟩, hS.F ht⟩) hS.2.2 d_ND_about_73
  · have hv := hv.2.1 rfl
    refine va_get (D := (dC, dI)) (ci := 9) (v := .int (I5 0)) (C := "NumberDress$Section") (T := T_Section) (N := 15) hx hb ht zin_Section hown hK hP 5 rfl rfl 0 (by decide) (ht _ zw_161) (fun _ h9 => h9) rfl d_ND_about_70 ?_
    exact W.iret (v := (I5 0)) hx hb hr (fun t ht hW => ⟨⟨_, (), rfl, hv, ⟨by rw [ht]; exact hP, va_K.moved hW.alike hK, hD⟩⟩, hS.F ht⟩) hS.2.2 d_ND_about_73
  · have hv := hv.2.2.1 rfl
    refine va_get (D := (dC, dI)) (ci := 9) (v := .int (I6 0)) (C := "NumberDress$Section") (T := T_Section) (N := 15) hx hb ht zin_Section hown hK hP 6 rfl rfl 0 (by decide) (ht _ zw_161) (fun _ h9 => h9) rfl d_ND_about_70 ?_
    exact W.iret (v := (I6 0)) hx hb hr (fun t ht hW => ⟨⟨_, (), rfl, hv, ⟨by rw [ht]; exact hP, va_K.moved hW.alike hK, hD⟩⟩, hS.F ht⟩) hS.2.2 d_ND_about_73
  · have hv := hv.2.2.2 rfl
    refine va_get (D := (dC, dI)) (ci := 9) (v := .int (I7 0)) (C := "NumberDress$Section") (T := T_Section) (N := 15) hx hb ht zin_Section hown hK hP 7 rfl rfl 0 (by decide) (ht _ zw_161) (fun _ h9 => h9) rfl d_ND_about_70 ?_
    exact W.iret (v := (I7 0)) hx hb hr (fun t ht hW => ⟨⟨_, (), rfl, hv, ⟨by rw [ht]; exact hP, va_K.moved hW.alike hK, hD⟩⟩, hS.F ht⟩) hS.2.2 d_ND_about_73
set_option maxHeartbeats 4000000 in
set_option maxRecDepth 100000 in
theorem b_ND_about_9 {h0 : Nat} {a0_0 : Nat} {a0_3 : Nat} {a0_5 : Nat} {a0_6 : Nat} {h1 : Nat} {a1_2 : Nat} {a1_3 : Nat} {h2 : Nat} {cA2 : ClassId} {ad2 : Nat → Nat} {h3 : Nat} {a3_4 : Nat} {I0 : Nat → Int32} {I1 : Nat → Int32} {I3 : Nat → Int32} {J3 : Nat → Int64} {I4 : Nat → Int32} {I5 : Nat → Int32} {I6 : Nat → Int32} {I7 : Nat → Int32}  {Z : Int32 → Unit → Prop} {H : Heap} {locs : List Loc} {ls : Array Slot} (hc : zC p s m args meth c prog_1_method_9_code (some .int) 3 "NumberDress") (hA : ∀ q : Nat, s.heap.size ≤ q → A q) (hE : zE gE A s) (hl : lv_has ls 3 []) (hK : va_K (dC, dI) zCl [(cA2, .object "NumberDress$Section")] s) (hP : va_P (dC, dI) zCl [(h0, .inr (0, o_ND I0 a0_0 h1 a0_3 h3 a0_5 a0_6)), (h1, .inr (1, o_Code I1 h2 a1_2 a1_3)), (h2, .inl (cA2, 4, .inr (.inr (.inr (.inr (zra ad2 4)))))), (h3, .inr (11, o_Value I3 J3 a3_4)), ((ad2 0), .inr (9, o_Section I4)), ((ad2 1), .inr (9, o_Section I5)), ((ad2 2), .inr (9, o_Section I6)), ((ad2 3), .inr (9, o_Section I7))] H) (hD : va_D A [(h0, .inr (0, o_ND I0 a0_0 h1 a0_3 h3 a0_5 a0_6)), (h1, .inr (1, o_Code I1 h2 a1_2 a1_3)), (h2, .inl (cA2, 4, .inr (.inr (.inr (.inr (zra ad2 4)))))), (h3, .inr (11, o_Value I3 J3 a3_4)), ((ad2 0), .inr (9, o_Section I4)), ((ad2 1), .inr (9, o_Section I5)), ((ad2 2), .inr (9, o_Section I6)), ((ad2 3), .inr (9, o_Section I7))]) (hS : va_S A s.heap H locs) (hv : v_ND_about_9 I0 I1 I3 J3 I4 I5 I6 I7  Z) : W p l e (headSpec (Cond.code (⟨"NumberDress", "about", "(I)I"⟩ : MethodName) prog_1_method_9_code 3 (some .int) :: zT) { frames := 3, cells := 0, slots := 0, locals := 66 }).room s m args below meth c H locs 0 0 (MQ below (va_Qi Z (zB (dC, dI) zCl [(cA2, .object "NumberDress$Section")] A (fun u : Unit => [(h0, .inr (0, o_ND I0 a0_0 h1 a0_3 h3 a0_5 a0_6)), (h1, .inr (1, o_Code I1 h2 a1_2 a1_3)), (h2, .inl (cA2, 4, .inr (.inr (.inr (.inr (zra ad2 4)))))), (h3, .inr (11, o_Value I3 J3 a3_4)), ((ad2 0), .inr (9, o_Section I4)), ((ad2 1), .inr (9, o_Section I5)), ((ad2 2), .inr (9, o_Section I6)), ((ad2 3), .inr (9, o_Section I7))])) A) args s 0 0 A) (F0 m 9 ls []) := by
  obtain ⟨hx, hb, hr, hml, hown, ht, hlocks⟩ := id hc
  unfold v_ND_about_9 at hv
  exact hv.elim
set_option maxHeartbeats 4000000 in
set_option maxRecDepth 100000 in
theorem b_ND_about_0 {h0 : Nat} {a0_0 : Nat} {a0_3 : Nat} {a0_5 : Nat} {a0_6 : Nat} {h1 : Nat} {a1_2 : Nat} {a1_3 : Nat} {h2 : Nat} {cA2 : ClassId} {ad2 : Nat → Nat} {h3 : Nat} {a3_4 : Nat} {I0 : Nat → Int32} {I1 : Nat → Int32} {I3 : Nat → Int32} {J3 : Nat → Int64} {I4 : Nat → Int32} {I5 : Nat → Int32} {I6 : Nat → Int32} {I7 : Nat → Int32} {x1 : Int32}  {Z : Int32 → Unit → Prop} {H : Heap} {locs : List Loc} {ls : Array Slot} (hc : zC p s m args meth c prog_1_method_9_code (some .int) 3 "NumberDress") (hA : ∀ q : Nat, s.heap.size ≤ q → A q) (hE : zE gE A s) (hl : lv_has ls 3 [(0, .ref h0), (1, .int x1)]) (hK : va_K (dC, dI) zCl [(cA2, .object "NumberDress$Section")] s) (hP : va_P (dC, dI) zCl [(h0, .inr (0, o_ND I0 a0_0 h1 a0_3 h3 a0_5 a0_6)), (h1, .inr (1, o_Code I1 h2 a1_2 a1_3)), (h2, .inl (cA2, 4, .inr (.inr (.inr (.inr (zra ad2 4)))))), (h3, .inr (11, o_Value I3 J3 a3_4)), ((ad2 0), .inr (9, o_Section I4)), ((ad2 1), .inr (9, o_Section I5)), ((ad2 2), .inr (9, o_Section I6)), ((ad2 3), .inr (9, o_Section I7))] H) (hD : va_D A [(h0, .inr (0, o_ND I0 a0_0 h1 a0_3 h3 a0_5 a0_6)), (h1, .inr (1, o_Code I1 h2 a1_2 a1_3)), (h2, .inl (cA2, 4, .inr (.inr (.inr (.inr (zra ad2 4)))))), (h3, .inr (11, o_Value I3 J3 a3_4)), ((ad2 0), .inr (9, o_Section I4)), ((ad2 1), .inr (9, o_Section I5)), ((ad2 2), .inr (9, o_Section I6)), ((ad2 3), .inr (9, o_Section I7))]) (hS : va_S A s.heap H locs) (hv : v_ND_about_0 I0 I1 I3 J3 I4 I5 I6 I7 x1  Z) : W p l e (headSpec (Cond.code (⟨"NumberDress", "about", "(I)I"⟩ : MethodName) prog_1_method_9_code 3 (some .int) :: zT) { frames := 3, cells := 0, slots := 0, locals := 66 }).room s m args below meth c H locs 0 0 (MQ below (va_Qi Z (zB (dC, dI) zCl [(cA2, .object "NumberDress$Section")] A (fun u : Unit => [(h0, .inr (0, o_ND I0 a0_0 h1 a0_3 h3 a0_5 a0_6)), (h1, .inr (1, o_Code I1 h2 a1_2 a1_3)), (h2, .inl (cA2, 4, .inr (.inr (.inr (.inr (zra ad2 4)))))), (h3, .inr (11, o_Value I3 J3 a3_4)), ((ad2 0), .inr (9, o_Section I4)), ((ad2 1), .inr (9, o_Section I5)), ((ad2 2), .inr (9, o_Section I6)), ((ad2 3), .inr (9, o_Section I7))])) A) args s 0 0 A) (F0 m 0 ls []) := by
  obtain ⟨hx, hb, hr, hml, hown, ht, hlocks⟩ := id hc
  unfold v_ND_about_0 at hv
  refine lv_iload_n hx hb d_ND_about_0 rfl (lv_at hl 1 rfl) ?_
  refine lv_if_lt (tgt := 9) hx hb d_ND_about_1 (by decide) (fun c_1 => ?_) (fun c_1 => ?_)
  · have hv := hv.1 c_1
    exact b_ND_about_9 hc hA hE  (lv_sub hl [] rfl) hK hP hD hS hv
  · have hv := hv.2 c_1
    refine lv_iload_n hx hb d_ND_about_4 rfl (lv_at hl 1 rfl) ?_
    refine lv_iconst (v := (5 : Int32)) hx hb d_ND_about_5 (by decide) ?_
    refine lv_icmp_le (tgt := 19) hx hb d_ND_about_6 (by decide) (fun c_2 => ?_) (fun c_2 => ?_)
    · have hv := hv.1 c_2
      refine lv_iload_n hx hb d_ND_about_19 rfl (lv_at hl 1 rfl) ?_
      refine lv_if_ne (tgt := 31) hx hb d_ND_about_20 (by decide) (fun c_3 => ?_) (fun c_3 => ?_)
      · have hv := hv.1 c_3
        refine lv_iload_n hx hb d_ND_about_31 rfl (lv_at hl 1 rfl) ?_
        refine lv_iconst (v := (5 : Int32)) hx hb d_ND_about_32 (by decide) ?_
        refine lv_icmp_ne (tgt := 50) hx hb d_ND_about_33 (by decide) (fun c_4 => ?_) (fun c_4 => ?_)
        · have hv := hv.1 c_4
          refine lv_aload_n hx hb d_ND_about_50 rfl (lv_at hl 0 rfl) ?_
          refine va_get (D := (dC, dI)) (ci := 0) (v := .ref h1) (C := "NumberDress") (T := T_ND) (N := 7) hx hb ht zin_ND hown hK hP 0 rfl rfl 2 (by decide) (ht _ zw_469) (fun _ h9 => h9) rfl d_ND_about_51 ?_
          refine lv_iload_n hx hb d_ND_about_54 rfl (lv_at hl 1 rfl) ?_
          refine lv_iconst (v := (1 : Int32)) hx hb d_ND_about_55 (by decide) ?_
          refine lv_isub hx hb d_ND_about_56 ?_
          refine z_callq (wc := [(h1, .inr (1, o_Code I1 h2 a1_2 a1_3)), (h2, .inl (cA2, 4, .inr (.inr (.inr (.inr (zra ad2 4))))))]) (wr := [(h0, .inr (0, o_ND I0 a0_0 h1 a0_3 h3 a0_5 a0_6)), (h3, .inr (11, o_Value I3 J3 a3_4)), ((ad2 0), .inr (9, o_Section I4)), ((ad2 1), .inr (9, o_Section I5)), ((ad2 2), .inr (9, o_Section I6)), ((ad2 3), .inr (9, o_Section I7))]) [1, 2] [0, 3, 4, 5, 6, 7] (va_runV (As := [.int (x1 - (1 : Int32))]) (rest := []) ⟨hx, hb, hml, hown, ht⟩ (m_Code_section l dC dI hv) ⟨(callB_of 1 ht (zG_in zi_Code_section) rfl rfl rfl (ht _ zw_111) (ht _ zw_1254) zh_Code_section ⟨Nat.le_of_ble_eq_true rfl, Nat.le_of_ble_eq_true rfl⟩), (ht _ zw_851), (ht _ zw_852)⟩ ⟨zPc_blind, va_recv hK hP (ci := 1) (q0 := 1) rfl rfl, zPc_pre hP hK hD hS hA hE [1, 2] [0] rfl rfl (by decide) rfl⟩ rfl rfl hl.1 rfl (lv_room (Nat.le_of_ble_eq_true rfl)) d_ND_about_57 ⟨Nat.le_of_ble_eq_true rfl, Nat.le_of_ble_eq_true rfl⟩) hP hD hS hA rfl rfl (by decide) (by decide) (fun r u H locs hv hP0 hD0 hS => ?_)
          have hP : va_P (dC, dI) zCl [(h0, .inr (0, o_ND I0 a0_0 h1 a0_3 h3 a0_5 a0_6)), (h1, .inr (1, o_Code I1 h2 a1_2 a1_3)), (h2, .inl (cA2, 4, .inr (.inr (.inr (.inr (zra ad2 4)))))), (h3, .inr (11, o_Value I3 J3 a3_4)), ((ad2 0), .inr (9, o_Section I4)), ((ad2 1), .inr (9, o_Section I5)), ((ad2 2), .inr (9, o_Section I6)), ((ad2 3), .inr (9, o_Section I7))] H := hP0.sub [0, 6, 7, 1, 2, 3, 4, 5] rfl
          have hD : va_D A [(h0, .inr (0, o_ND I0 a0_0 h1 a0_3 h3 a0_5 a0_6)), (h1, .inr (1, o_Code I1 h2 a1_2 a1_3)), (h2, .inl (cA2, 4, .inr (.inr (.inr (.inr (zra ad2 4)))))), (h3, .inr (11, o_Value I3 J3 a3_4)), ((ad2 0), .inr (9, o_Section I4)), ((ad2 1), .inr (9, o_Section I5)), ((ad2 2), .inr (9, o_Section I6)), ((ad2 3), .inr (9, o_Section I7))] := hD0.sub [0, 6, 7, 1, 2, 3, 4, 5] (by decide) rfl
          clear hP0 hD0
          rcases r with _ | j
          · have hv := hv.1 rfl
            exact b_ND_about_60 hc hA hE  (lv_sub hl [] rfl) hK hP hD hS hv
          · have hv := hv.2 j rfl
            exact b_ND_about_60v1 hc hA hE  (lv_sub hl [] rfl) hK hP hD hS hv
        · have hv := hv.2 c_4
          refine lv_aload_n hx hb d_ND_about_36 rfl (lv_at hl 0 rfl) ?_
          refine va_get (D := (dC, dI)) (ci := 0) (v := .ref h1) (C := "NumberDress") (T := T_ND) (N := 7) hx hb ht zin_ND hown hK hP 0 rfl rfl 2 (by decide) (ht _ zw_469) (fun _ h9 => h9) rfl d_ND_about_37 ?_
          refine lv_aload_n hx hb d_ND_about_40 rfl (lv_at hl 0 rfl) ?_
          refine va_get (D := (dC, dI)) (ci := 0) (v := .ref h3) (C := "NumberDress") (T := T_ND) (N := 7) hx hb ht zin_ND hown hK hP 0 rfl rfl 4 (by decide) (ht _ zw_471) (fun _ h9 => h9) rfl d_ND_about_41 ?_
          refine z_calli (wc := [(h1, .inr (1, o_Code I1 h2 a1_2 a1_3)), (h3, .inr (11, o_Value I3 J3 a3_4)), (h2, .inl (cA2, 4, .inr (.inr (.inr (.inr (zra ad2 4)))))), ((ad2 0), .inr (9, o_Section I4)), ((ad2 1), .inr (9, o_Section I5)), ((ad2 2), .inr (9, o_Section I6)), ((ad2 3), .inr (9, o_Section I7))]) (wr := [(h0, .inr (0, o_ND I0 a0_0 h1 a0_3 h3 a0_5 a0_6))]) [1, 3, 2, 4, 5, 6, 7] [0] (va_runV (As := [.ref h3]) (rest := []) ⟨hx, hb, hml, hown, ht⟩ (m_Code_sectionFor l dC dI hv) ⟨(callB_of 1 ht (zG_in zi_Code_sectionFor) rfl rfl rfl (ht _ zw_111) (ht _ zw_1253) zh_Code_sectionFor ⟨Nat.le_of_ble_eq_true rfl, Nat.le_of_ble_eq_true rfl⟩), (ht _ zw_843), (ht _ zw_844)⟩ ⟨zPc_blind, va_recv hK hP (ci := 1) (q0 := 1) rfl rfl, zPc_pre hP hK hD hS hA hE [1, 3, 2, 4, 5, 6, 7] [0] rfl rfl (by decide) rfl⟩ rfl rfl hl.1 rfl (lv_room (Nat.le_of_ble_eq_true rfl)) d_ND_about_44 ⟨Nat.le_of_ble_eq_true rfl, Nat.le_of_ble_eq_true rfl⟩) hP hD hS hA rfl rfl (by decide) (by decide) (fun r u H locs hv hP hD hS => ?_)
          have hP : va_P (dC, dI) zCl [(h0, .inr (0, o_ND I0 a0_0 h1 a0_3 h3 a0_5 a0_6)), (h1, .inr (1, o_Code I1 h2 a1_2 a1_3)), (h2, .inl (cA2, 4, .inr (.inr (.inr (.inr (zra ad2 4)))))), (h3, .inr (11, o_Value I3 J3 a3_4)), ((ad2 0), .inr (9, o_Section I4)), ((ad2 1), .inr (9, o_Section I5)), ((ad2 2), .inr (9, o_Section I6)), ((ad2 3), .inr (9, o_Section I7))] H := hP.sub [0, 1, 3, 2, 4, 5, 6, 7] rfl
          have hD : va_D A [(h0, .inr (0, o_ND I0 a0_0 h1 a0_3 h3 a0_5 a0_6)), (h1, .inr (1, o_Code I1 h2 a1_2 a1_3)), (h2, .inl (cA2, 4, .inr (.inr (.inr (.inr (zra ad2 4)))))), (h3, .inr (11, o_Value I3 J3 a3_4)), ((ad2 0), .inr (9, o_Section I4)), ((ad2 1), .inr (9, o_Section I5)), ((ad2 2), .inr (9, o_Section I6)), ((ad2 3), .inr (9, o_Section I7))] := hD.sub [0, 1, 3, 2, 4, 5, 6, 7] (by decide) rfl
          exact b_ND_about_47 hc hA hE  (lv_sub hl [] rfl) hK hP hD hS hv
      · have hv := hv.2 c_3
        refine lv_aload_n hx hb d_ND_about_23 rfl (lv_at hl 0 rfl) ?_
        refine va_get (D := (dC, dI)) (ci := 0) (v := .ref h1) (C := "NumberDress") (T := T_ND) (N := 7) hx hb ht zin_ND hown hK hP 0 rfl rfl 2 (by decide) (ht _ zw_469) (fun _ h9 => h9) rfl d_ND_about_24 ?_
        refine va_get (D := (dC, dI)) (ci := 1) (v := .int (I1 1)) (C := "NumberDress$Code") (T := T_Code) (N := 5) hx hb ht zin_Code hown hK hP 1 rfl rfl 1 (by decide) (ht _ zw_245) (fun _ h9 => h9) rfl d_ND_about_27 ?_
        exact W.iret (v := (I1 1)) hx hb hr (fun t ht hW => ⟨⟨_, (), rfl, hv, ⟨by rw [ht]; exact hP, va_K.moved hW.alike hK, hD⟩⟩, hS.F ht⟩) hS.2.2 d_ND_about_30
    · have hv := hv.2 c_2
      exact b_ND_about_9 hc hA hE  (lv_sub hl [] rfl) hK hP hD hS hv
theorem zi_ND_about : Cond.code (⟨"NumberDress", "about", "(I)I"⟩ : MethodName) prog_1_method_9_code 3 (some .int) ∈ zT := zw_1251
theorem zh_ND_about : (((⟨"NumberDress", "about", "(I)I"⟩ : MethodName)).cls ≠ "java/lang/invoke/MethodHandle" ∧ ((⟨"NumberDress", "about", "(I)I"⟩ : MethodName)).cls ≠ "java/lang/invoke/VarHandle" ∧ (parseMethodDescriptor ((⟨"NumberDress", "about", "(I)I"⟩ : MethodName)).desc).map (fun d => d.parameters.length) = some 1) := by decide +kernel
set_option maxHeartbeats 4000000 in
set_option maxRecDepth 100000 in
theorem m_ND_about (l : Launch) (dC : Nat → ClassId) (dI : Nat → Nat → Nat) {gE : zG} {h0 : Nat} {a0_0 : Nat} {a0_3 : Nat} {a0_5 : Nat} {a0_6 : Nat} {h1 : Nat} {a1_2 : Nat} {a1_3 : Nat} {h2 : Nat} {cA2 : ClassId} {ad2 : Nat → Nat} {h3 : Nat} {a3_4 : Nat} {I0 : Nat → Int32} {I1 : Nat → Int32} {I3 : Nat → Int32} {J3 : Nat → Int64} {I4 : Nat → Int32} {I5 : Nat → Int32} {I6 : Nat → Int32} {I7 : Nat → Int32} {x1 : Int32} {sz : Nat} {Z : Int32 → Unit → Prop} (hv : v_ND_about_0 I0 I1 I3 J3 I4 I5 I6 I7 x1 Z) : Met l (⟨"NumberDress", "about", "(I)I"⟩ : MethodName) (Cond.code (⟨"NumberDress", "about", "(I)I"⟩ : MethodName) prog_1_method_9_code 3 (some .int) :: zT) { frames := 3, cells := 0, slots := 0, locals := 66 } (zPc gE (dC, dI) zCl [(cA2, .object "NumberDress$Section")] [.ref h0, .int x1] sz [(h0, .inr (0, o_ND I0 a0_0 h1 a0_3 h3 a0_5 a0_6)), (h1, .inr (1, o_Code I1 h2 a1_2 a1_3)), (h2, .inl (cA2, 4, .inr (.inr (.inr (.inr (zra ad2 4)))))), (h3, .inr (11, o_Value I3 J3 a3_4)), ((ad2 0), .inr (9, o_Section I4)), ((ad2 1), .inr (9, o_Section I5)), ((ad2 2), .inr (9, o_Section I6)), ((ad2 3), .inr (9, o_Section I7))]) (va_Qi Z (zB (dC, dI) zCl [(cA2, .object "NumberDress$Section")] (va_A [(h0, .inr (0, o_ND I0 a0_0 h1 a0_3 h3 a0_5 a0_6)), (h1, .inr (1, o_Code I1 h2 a1_2 a1_3)), (h2, .inl (cA2, 4, .inr (.inr (.inr (.inr (zra ad2 4)))))), (h3, .inr (11, o_Value I3 J3 a3_4)), ((ad2 0), .inr (9, o_Section I4)), ((ad2 1), .inr (9, o_Section I5)), ((ad2 2), .inr (9, o_Section I6)), ((ad2 3), .inr (9, o_Section I7))] sz) (fun u : Unit => [(h0, .inr (0, o_ND I0 a0_0 h1 a0_3 h3 a0_5 a0_6)), (h1, .inr (1, o_Code I1 h2 a1_2 a1_3)), (h2, .inl (cA2, 4, .inr (.inr (.inr (.inr (zra ad2 4)))))), (h3, .inr (11, o_Value I3 J3 a3_4)), ((ad2 0), .inr (9, o_Section I4)), ((ad2 1), .inr (9, o_Section I5)), ((ad2 2), .inr (9, o_Section I6)), ((ad2 3), .inr (9, o_Section I7))])) (va_A [(h0, .inr (0, o_ND I0 a0_0 h1 a0_3 h3 a0_5 a0_6)), (h1, .inr (1, o_Code I1 h2 a1_2 a1_3)), (h2, .inl (cA2, 4, .inr (.inr (.inr (.inr (zra ad2 4)))))), (h3, .inr (11, o_Value I3 J3 a3_4)), ((ad2 0), .inr (9, o_Section I4)), ((ad2 1), .inr (9, o_Section I5)), ((ad2 2), .inr (9, o_Section I6)), ((ad2 3), .inr (9, o_Section I7))] sz)) 0 0 (va_A [(h0, .inr (0, o_ND I0 a0_0 h1 a0_3 h3 a0_5 a0_6)), (h1, .inr (1, o_Code I1 h2 a1_2 a1_3)), (h2, .inl (cA2, 4, .inr (.inr (.inr (.inr (zra ad2 4)))))), (h3, .inr (11, o_Value I3 J3 a3_4)), ((ad2 0), .inr (9, o_Section I4)), ((ad2 1), .inr (9, o_Section I5)), ((ad2 2), .inr (9, o_Section I6)), ((ad2 3), .inr (9, o_Section I7))] sz) := by
  refine Met.ofW (cc := prog_1_method_9_code) (maxL := 3) (ret := (some .int)) (by decide +kernel) rfl ?_
  intro p e s m args below meth c s₁ B hml hp
  obtain ⟨rfl, hsz, hP, hK, hD0, hE⟩ := hp
  have hts := atoms_spec (ws := (Cond.code (⟨"NumberDress", "about", "(I)I"⟩ : MethodName) prog_1_method_9_code 3 (some .int) :: zT)) B.pre
  have hown : s.vm.findClass "NumberDress" = some m.cls := findClass_of_methodNamed B.named
  have hc : zC p s m _ meth c prog_1_method_9_code (some .int) 3 "NumberDress" := ⟨B.exec, B.bytes, B.returns, hml, hown, fun w h => hts w (List.mem_cons_of_mem _ h), B.notSynchronized⟩
  subst hsz
  have hD := hD0.self (sz := s.heap.size)
  generalize hAe : va_A [(h0, .inr (0, o_ND I0 a0_0 h1 a0_3 h3 a0_5 a0_6)), (h1, .inr (1, o_Code I1 h2 a1_2 a1_3)), (h2, .inl (cA2, 4, .inr (.inr (.inr (.inr (zra ad2 4)))))), (h3, .inr (11, o_Value I3 J3 a3_4)), ((ad2 0), .inr (9, o_Section I4)), ((ad2 1), .inr (9, o_Section I5)), ((ad2 2), .inr (9, o_Section I6)), ((ad2 3), .inr (9, o_Section I7))] s.heap.size = A at hD hE ⊢
  have hA : ∀ q : Nat, s.heap.size ≤ q → A q := fun q h => by rw [← hAe]; exact Or.inr h
  have hl := lv_entry ([.ref h0, .int x1]) (n := 3) (Nat.le_of_ble_eq_true rfl)
  rw [lg_entry_eq]
  exact b_ND_about_0 hc hA hE hl hK hP hD va_S.rf hv
theorem d_M_thrown_0 : decode prog_14_method_2_code 0 = .ok (.aload_n 0, 1) := by decide +kernel
theorem d_M_thrown_1 : decode prog_14_method_2_code 1 = .ok (.getfield 55, 3) := by decide +kernel
theorem d_M_thrown_4 : decode prog_14_method_2_code 4 = .ok (.ireturn, 1) := by decide +kernel
set_option maxHeartbeats 4000000 in
set_option maxRecDepth 100000 in
theorem b_M_thrown_0 {h0 : Nat} {a0_2 : Nat} {a0_4 : Nat} {a0_5 : Nat} {a0_6 : Nat} {a0_7 : Nat} {a0_8 : Nat} {a0_9 : Nat} {a0_10 : Nat} {a0_11 : Nat} {a0_22 : Nat} {a0_26 : Nat} {a0_29 : Nat} {a0_31 : Nat} {a0_32 : Nat} {a0_34 : Nat} {I0 : Nat → Int32} {J0 : Nat → Int64}  {Z : Int32 → Unit → Prop} {H : Heap} {locs : List Loc} {ls : Array Slot} (hc : zC p s m args meth c prog_14_method_2_code (some .int) 1 "NumberDressModel") (hA : ∀ q : Nat, s.heap.size ≤ q → A q) (hE : zE gE A s) (hl : lv_has ls 1 [(0, .ref h0)]) (hK : va_K (dC, dI) zCl [] s) (hP : va_P (dC, dI) zCl [(h0, .inr (12, o_M I0 J0 a0_2 a0_4 a0_5 a0_6 a0_7 a0_8 a0_9 a0_10 a0_11 a0_22 a0_26 a0_29 a0_31 a0_32 a0_34))] H) (hD : va_D A [(h0, .inr (12, o_M I0 J0 a0_2 a0_4 a0_5 a0_6 a0_7 a0_8 a0_9 a0_10 a0_11 a0_22 a0_26 a0_29 a0_31 a0_32 a0_34))]) (hS : va_S A s.heap H locs) (hv : v_M_thrown_0 I0 J0  Z) : W p l e (headSpec (Cond.code (⟨"NumberDressModel", "thrown", "()I"⟩ : MethodName) prog_14_method_2_code 1 (some .int) :: zT) { frames := 0, cells := 0, slots := 0, locals := 0 }).room s m args below meth c H locs 0 0 (MQ below (va_Qi Z (zB (dC, dI) zCl [] A (fun u : Unit => [(h0, .inr (12, o_M I0 J0 a0_2 a0_4 a0_5 a0_6 a0_7 a0_8 a0_9 a0_10 a0_11 a0_22 a0_26 a0_29 a0_31 a0_32 a0_34))])) A) args s 0 0 A) (F0 m 0 ls []) := by
  obtain ⟨hx, hb, hr, hml, hown, ht, hlocks⟩ := id hc
  unfold v_M_thrown_0 at hv
  refine lv_aload_n hx hb d_M_thrown_0 rfl (lv_at hl 0 rfl) ?_
  refine va_get (D := (dC, dI)) (ci := 12) (v := .int (I0 0)) (C := "NumberDressModel") (T := T_M) (N := 41) hx hb ht zin_M hown hK hP 0 rfl rfl 0 (by decide) (ht _ zw_1261) (fun _ h9 => h9) rfl d_M_thrown_1 ?_
  exact W.iret (v := (I0 0)) hx hb hr (fun t ht hW => ⟨⟨_, (), rfl, hv, ⟨by rw [ht]; exact hP, va_K.moved hW.alike hK, hD⟩⟩, hS.F ht⟩) hS.2.2 d_M_thrown_4
theorem zi_M_thrown : Cond.code (⟨"NumberDressModel", "thrown", "()I"⟩ : MethodName) prog_14_method_2_code 1 (some .int) ∈ zT := zw_1388
theorem zh_M_thrown : (((⟨"NumberDressModel", "thrown", "()I"⟩ : MethodName)).cls ≠ "java/lang/invoke/MethodHandle" ∧ ((⟨"NumberDressModel", "thrown", "()I"⟩ : MethodName)).cls ≠ "java/lang/invoke/VarHandle" ∧ (parseMethodDescriptor ((⟨"NumberDressModel", "thrown", "()I"⟩ : MethodName)).desc).map (fun d => d.parameters.length) = some 0) := by decide +kernel
set_option maxHeartbeats 4000000 in
set_option maxRecDepth 100000 in
theorem m_M_thrown (l : Launch) (dC : Nat → ClassId) (dI : Nat → Nat → Nat) {gE : zG} {h0 : Nat} {a0_2 : Nat} {a0_4 : Nat} {a0_5 : Nat} {a0_6 : Nat} {a0_7 : Nat} {a0_8 : Nat} {a0_9 : Nat} {a0_10 : Nat} {a0_11 : Nat} {a0_22 : Nat} {a0_26 : Nat} {a0_29 : Nat} {a0_31 : Nat} {a0_32 : Nat} {a0_34 : Nat} {I0 : Nat → Int32} {J0 : Nat → Int64} {sz : Nat} {Z : Int32 → Unit → Prop} (hv : v_M_thrown_0 I0 J0 Z) : Met l (⟨"NumberDressModel", "thrown", "()I"⟩ : MethodName) (Cond.code (⟨"NumberDressModel", "thrown", "()I"⟩ : MethodName) prog_14_method_2_code 1 (some .int) :: zT) { frames := 0, cells := 0, slots := 0, locals := 0 } (zPc gE (dC, dI) zCl [] [.ref h0] sz [(h0, .inr (12, o_M I0 J0 a0_2 a0_4 a0_5 a0_6 a0_7 a0_8 a0_9 a0_10 a0_11 a0_22 a0_26 a0_29 a0_31 a0_32 a0_34))]) (va_Qi Z (zB (dC, dI) zCl [] (va_A [(h0, .inr (12, o_M I0 J0 a0_2 a0_4 a0_5 a0_6 a0_7 a0_8 a0_9 a0_10 a0_11 a0_22 a0_26 a0_29 a0_31 a0_32 a0_34))] sz) (fun u : Unit => [(h0, .inr (12, o_M I0 J0 a0_2 a0_4 a0_5 a0_6 a0_7 a0_8 a0_9 a0_10 a0_11 a0_22 a0_26 a0_29 a0_31 a0_32 a0_34))])) (va_A [(h0, .inr (12, o_M I0 J0 a0_2 a0_4 a0_5 a0_6 a0_7 a0_8 a0_9 a0_10 a0_11 a0_22 a0_26 a0_29 a0_31 a0_32 a0_34))] sz)) 0 0 (va_A [(h0, .inr (12, o_M I0 J0 a0_2 a0_4 a0_5 a0_6 a0_7 a0_8 a0_9 a0_10 a0_11 a0_22 a0_26 a0_29 a0_31 a0_32 a0_34))] sz) := by
  refine Met.ofW (cc := prog_14_method_2_code) (maxL := 1) (ret := (some .int)) (by decide +kernel) rfl ?_
  intro p e s m args below meth c s₁ B hml hp
  obtain ⟨rfl, hsz, hP, hK, hD0, hE⟩ := hp
  have hts := atoms_spec (ws := (Cond.code (⟨"NumberDressModel", "thrown", "()I"⟩ : MethodName) prog_14_method_2_code 1 (some .int) :: zT)) B.pre
  have hown : s.vm.findClass "NumberDressModel" = some m.cls := findClass_of_methodNamed B.named
  have hc : zC p s m _ meth c prog_14_method_2_code (some .int) 1 "NumberDressModel" := ⟨B.exec, B.bytes, B.returns, hml, hown, fun w h => hts w (List.mem_cons_of_mem _ h), B.notSynchronized⟩
  subst hsz
  have hD := hD0.self (sz := s.heap.size)
  generalize hAe : va_A [(h0, .inr (12, o_M I0 J0 a0_2 a0_4 a0_5 a0_6 a0_7 a0_8 a0_9 a0_10 a0_11 a0_22 a0_26 a0_29 a0_31 a0_32 a0_34))] s.heap.size = A at hD hE ⊢
  have hA : ∀ q : Nat, s.heap.size ≤ q → A q := fun q h => by rw [← hAe]; exact Or.inr h
  have hl := lv_entry ([.ref h0]) (n := 1) (Nat.le_of_ble_eq_true rfl)
  rw [lg_entry_eq]
  exact b_M_thrown_0 hc hA hE hl hK hP hD va_S.rf hv
theorem d_M_small_0 : decode prog_14_method_3_code 0 = .ok (.iload_n 0, 1) := by decide +kernel
theorem d_M_small_1 : decode prog_14_method_3_code 1 = .ok (.bipush 65, 2) := by decide +kernel
theorem d_M_small_3 : decode prog_14_method_3_code 3 = .ok (.if_icmp .lt 16, 3) := by decide +kernel
theorem d_M_small_6 : decode prog_14_method_3_code 6 = .ok (.iload_n 0, 1) := by decide +kernel
theorem d_M_small_7 : decode prog_14_method_3_code 7 = .ok (.bipush 90, 2) := by decide +kernel
theorem d_M_small_9 : decode prog_14_method_3_code 9 = .ok (.if_icmp .gt 10, 3) := by decide +kernel
theorem d_M_small_12 : decode prog_14_method_3_code 12 = .ok (.iload_n 0, 1) := by decide +kernel
theorem d_M_small_13 : decode prog_14_method_3_code 13 = .ok (.bipush 32, 2) := by decide +kernel
theorem d_M_small_15 : decode prog_14_method_3_code 15 = .ok (.iadd, 1) := by decide +kernel
theorem d_M_small_16 : decode prog_14_method_3_code 16 = .ok (.goto 4, 3) := by decide +kernel
theorem d_M_small_19 : decode prog_14_method_3_code 19 = .ok (.iload_n 0, 1) := by decide +kernel
theorem d_M_small_20 : decode prog_14_method_3_code 20 = .ok (.ireturn, 1) := by decide +kernel
set_option maxHeartbeats 4000000 in
set_option maxRecDepth 100000 in
theorem b_M_small_0  {x0 : Int32}  {Z : Int32 → Unit → Prop} {H : Heap} {locs : List Loc} {ls : Array Slot} (hc : zC p s m args meth c prog_14_method_3_code (some .int) 1 "NumberDressModel") (hA : ∀ q : Nat, s.heap.size ≤ q → A q) (hE : zE gE A s) (hl : lv_has ls 1 [(0, .int x0)]) (hK : va_K (dC, dI) zCl [] s) (hP : va_P (dC, dI) zCl [] H) (hD : va_D A []) (hS : va_S A s.heap H locs) (hv : v_M_small_0 x0  Z) : W p l e (headSpec (Cond.code (⟨"NumberDressModel", "small", "(I)I"⟩ : MethodName) prog_14_method_3_code 1 (some .int) :: zT) { frames := 0, cells := 0, slots := 0, locals := 0 }).room s m args below meth c H locs 0 0 (MQ below (va_Qi Z (zB (dC, dI) zCl [] A (fun u : Unit => [])) A) args s 0 0 A) (F0 m 0 ls []) := by
  obtain ⟨hx, hb, hr, hml, hown, ht, hlocks⟩ := id hc
  unfold v_M_small_0 at hv
  refine lv_iload_n hx hb d_M_small_0 rfl (lv_at hl 0 rfl) ?_
  refine lv_bipush (v := (65 : Int32)) hx hb d_M_small_1 (by decide) ?_
  refine lv_icmp_lt (tgt := 19) hx hb d_M_small_3 (by decide) (fun c_1 => ?_) (fun c_1 => ?_)
  · have hv := hv.1 c_1
    refine lv_iload_n hx hb d_M_small_19 rfl (lv_at hl 0 rfl) ?_
    exact W.iret (v := x0) hx hb hr (fun t ht hW => ⟨⟨_, (), rfl, hv, ⟨by rw [ht]; exact hP, va_K.moved hW.alike hK, hD⟩⟩, hS.F ht⟩) hS.2.2 d_M_small_20
  · have hv := hv.2 c_1
    refine lv_iload_n hx hb d_M_small_6 rfl (lv_at hl 0 rfl) ?_
    refine lv_bipush (v := (90 : Int32)) hx hb d_M_small_7 (by decide) ?_
    refine lv_icmp_gt (tgt := 19) hx hb d_M_small_9 (by decide) (fun c_2 => ?_) (fun c_2 => ?_)
    · have hv := hv.1 c_2
      refine lv_iload_n hx hb d_M_small_19 rfl (lv_at hl 0 rfl) ?_
      exact W.iret (v := x0) hx hb hr (fun t ht hW => ⟨⟨_, (), rfl, hv, ⟨by rw [ht]; exact hP, va_K.moved hW.alike hK, hD⟩⟩, hS.F ht⟩) hS.2.2 d_M_small_20
    · have hv := hv.2 c_2
      refine lv_iload_n hx hb d_M_small_12 rfl (lv_at hl 0 rfl) ?_
      refine lv_bipush (v := (32 : Int32)) hx hb d_M_small_13 (by decide) ?_
      refine lv_iadd hx hb d_M_small_15 ?_
      refine lv_goto (tgt := 20) hx hb d_M_small_16 (by decide) ?_
      exact W.iret (v := (x0 + (32 : Int32))) hx hb hr (fun t ht hW => ⟨⟨_, (), rfl, hv, ⟨by rw [ht]; exact hP, va_K.moved hW.alike hK, hD⟩⟩, hS.F ht⟩) hS.2.2 d_M_small_20
theorem zi_M_small : Cond.code (⟨"NumberDressModel", "small", "(I)I"⟩ : MethodName) prog_14_method_3_code 1 (some .int) ∈ zT := zw_1448
theorem zh_M_small : (((⟨"NumberDressModel", "small", "(I)I"⟩ : MethodName)).cls ≠ "java/lang/invoke/MethodHandle" ∧ ((⟨"NumberDressModel", "small", "(I)I"⟩ : MethodName)).cls ≠ "java/lang/invoke/VarHandle" ∧ (parseMethodDescriptor ((⟨"NumberDressModel", "small", "(I)I"⟩ : MethodName)).desc).map (fun d => d.parameters.length) = some 1) := by decide +kernel
set_option maxHeartbeats 4000000 in
set_option maxRecDepth 100000 in
theorem m_M_small (l : Launch) (dC : Nat → ClassId) (dI : Nat → Nat → Nat) {gE : zG}  {x0 : Int32} {sz : Nat} {Z : Int32 → Unit → Prop} (hv : v_M_small_0 x0 Z) : Met l (⟨"NumberDressModel", "small", "(I)I"⟩ : MethodName) (Cond.code (⟨"NumberDressModel", "small", "(I)I"⟩ : MethodName) prog_14_method_3_code 1 (some .int) :: zT) { frames := 0, cells := 0, slots := 0, locals := 0 } (zPc gE (dC, dI) zCl [] [.int x0] sz []) (va_Qi Z (zB (dC, dI) zCl [] (va_A [] sz) (fun u : Unit => [])) (va_A [] sz)) 0 0 (va_A [] sz) := by
  refine Met.ofW (cc := prog_14_method_3_code) (maxL := 1) (ret := (some .int)) (by decide +kernel) rfl ?_
  intro p e s m args below meth c s₁ B hml hp
  obtain ⟨rfl, hsz, hP, hK, hD0, hE⟩ := hp
  have hts := atoms_spec (ws := (Cond.code (⟨"NumberDressModel", "small", "(I)I"⟩ : MethodName) prog_14_method_3_code 1 (some .int) :: zT)) B.pre
  have hown : s.vm.findClass "NumberDressModel" = some m.cls := findClass_of_methodNamed B.named
  have hc : zC p s m _ meth c prog_14_method_3_code (some .int) 1 "NumberDressModel" := ⟨B.exec, B.bytes, B.returns, hml, hown, fun w h => hts w (List.mem_cons_of_mem _ h), B.notSynchronized⟩
  subst hsz
  have hD := hD0.self (sz := s.heap.size)
  generalize hAe : va_A [] s.heap.size = A at hD hE ⊢
  have hA : ∀ q : Nat, s.heap.size ≤ q → A q := fun q h => by rw [← hAe]; exact Or.inr h
  have hl := lv_entry ([.int x0]) (n := 1) (Nat.le_of_ble_eq_true rfl)
  rw [lg_entry_eq]
  exact b_M_small_0 hc hA hE hl hK hP hD va_S.rf hv
theorem d_M_ch_0 : decode prog_14_method_4_code 0 = .ok (.iload_n 1, 1) := by decide +kernel
theorem d_M_ch_1 : decode prog_14_method_4_code 1 = .ok (.aload_n 0, 1) := by decide +kernel
theorem d_M_ch_2 : decode prog_14_method_4_code 2 = .ok (.getfield 59, 3) := by decide +kernel
theorem d_M_ch_5 : decode prog_14_method_4_code 5 = .ok (.if_icmp .ge 12, 3) := by decide +kernel
theorem d_M_ch_8 : decode prog_14_method_4_code 8 = .ok (.aload_n 0, 1) := by decide +kernel
theorem d_M_ch_9 : decode prog_14_method_4_code 9 = .ok (.getfield 7, 3) := by decide +kernel
theorem d_M_ch_12 : decode prog_14_method_4_code 12 = .ok (.iload_n 1, 1) := by decide +kernel
theorem d_M_ch_13 : decode prog_14_method_4_code 13 = .ok (.iaload, 1) := by decide +kernel
theorem d_M_ch_14 : decode prog_14_method_4_code 14 = .ok (.goto 4, 3) := by decide +kernel
theorem d_M_ch_17 : decode prog_14_method_4_code 17 = .ok (.iconst 0, 1) := by decide +kernel
theorem d_M_ch_18 : decode prog_14_method_4_code 18 = .ok (.ireturn, 1) := by decide +kernel
set_option maxHeartbeats 4000000 in
set_option maxRecDepth 100000 in
theorem b_M_ch_0 {h0 : Nat} {a0_4 : Nat} {a0_5 : Nat} {a0_6 : Nat} {a0_7 : Nat} {a0_8 : Nat} {a0_9 : Nat} {a0_10 : Nat} {a0_11 : Nat} {a0_22 : Nat} {a0_26 : Nat} {a0_29 : Nat} {a0_31 : Nat} {a0_32 : Nat} {a0_34 : Nat} {h1 : Nat} {cA1 : ClassId} {I0 : Nat → Int32} {J0 : Nat → Int64} {n1 : Nat} {f1 : Nat → Int32} {x1 : Int32}  {Z : Int32 → Unit → Prop} {H : Heap} {locs : List Loc} {ls : Array Slot} (hc : zC p s m args meth c prog_14_method_4_code (some .int) 2 "NumberDressModel") (hA : ∀ q : Nat, s.heap.size ≤ q → A q) (hE : zE gE A s) (hl : lv_has ls 2 [(0, .ref h0), (1, .int x1)]) (hK : va_K (dC, dI) zCl [(cA1, .int)] s) (hP : va_P (dC, dI) zCl [(h0, .inr (12, o_M I0 J0 h1 a0_4 a0_5 a0_6 a0_7 a0_8 a0_9 a0_10 a0_11 a0_22 a0_26 a0_29 a0_31 a0_32 a0_34)), (h1, .inl (cA1, n1, .inl f1))] H) (hD : va_D A [(h0, .inr (12, o_M I0 J0 h1 a0_4 a0_5 a0_6 a0_7 a0_8 a0_9 a0_10 a0_11 a0_22 a0_26 a0_29 a0_31 a0_32 a0_34)), (h1, .inl (cA1, n1, .inl f1))]) (hS : va_S A s.heap H locs) (hv : v_M_ch_0 I0 J0 n1 f1 x1  Z) : W p l e (headSpec (Cond.code (⟨"NumberDressModel", "ch", "(I)I"⟩ : MethodName) prog_14_method_4_code 2 (some .int) :: zT) { frames := 0, cells := 0, slots := 0, locals := 0 }).room s m args below meth c H locs 0 0 (MQ below (va_Qi Z (zB (dC, dI) zCl [(cA1, .int)] A (fun u : Unit => [(h0, .inr (12, o_M I0 J0 h1 a0_4 a0_5 a0_6 a0_7 a0_8 a0_9 a0_10 a0_11 a0_22 a0_26 a0_29 a0_31 a0_32 a0_34)), (h1, .inl (cA1, n1, .inl f1))])) A) args s 0 0 A) (F0 m 0 ls []) := by
  obtain ⟨hx, hb, hr, hml, hown, ht, hlocks⟩ := id hc
  unfold v_M_ch_0 at hv
  refine lv_iload_n hx hb d_M_ch_0 rfl (lv_at hl 1 rfl) ?_
  refine lv_aload_n hx hb d_M_ch_1 rfl (lv_at hl 0 rfl) ?_
  refine va_get (D := (dC, dI)) (ci := 12) (v := .int (I0 3)) (C := "NumberDressModel") (T := T_M) (N := 41) hx hb ht zin_M hown hK hP 0 rfl rfl 3 (by decide) (ht _ zw_1264) (fun _ h9 => h9) rfl d_M_ch_2 ?_
  refine lv_icmp_ge (tgt := 17) hx hb d_M_ch_5 (by decide) (fun c_1 => ?_) (fun c_1 => ?_)
  · have hv := hv.1 c_1
    refine lv_iconst (v := (0 : Int32)) hx hb d_M_ch_17 (by decide) ?_
    exact W.iret (v := (0 : Int32)) hx hb hr (fun t ht hW => ⟨⟨_, (), rfl, hv, ⟨by rw [ht]; exact hP, va_K.moved hW.alike hK, hD⟩⟩, hS.F ht⟩) hS.2.2 d_M_ch_18
  · have hv := hv.2 c_1
    refine lv_aload_n hx hb d_M_ch_8 rfl (lv_at hl 0 rfl) ?_
    refine va_get (D := (dC, dI)) (ci := 12) (v := .ref h1) (C := "NumberDressModel") (T := T_M) (N := 41) hx hb ht zin_M hown hK hP 0 rfl rfl 2 (by decide) (ht _ zw_1263) (fun _ h9 => h9) rfl d_M_ch_9 ?_
    refine lv_iload_n hx hb d_M_ch_12 rfl (lv_at hl 1 rfl) ?_
    obtain ⟨q_2, hv⟩ := hv
    refine va_iald hx hb hK hP 1 0 rfl rfl q_2 d_M_ch_13 ?_
    refine lv_goto (tgt := 18) hx hb d_M_ch_14 (by decide) ?_
    exact W.iret (v := (f1 x1.toNatClampNeg)) hx hb hr (fun t ht hW => ⟨⟨_, (), rfl, hv, ⟨by rw [ht]; exact hP, va_K.moved hW.alike hK, hD⟩⟩, hS.F ht⟩) hS.2.2 d_M_ch_18
theorem zi_M_ch : Cond.code (⟨"NumberDressModel", "ch", "(I)I"⟩ : MethodName) prog_14_method_4_code 2 (some .int) ∈ zT := zw_1428
theorem zh_M_ch : (((⟨"NumberDressModel", "ch", "(I)I"⟩ : MethodName)).cls ≠ "java/lang/invoke/MethodHandle" ∧ ((⟨"NumberDressModel", "ch", "(I)I"⟩ : MethodName)).cls ≠ "java/lang/invoke/VarHandle" ∧ (parseMethodDescriptor ((⟨"NumberDressModel", "ch", "(I)I"⟩ : MethodName)).desc).map (fun d => d.parameters.length) = some 1) := by decide +kernel
set_option maxHeartbeats 4000000 in
set_option maxRecDepth 100000 in
theorem m_M_ch (l : Launch) (dC : Nat → ClassId) (dI : Nat → Nat → Nat) {gE : zG} {h0 : Nat} {a0_4 : Nat} {a0_5 : Nat} {a0_6 : Nat} {a0_7 : Nat} {a0_8 : Nat} {a0_9 : Nat} {a0_10 : Nat} {a0_11 : Nat} {a0_22 : Nat} {a0_26 : Nat} {a0_29 : Nat} {a0_31 : Nat} {a0_32 : Nat} {a0_34 : Nat} {h1 : Nat} {cA1 : ClassId} {I0 : Nat → Int32} {J0 : Nat → Int64} {n1 : Nat} {f1 : Nat → Int32} {x1 : Int32} {sz : Nat} {Z : Int32 → Unit → Prop} (hv : v_M_ch_0 I0 J0 n1 f1 x1 Z) : Met l (⟨"NumberDressModel", "ch", "(I)I"⟩ : MethodName) (Cond.code (⟨"NumberDressModel", "ch", "(I)I"⟩ : MethodName) prog_14_method_4_code 2 (some .int) :: zT) { frames := 0, cells := 0, slots := 0, locals := 0 } (zPc gE (dC, dI) zCl [(cA1, .int)] [.ref h0, .int x1] sz [(h0, .inr (12, o_M I0 J0 h1 a0_4 a0_5 a0_6 a0_7 a0_8 a0_9 a0_10 a0_11 a0_22 a0_26 a0_29 a0_31 a0_32 a0_34)), (h1, .inl (cA1, n1, .inl f1))]) (va_Qi Z (zB (dC, dI) zCl [(cA1, .int)] (va_A [(h0, .inr (12, o_M I0 J0 h1 a0_4 a0_5 a0_6 a0_7 a0_8 a0_9 a0_10 a0_11 a0_22 a0_26 a0_29 a0_31 a0_32 a0_34)), (h1, .inl (cA1, n1, .inl f1))] sz) (fun u : Unit => [(h0, .inr (12, o_M I0 J0 h1 a0_4 a0_5 a0_6 a0_7 a0_8 a0_9 a0_10 a0_11 a0_22 a0_26 a0_29 a0_31 a0_32 a0_34)), (h1, .inl (cA1, n1, .inl f1))])) (va_A [(h0, .inr (12, o_M I0 J0 h1 a0_4 a0_5 a0_6 a0_7 a0_8 a0_9 a0_10 a0_11 a0_22 a0_26 a0_29 a0_31 a0_32 a0_34)), (h1, .inl (cA1, n1, .inl f1))] sz)) 0 0 (va_A [(h0, .inr (12, o_M I0 J0 h1 a0_4 a0_5 a0_6 a0_7 a0_8 a0_9 a0_10 a0_11 a0_22 a0_26 a0_29 a0_31 a0_32 a0_34)), (h1, .inl (cA1, n1, .inl f1))] sz) := by
  refine Met.ofW (cc := prog_14_method_4_code) (maxL := 2) (ret := (some .int)) (by decide +kernel) rfl ?_
  intro p e s m args below meth c s₁ B hml hp
  obtain ⟨rfl, hsz, hP, hK, hD0, hE⟩ := hp
  have hts := atoms_spec (ws := (Cond.code (⟨"NumberDressModel", "ch", "(I)I"⟩ : MethodName) prog_14_method_4_code 2 (some .int) :: zT)) B.pre
  have hown : s.vm.findClass "NumberDressModel" = some m.cls := findClass_of_methodNamed B.named
  have hc : zC p s m _ meth c prog_14_method_4_code (some .int) 2 "NumberDressModel" := ⟨B.exec, B.bytes, B.returns, hml, hown, fun w h => hts w (List.mem_cons_of_mem _ h), B.notSynchronized⟩
  subst hsz
  have hD := hD0.self (sz := s.heap.size)
  generalize hAe : va_A [(h0, .inr (12, o_M I0 J0 h1 a0_4 a0_5 a0_6 a0_7 a0_8 a0_9 a0_10 a0_11 a0_22 a0_26 a0_29 a0_31 a0_32 a0_34)), (h1, .inl (cA1, n1, .inl f1))] s.heap.size = A at hD hE ⊢
  have hA : ∀ q : Nat, s.heap.size ≤ q → A q := fun q h => by rw [← hAe]; exact Or.inr h
  have hl := lv_entry ([.ref h0, .int x1]) (n := 2) (Nat.le_of_ble_eq_true rfl)
  rw [lg_entry_eq]
  exact b_M_ch_0 hc hA hE hl hK hP hD va_S.rf hv
theorem d_M_low_0 : decode prog_14_method_5_code 0 = .ok (.aload_n 0, 1) := by decide +kernel
theorem d_M_low_1 : decode prog_14_method_5_code 1 = .ok (.iload_n 1, 1) := by decide +kernel
theorem d_M_low_2 : decode prog_14_method_5_code 2 = .ok (.invokevirtual 62, 3) := by decide +kernel
theorem d_M_low_5 : decode prog_14_method_5_code 5 = .ok (.invokestatic 66, 3) := by decide +kernel
theorem d_M_low_8 : decode prog_14_method_5_code 8 = .ok (.ireturn, 1) := by decide +kernel
set_option maxHeartbeats 4000000 in
set_option maxRecDepth 100000 in
theorem b_M_low_8 {h0 : Nat} {a0_4 : Nat} {a0_5 : Nat} {a0_6 : Nat} {a0_7 : Nat} {a0_8 : Nat} {a0_9 : Nat} {a0_10 : Nat} {a0_11 : Nat} {a0_22 : Nat} {a0_26 : Nat} {a0_29 : Nat} {a0_31 : Nat} {a0_32 : Nat} {a0_34 : Nat} {h1 : Nat} {cA1 : ClassId} {I0 : Nat → Int32} {J0 : Nat → Int64} {n1 : Nat} {f1 : Nat → Int32} {s0 : Int32}  {Z : Int32 → Unit → Prop} {H : Heap} {locs : List Loc} {ls : Array Slot} (hc : zC p s m args meth c prog_14_method_5_code (some .int) 2 "NumberDressModel") (hA : ∀ q : Nat, s.heap.size ≤ q → A q) (hE : zE gE A s) (hl : lv_has ls 2 []) (hK : va_K (dC, dI) zCl [(cA1, .int)] s) (hP : va_P (dC, dI) zCl [(h0, .inr (12, o_M I0 J0 h1 a0_4 a0_5 a0_6 a0_7 a0_8 a0_9 a0_10 a0_11 a0_22 a0_26 a0_29 a0_31 a0_32 a0_34)), (h1, .inl (cA1, n1, .inl f1))] H) (hD : va_D A [(h0, .inr (12, o_M I0 J0 h1 a0_4 a0_5 a0_6 a0_7 a0_8 a0_9 a0_10 a0_11 a0_22 a0_26 a0_29 a0_31 a0_32 a0_34)), (h1, .inl (cA1, n1, .inl f1))]) (hS : va_S A s.heap H locs) (hv : v_M_low_8 I0 J0 n1 f1 s0  Z) : W p l e (headSpec (Cond.code (⟨"NumberDressModel", "low", "(I)I"⟩ : MethodName) prog_14_method_5_code 2 (some .int) :: zT) { frames := 1, cells := 0, slots := 0, locals := 21 }).room s m args below meth c H locs 0 0 (MQ below (va_Qi Z (zB (dC, dI) zCl [(cA1, .int)] A (fun u : Unit => [(h0, .inr (12, o_M I0 J0 h1 a0_4 a0_5 a0_6 a0_7 a0_8 a0_9 a0_10 a0_11 a0_22 a0_26 a0_29 a0_31 a0_32 a0_34)), (h1, .inl (cA1, n1, .inl f1))])) A) args s 0 0 A) (F0 m 8 ls [.int s0]) := by
  obtain ⟨hx, hb, hr, hml, hown, ht, hlocks⟩ := id hc
  unfold v_M_low_8 at hv
  exact W.iret (v := s0) hx hb hr (fun t ht hW => ⟨⟨_, (), rfl, hv, ⟨by rw [ht]; exact hP, va_K.moved hW.alike hK, hD⟩⟩, hS.F ht⟩) hS.2.2 d_M_low_8
set_option maxHeartbeats 4000000 in
set_option maxRecDepth 100000 in
theorem b_M_low_5 {h0 : Nat} {a0_4 : Nat} {a0_5 : Nat} {a0_6 : Nat} {a0_7 : Nat} {a0_8 : Nat} {a0_9 : Nat} {a0_10 : Nat} {a0_11 : Nat} {a0_22 : Nat} {a0_26 : Nat} {a0_29 : Nat} {a0_31 : Nat} {a0_32 : Nat} {a0_34 : Nat} {h1 : Nat} {cA1 : ClassId} {I0 : Nat → Int32} {J0 : Nat → Int64} {n1 : Nat} {f1 : Nat → Int32} {s0 : Int32}  {Z : Int32 → Unit → Prop} {H : Heap} {locs : List Loc} {ls : Array Slot} (hc : zC p s m args meth c prog_14_method_5_code (some .int) 2 "NumberDressModel") (hA : ∀ q : Nat, s.heap.size ≤ q → A q) (hE : zE gE A s) (hl : lv_has ls 2 []) (hK : va_K (dC, dI) zCl [(cA1, .int)] s) (hP : va_P (dC, dI) zCl [(h0, .inr (12, o_M I0 J0 h1 a0_4 a0_5 a0_6 a0_7 a0_8 a0_9 a0_10 a0_11 a0_22 a0_26 a0_29 a0_31 a0_32 a0_34)), (h1, .inl (cA1, n1, .inl f1))] H) (hD : va_D A [(h0, .inr (12, o_M I0 J0 h1 a0_4 a0_5 a0_6 a0_7 a0_8 a0_9 a0_10 a0_11 a0_22 a0_26 a0_29 a0_31 a0_32 a0_34)), (h1, .inl (cA1, n1, .inl f1))]) (hS : va_S A s.heap H locs) (hv : v_M_low_5 I0 J0 n1 f1 s0  Z) : W p l e (headSpec (Cond.code (⟨"NumberDressModel", "low", "(I)I"⟩ : MethodName) prog_14_method_5_code 2 (some .int) :: zT) { frames := 1, cells := 0, slots := 0, locals := 21 }).room s m args below meth c H locs 0 0 (MQ below (va_Qi Z (zB (dC, dI) zCl [(cA1, .int)] A (fun u : Unit => [(h0, .inr (12, o_M I0 J0 h1 a0_4 a0_5 a0_6 a0_7 a0_8 a0_9 a0_10 a0_11 a0_22 a0_26 a0_29 a0_31 a0_32 a0_34)), (h1, .inl (cA1, n1, .inl f1))])) A) args s 0 0 A) (F0 m 5 ls [.int s0]) := by
  obtain ⟨hx, hb, hr, hml, hown, ht, hlocks⟩ := id hc
  unfold v_M_low_5 at hv
  refine z_calli (wc := []) (wr := [(h0, .inr (12, o_M I0 J0 h1 a0_4 a0_5 a0_6 a0_7 a0_8 a0_9 a0_10 a0_11 a0_22 a0_26 a0_29 a0_31 a0_32 a0_34)), (h1, .inl (cA1, n1, .inl f1))]) [] [0, 1] (va_runS (As := [.int s0]) (rest := []) ⟨hx, hb, hml, hown, ht⟩ (m_M_small l dC dI hv) ⟨(callB_of 1 ht (zG_in zi_M_small) rfl rfl rfl (ht _ zw_122) (ht _ zw_1446) zh_M_small ⟨Nat.le_of_ble_eq_true rfl, Nat.le_of_ble_eq_true rfl⟩), (ht _ zw_1447)⟩ ⟨zPc_blind, zPc_pre hP hK hD hS hA hE [] [] rfl rfl (by decide) rfl⟩ rfl rfl hl.1 rfl (lv_room (Nat.le_of_ble_eq_true rfl)) d_M_low_5 ⟨Nat.le_of_ble_eq_true rfl, Nat.le_of_ble_eq_true rfl⟩) hP hD hS hA rfl rfl (by decide) (by decide) (fun r u H locs hv hP hD hS => ?_)
  have hP : va_P (dC, dI) zCl [(h0, .inr (12, o_M I0 J0 h1 a0_4 a0_5 a0_6 a0_7 a0_8 a0_9 a0_10 a0_11 a0_22 a0_26 a0_29 a0_31 a0_32 a0_34)), (h1, .inl (cA1, n1, .inl f1))] H := hP.sub [0, 1] rfl
  have hD : va_D A [(h0, .inr (12, o_M I0 J0 h1 a0_4 a0_5 a0_6 a0_7 a0_8 a0_9 a0_10 a0_11 a0_22 a0_26 a0_29 a0_31 a0_32 a0_34)), (h1, .inl (cA1, n1, .inl f1))] := hD.sub [0, 1] (by decide) rfl
  exact b_M_low_8 hc hA hE  (lv_sub hl [] rfl) hK hP hD hS hv
set_option maxHeartbeats 4000000 in
set_option maxRecDepth 100000 in
theorem b_M_low_0 {h0 : Nat} {a0_4 : Nat} {a0_5 : Nat} {a0_6 : Nat} {a0_7 : Nat} {a0_8 : Nat} {a0_9 : Nat} {a0_10 : Nat} {a0_11 : Nat} {a0_22 : Nat} {a0_26 : Nat} {a0_29 : Nat} {a0_31 : Nat} {a0_32 : Nat} {a0_34 : Nat} {h1 : Nat} {cA1 : ClassId} {I0 : Nat → Int32} {J0 : Nat → Int64} {n1 : Nat} {f1 : Nat → Int32} {x1 : Int32}  {Z : Int32 → Unit → Prop} {H : Heap} {locs : List Loc} {ls : Array Slot} (hc : zC p s m args meth c prog_14_method_5_code (some .int) 2 "NumberDressModel") (hA : ∀ q : Nat, s.heap.size ≤ q → A q) (hE : zE gE A s) (hl : lv_has ls 2 [(0, .ref h0), (1, .int x1)]) (hK : va_K (dC, dI) zCl [(cA1, .int)] s) (hP : va_P (dC, dI) zCl [(h0, .inr (12, o_M I0 J0 h1 a0_4 a0_5 a0_6 a0_7 a0_8 a0_9 a0_10 a0_11 a0_22 a0_26 a0_29 a0_31 a0_32 a0_34)), (h1, .inl (cA1, n1, .inl f1))] H) (hD : va_D A [(h0, .inr (12, o_M I0 J0 h1 a0_4 a0_5 a0_6 a0_7 a0_8 a0_9 a0_10 a0_11 a0_22 a0_26 a0_29 a0_31 a0_32 a0_34)), (h1, .inl (cA1, n1, .inl f1))]) (hS : va_S A s.heap H locs) (hv : v_M_low_0 I0 J0 n1 f1 x1  Z) : W p l e (headSpec (Cond.code (⟨"NumberDressModel", "low", "(I)I"⟩ : MethodName) prog_14_method_5_code 2 (some .int) :: zT) { frames := 1, cells := 0, slots := 0, locals := 21 }).room s m args below meth c H locs 0 0 (MQ below (va_Qi Z (zB (dC, dI) zCl [(cA1, .int)] A (fun u : Unit => [(h0, .inr (12, o_M I0 J0 h1 a0_4 a0_5 a0_6 a0_7 a0_8 a0_9 a0_10 a0_11 a0_22 a0_26 a0_29 a0_31 a0_32 a0_34)), (h1, .inl (cA1, n1, .inl f1))])) A) args s 0 0 A) (F0 m 0 ls []) := by
  obtain ⟨hx, hb, hr, hml, hown, ht, hlocks⟩ := id hc
  unfold v_M_low_0 at hv
  refine lv_aload_n hx hb d_M_low_0 rfl (lv_at hl 0 rfl) ?_
  refine lv_iload_n hx hb d_M_low_1 rfl (lv_at hl 1 rfl) ?_
  refine z_calli (wc := [(h0, .inr (12, o_M I0 J0 h1 a0_4 a0_5 a0_6 a0_7 a0_8 a0_9 a0_10 a0_11 a0_22 a0_26 a0_29 a0_31 a0_32 a0_34)), (h1, .inl (cA1, n1, .inl f1))]) (wr := []) [0, 1] [] (va_runV (As := [.int x1]) (rest := []) ⟨hx, hb, hml, hown, ht⟩ (m_M_ch l dC dI hv) ⟨(callB_of 1 ht (zG_in zi_M_ch) rfl rfl rfl (ht _ zw_122) (ht _ zw_1425) zh_M_ch ⟨Nat.le_of_ble_eq_true rfl, Nat.le_of_ble_eq_true rfl⟩), (ht _ zw_1427), (ht _ zw_63)⟩ ⟨zPc_blind, va_recv hK hP (ci := 12) (q0 := 0) rfl rfl, zPc_pre hP hK hD hS hA hE [0, 1] [0] rfl rfl (by decide) rfl⟩ rfl rfl hl.1 rfl (lv_room (Nat.le_of_ble_eq_true rfl)) d_M_low_2 ⟨Nat.le_of_ble_eq_true rfl, Nat.le_of_ble_eq_true rfl⟩) hP hD hS hA rfl rfl (by decide) (by decide) (fun r u H locs hv hP hD hS => ?_)
  have hP : va_P (dC, dI) zCl [(h0, .inr (12, o_M I0 J0 h1 a0_4 a0_5 a0_6 a0_7 a0_8 a0_9 a0_10 a0_11 a0_22 a0_26 a0_29 a0_31 a0_32 a0_34)), (h1, .inl (cA1, n1, .inl f1))] H := hP.sub [0, 1] rfl
  have hD : va_D A [(h0, .inr (12, o_M I0 J0 h1 a0_4 a0_5 a0_6 a0_7 a0_8 a0_9 a0_10 a0_11 a0_22 a0_26 a0_29 a0_31 a0_32 a0_34)), (h1, .inl (cA1, n1, .inl f1))] := hD.sub [0, 1] (by decide) rfl
  exact b_M_low_5 hc hA hE  (lv_sub hl [] rfl) hK hP hD hS hv
theorem zi_M_low : Cond.code (⟨"NumberDressModel", "low", "(I)I"⟩ : MethodName) prog_14_method_5_code 2 (some .int) ∈ zT := zw_1445
theorem zh_M_low : (((⟨"NumberDressModel", "low", "(I)I"⟩ : MethodName)).cls ≠ "java/lang/invoke/MethodHandle" ∧ ((⟨"NumberDressModel", "low", "(I)I"⟩ : MethodName)).cls ≠ "java/lang/invoke/VarHandle" ∧ (parseMethodDescriptor ((⟨"NumberDressModel", "low", "(I)I"⟩ : MethodName)).desc).map (fun d => d.parameters.length) = some 1) := by decide +kernel
set_option maxHeartbeats 4000000 in
set_option maxRecDepth 100000 in
theorem m_M_low (l : Launch) (dC : Nat → ClassId) (dI : Nat → Nat → Nat) {gE : zG} {h0 : Nat} {a0_4 : Nat} {a0_5 : Nat} {a0_6 : Nat} {a0_7 : Nat} {a0_8 : Nat} {a0_9 : Nat} {a0_10 : Nat} {a0_11 : Nat} {a0_22 : Nat} {a0_26 : Nat} {a0_29 : Nat} {a0_31 : Nat} {a0_32 : Nat} {a0_34 : Nat} {h1 : Nat} {cA1 : ClassId} {I0 : Nat → Int32} {J0 : Nat → Int64} {n1 : Nat} {f1 : Nat → Int32} {x1 : Int32} {sz : Nat} {Z : Int32 → Unit → Prop} (hv : v_M_low_0 I0 J0 n1 f1 x1 Z) : Met l (⟨"NumberDressModel", "low", "(I)I"⟩ : MethodName) (Cond.code (⟨"NumberDressModel", "low", "(I)I"⟩ : MethodName) prog_14_method_5_code 2 (some .int) :: zT) { frames := 1, cells := 0, slots := 0, locals := 21 } (zPc gE (dC, dI) zCl [(cA1, .int)] [.ref h0, .int x1] sz [(h0, .inr (12, o_M I0 J0 h1 a0_4 a0_5 a0_6 a0_7 a0_8 a0_9 a0_10 a0_11 a0_22 a0_26 a0_29 a0_31 a0_32 a0_34)), (h1, .inl (cA1, n1, .inl f1))]) (va_Qi Z (zB (dC, dI) zCl [(cA1, .int)] (va_A [(h0, .inr (12, o_M I0 J0 h1 a0_4 a0_5 a0_6 a0_7 a0_8 a0_9 a0_10 a0_11 a0_22 a0_26 a0_29 a0_31 a0_32 a0_34)), (h1, .inl (cA1, n1, .inl f1))] sz) (fun u : Unit => [(h0, .inr (12, o_M I0 J0 h1 a0_4 a0_5 a0_6 a0_7 a0_8 a0_9 a0_10 a0_11 a0_22 a0_26 a0_29 a0_31 a0_32 a0_34)), (h1, .inl (cA1, n1, .inl f1))])) (va_A [(h0, .inr (12, o_M I0 J0 h1 a0_4 a0_5 a0_6 a0_7 a0_8 a0_9 a0_10 a0_11 a0_22 a0_26 a0_29 a0_31 a0_32 a0_34)), (h1, .inl (cA1, n1, .inl f1))] sz)) 0 0 (va_A [(h0, .inr (12, o_M I0 J0 h1 a0_4 a0_5 a0_6 a0_7 a0_8 a0_9 a0_10 a0_11 a0_22 a0_26 a0_29 a0_31 a0_32 a0_34)), (h1, .inl (cA1, n1, .inl f1))] sz) := by
  refine Met.ofW (cc := prog_14_method_5_code) (maxL := 2) (ret := (some .int)) (by decide +kernel) rfl ?_
  intro p e s m args below meth c s₁ B hml hp
  obtain ⟨rfl, hsz, hP, hK, hD0, hE⟩ := hp
  have hts := atoms_spec (ws := (Cond.code (⟨"NumberDressModel", "low", "(I)I"⟩ : MethodName) prog_14_method_5_code 2 (some .int) :: zT)) B.pre
  have hown : s.vm.findClass "NumberDressModel" = some m.cls := findClass_of_methodNamed B.named
  have hc : zC p s m _ meth c prog_14_method_5_code (some .int) 2 "NumberDressModel" := ⟨B.exec, B.bytes, B.returns, hml, hown, fun w h => hts w (List.mem_cons_of_mem _ h), B.notSynchronized⟩
  subst hsz
  have hD := hD0.self (sz := s.heap.size)
  generalize hAe : va_A [(h0, .inr (12, o_M I0 J0 h1 a0_4 a0_5 a0_6 a0_7 a0_8 a0_9 a0_10 a0_11 a0_22 a0_26 a0_29 a0_31 a0_32 a0_34)), (h1, .inl (cA1, n1, .inl f1))] s.heap.size = A at hD hE ⊢
  have hA : ∀ q : Nat, s.heap.size ≤ q → A q := fun q h => by rw [← hAe]; exact Or.inr h
  have hl := lv_entry ([.ref h0, .int x1]) (n := 2) (Nat.le_of_ble_eq_true rfl)
  rw [lg_entry_eq]
  exact b_M_low_0 hc hA hE hl hK hP hD va_S.rf hv
theorem d_M_type_0 : decode prog_14_method_6_code 0 = .ok (.iconst 0, 1) := by decide +kernel
theorem d_M_type_1 : decode prog_14_method_6_code 1 = .ok (.istore_n 2, 1) := by decide +kernel
theorem d_M_type_2 : decode prog_14_method_6_code 2 = .ok (.iconst 0, 1) := by decide +kernel
theorem d_M_type_3 : decode prog_14_method_6_code 3 = .ok (.istore_n 3, 1) := by decide +kernel
theorem d_M_type_4 : decode prog_14_method_6_code 4 = .ok (.bipush 24, 2) := by decide +kernel
theorem d_M_type_6 : decode prog_14_method_6_code 6 = .ok (.istore 4, 2) := by decide +kernel
theorem d_M_type_8 : decode prog_14_method_6_code 8 = .ok (.iload 4, 2) := by decide +kernel
theorem d_M_type_10 : decode prog_14_method_6_code 10 = .ok (.ifCond .lt 61, 3) := by decide +kernel
theorem d_M_type_13 : decode prog_14_method_6_code 13 = .ok (.iload_n 1, 1) := by decide +kernel
theorem d_M_type_14 : decode prog_14_method_6_code 14 = .ok (.iload 4, 2) := by decide +kernel
theorem d_M_type_16 : decode prog_14_method_6_code 16 = .ok (.ishr, 1) := by decide +kernel
theorem d_M_type_17 : decode prog_14_method_6_code 17 = .ok (.sipush 255, 3) := by decide +kernel
theorem d_M_type_20 : decode prog_14_method_6_code 20 = .ok (.iand, 1) := by decide +kernel
theorem d_M_type_21 : decode prog_14_method_6_code 21 = .ok (.istore 5, 2) := by decide +kernel
theorem d_M_type_23 : decode prog_14_method_6_code 23 = .ok (.iload 5, 2) := by decide +kernel
theorem d_M_type_25 : decode prog_14_method_6_code 25 = .ok (.ifCond .le 9, 3) := by decide +kernel
theorem d_M_type_28 : decode prog_14_method_6_code 28 = .ok (.iload_n 2, 1) := by decide +kernel
theorem d_M_type_29 : decode prog_14_method_6_code 29 = .ok (.iconst 1, 1) := by decide +kernel
theorem d_M_type_30 : decode prog_14_method_6_code 30 = .ok (.iadd, 1) := by decide +kernel
theorem d_M_type_31 : decode prog_14_method_6_code 31 = .ok (.goto 4, 3) := by decide +kernel
theorem d_M_type_34 : decode prog_14_method_6_code 34 = .ok (.iload_n 2, 1) := by decide +kernel
theorem d_M_type_35 : decode prog_14_method_6_code 35 = .ok (.istore_n 2, 1) := by decide +kernel
theorem d_M_type_36 : decode prog_14_method_6_code 36 = .ok (.iload_n 3, 1) := by decide +kernel
theorem d_M_type_37 : decode prog_14_method_6_code 37 = .ok (.ifCond .ne 22, 3) := by decide +kernel
theorem d_M_type_40 : decode prog_14_method_6_code 40 = .ok (.iload 5, 2) := by decide +kernel
theorem d_M_type_42 : decode prog_14_method_6_code 42 = .ok (.ifCond .le 21, 3) := by decide +kernel
theorem d_M_type_45 : decode prog_14_method_6_code 45 = .ok (.iload 5, 2) := by decide +kernel
theorem d_M_type_47 : decode prog_14_method_6_code 47 = .ok (.bipush 32, 2) := by decide +kernel
theorem d_M_type_49 : decode prog_14_method_6_code 49 = .ok (.if_icmp .lt 10, 3) := by decide +kernel
theorem d_M_type_52 : decode prog_14_method_6_code 52 = .ok (.iload 5, 2) := by decide +kernel
theorem d_M_type_54 : decode prog_14_method_6_code 54 = .ok (.bipush 126, 2) := by decide +kernel
theorem d_M_type_56 : decode prog_14_method_6_code 56 = .ok (.if_icmp .le 7, 3) := by decide +kernel
theorem d_M_type_59 : decode prog_14_method_6_code 59 = .ok (.iconst 1, 1) := by decide +kernel
theorem d_M_type_60 : decode prog_14_method_6_code 60 = .ok (.goto 4, 3) := by decide +kernel
theorem d_M_type_63 : decode prog_14_method_6_code 63 = .ok (.iconst 0, 1) := by decide +kernel
theorem d_M_type_64 : decode prog_14_method_6_code 64 = .ok (.istore_n 3, 1) := by decide +kernel
theorem d_M_type_65 : decode prog_14_method_6_code 65 = .ok (.iinc 4 (-8), 3) := by decide +kernel
theorem d_M_type_68 : decode prog_14_method_6_code 68 = .ok (.goto (-60), 3) := by decide +kernel
theorem d_M_type_71 : decode prog_14_method_6_code 71 = .ok (.aload_n 0, 1) := by decide +kernel
theorem d_M_type_72 : decode prog_14_method_6_code 72 = .ok (.iload_n 3, 1) := by decide +kernel
theorem d_M_type_73 : decode prog_14_method_6_code 73 = .ok (.ifCond .eq 7, 3) := by decide +kernel
theorem d_M_type_76 : decode prog_14_method_6_code 76 = .ok (.iconst 1, 1) := by decide +kernel
theorem d_M_type_77 : decode prog_14_method_6_code 77 = .ok (.goto 19, 3) := by decide +kernel
theorem d_M_type_80 : decode prog_14_method_6_code 80 = .ok (.aload_n 0, 1) := by decide +kernel
theorem d_M_type_81 : decode prog_14_method_6_code 81 = .ok (.getfield 69, 3) := by decide +kernel
theorem d_M_type_84 : decode prog_14_method_6_code 84 = .ok (.iload_n 2, 1) := by decide +kernel
theorem d_M_type_85 : decode prog_14_method_6_code 85 = .ok (.iadd, 1) := by decide +kernel
theorem d_M_type_86 : decode prog_14_method_6_code 86 = .ok (.bipush 64, 2) := by decide +kernel
theorem d_M_type_88 : decode prog_14_method_6_code 88 = .ok (.if_icmp .le 7, 3) := by decide +kernel
theorem d_M_type_91 : decode prog_14_method_6_code 91 = .ok (.iconst 2, 1) := by decide +kernel
theorem d_M_type_92 : decode prog_14_method_6_code 92 = .ok (.goto 4, 3) := by decide +kernel
theorem d_M_type_95 : decode prog_14_method_6_code 95 = .ok (.iconst 0, 1) := by decide +kernel
theorem d_M_type_96 : decode prog_14_method_6_code 96 = .ok (.putfield 55, 3) := by decide +kernel
theorem d_M_type_99 : decode prog_14_method_6_code 99 = .ok (.aload_n 0, 1) := by decide +kernel
theorem d_M_type_100 : decode prog_14_method_6_code 100 = .ok (.getfield 55, 3) := by decide +kernel
theorem d_M_type_103 : decode prog_14_method_6_code 103 = .ok (.ifCond .le 5, 3) := by decide +kernel
theorem d_M_type_106 : decode prog_14_method_6_code 106 = .ok (.iconst 0, 1) := by decide +kernel
theorem d_M_type_107 : decode prog_14_method_6_code 107 = .ok (.ireturn, 1) := by decide +kernel
theorem d_M_type_108 : decode prog_14_method_6_code 108 = .ok (.bipush 24, 2) := by decide +kernel
theorem d_M_type_110 : decode prog_14_method_6_code 110 = .ok (.istore 4, 2) := by decide +kernel
theorem d_M_type_112 : decode prog_14_method_6_code 112 = .ok (.iload 4, 2) := by decide +kernel
theorem d_M_type_114 : decode prog_14_method_6_code 114 = .ok (.ifCond .lt 45, 3) := by decide +kernel
theorem d_M_type_117 : decode prog_14_method_6_code 117 = .ok (.iload_n 1, 1) := by decide +kernel
theorem d_M_type_118 : decode prog_14_method_6_code 118 = .ok (.iload 4, 2) := by decide +kernel
theorem d_M_type_120 : decode prog_14_method_6_code 120 = .ok (.ishr, 1) := by decide +kernel
theorem d_M_type_121 : decode prog_14_method_6_code 121 = .ok (.sipush 255, 3) := by decide +kernel
theorem d_M_type_124 : decode prog_14_method_6_code 124 = .ok (.iand, 1) := by decide +kernel
theorem d_M_type_125 : decode prog_14_method_6_code 125 = .ok (.istore 5, 2) := by decide +kernel
theorem d_M_type_127 : decode prog_14_method_6_code 127 = .ok (.iload 5, 2) := by decide +kernel
theorem d_M_type_129 : decode prog_14_method_6_code 129 = .ok (.ifCond .le 24, 3) := by decide +kernel
theorem d_M_type_132 : decode prog_14_method_6_code 132 = .ok (.aload_n 0, 1) := by decide +kernel
theorem d_M_type_133 : decode prog_14_method_6_code 133 = .ok (.getfield 7, 3) := by decide +kernel
theorem d_M_type_136 : decode prog_14_method_6_code 136 = .ok (.aload_n 0, 1) := by decide +kernel
theorem d_M_type_137 : decode prog_14_method_6_code 137 = .ok (.getfield 69, 3) := by decide +kernel
theorem d_M_type_140 : decode prog_14_method_6_code 140 = .ok (.iload 5, 2) := by decide +kernel
theorem d_M_type_142 : decode prog_14_method_6_code 142 = .ok (.iastore, 1) := by decide +kernel
theorem d_M_type_143 : decode prog_14_method_6_code 143 = .ok (.aload_n 0, 1) := by decide +kernel
theorem d_M_type_144 : decode prog_14_method_6_code 144 = .ok (.dup, 1) := by decide +kernel
theorem d_M_type_145 : decode prog_14_method_6_code 145 = .ok (.getfield 69, 3) := by decide +kernel
theorem d_M_type_148 : decode prog_14_method_6_code 148 = .ok (.iconst 1, 1) := by decide +kernel
theorem d_M_type_149 : decode prog_14_method_6_code 149 = .ok (.iadd, 1) := by decide +kernel
theorem d_M_type_150 : decode prog_14_method_6_code 150 = .ok (.putfield 69, 3) := by decide +kernel
theorem d_M_type_153 : decode prog_14_method_6_code 153 = .ok (.iinc 4 (-8), 3) := by decide +kernel
theorem d_M_type_156 : decode prog_14_method_6_code 156 = .ok (.goto (-44), 3) := by decide +kernel
theorem d_M_type_159 : decode prog_14_method_6_code 159 = .ok (.aload_n 0, 1) := by decide +kernel
theorem d_M_type_160 : decode prog_14_method_6_code 160 = .ok (.getfield 69, 3) := by decide +kernel
theorem d_M_type_163 : decode prog_14_method_6_code 163 = .ok (.ireturn, 1) := by decide +kernel
set_option maxHeartbeats 4000000 in
set_option maxRecDepth 100000 in
theorem b_M_type_64 {h0 : Nat} {a0_4 : Nat} {a0_5 : Nat} {a0_6 : Nat} {a0_7 : Nat} {a0_8 : Nat} {a0_9 : Nat} {a0_10 : Nat} {a0_11 : Nat} {a0_22 : Nat} {a0_26 : Nat} {a0_29 : Nat} {a0_31 : Nat} {a0_32 : Nat} {a0_34 : Nat} {h1 : Nat} {cA1 : ClassId} {I0 : Nat → Int32} {J0 : Nat → Int64} {n1 : Nat} {f1 : Nat → Int32} {x1 : Int32} {x2 : Int32} {x4 : Int32} {s0 : Int32} {k8 : Int32 → Int32 → Int32 → Prop} {Z : Int32 → (Nat → Int32) × (Nat → Int32) → Prop} {H : Heap} {locs : List Loc} {ls : Array Slot} (hc : zC p s m args meth c prog_14_method_6_code (some .int) 6 "NumberDressModel") (hA : ∀ q : Nat, s.heap.size ≤ q → A q) (hE : zE gE A s) (hk8 : ∀ (x2 : Int32) (x3 : Int32) (x4 : Int32) (H : Heap) (locs : List Loc) (ls : Array Slot), lv_has ls 6 [(0, .ref h0), (1, .int x1), (2, .int x2), (3, .int x3), (4, .int x4)] → va_K (dC, dI) zCl [(cA1, .int)] s → va_P (dC, dI) zCl [(h0, .inr (12, o_M I0 J0 h1 a0_4 a0_5 a0_6 a0_7 a0_8 a0_9 a0_10 a0_11 a0_22 a0_26 a0_29 a0_31 a0_32 a0_34)), (h1, .inl (cA1, n1, .inl f1))] H → va_D A [(h0, .inr (12, o_M I0 J0 h1 a0_4 a0_5 a0_6 a0_7 a0_8 a0_9 a0_10 a0_11 a0_22 a0_26 a0_29 a0_31 a0_32 a0_34)), (h1, .inl (cA1, n1, .inl f1))] → va_S A s.heap H locs → k8 x2 x3 x4 → W p l e (headSpec (Cond.code (⟨"NumberDressModel", "type", "(I)I"⟩ : MethodName) prog_14_method_6_code 6 (some .int) :: zT) { frames := 0, cells := 0, slots := 0, locals := 0 }).room s m args below meth c H locs 0 0 (MQ below (va_Qi Z (zB (dC, dI) zCl [(cA1, .int)] A (fun u : (Nat → Int32) × (Nat → Int32) => [(h0, .inr (12, o_M u.1 J0 h1 a0_4 a0_5 a0_6 a0_7 a0_8 a0_9 a0_10 a0_11 a0_22 a0_26 a0_29 a0_31 a0_32 a0_34)), (h1, .inl (cA1, n1, .inl u.2))])) A) args s 0 0 A) (F0 m 8 ls [])) (hl : lv_has ls 6 [(0, .ref h0), (1, .int x1), (2, .int x2), (4, .int x4)]) (hK : va_K (dC, dI) zCl [(cA1, .int)] s) (hP : va_P (dC, dI) zCl [(h0, .inr (12, o_M I0 J0 h1 a0_4 a0_5 a0_6 a0_7 a0_8 a0_9 a0_10 a0_11 a0_22 a0_26 a0_29 a0_31 a0_32 a0_34)), (h1, .inl (cA1, n1, .inl f1))] H) (hD : va_D A [(h0, .inr (12, o_M I0 J0 h1 a0_4 a0_5 a0_6 a0_7 a0_8 a0_9 a0_10 a0_11 a0_22 a0_26 a0_29 a0_31 a0_32 a0_34)), (h1, .inl (cA1, n1, .inl f1))]) (hS : va_S A s.heap H locs) (hv : v_M_type_64 I0 J0 n1 f1 x1 x2 x4 s0 k8 Z) : W p l e (headSpec (Cond.code (⟨"NumberDressModel", "type", "(I)I"⟩ : MethodName) prog_14_method_6_code 6 (some .int) :: zT) { frames := 0, cells := 0, slots := 0, locals := 0 }).room s m args below meth c H locs 0 0 (MQ below (va_Qi Z (zB (dC, dI) zCl [(cA1, .int)] A (fun u : (Nat → Int32) × (Nat → Int32) => [(h0, .inr (12, o_M u.1 J0 h1 a0_4 a0_5 a0_6 a0_7 a0_8 a0_9 a0_10 a0_11 a0_22 a0_26 a0_29 a0_31 a0_32 a0_34)), (h1, .inl (cA1, n1, .inl u.2))])) A) args s 0 0 A) (F0 m 64 ls [.int s0]) := by
  obtain ⟨hx, hb, hr, hml, hown, ht, hlocks⟩ := id hc
  unfold v_M_type_64 at hv
  refine lv_istore_n (lv' := [(3, .int s0), (0, .ref h0), (1, .int x1), (2, .int x2), (4, .int x4)]) hx hb d_M_type_64 rfl hl (by decide) rfl (fun ls hl => ?_)
  refine lv_iinc (v := (x4 + (-8 : Int32))) (lv' := [(4, .int (x4 + (-8 : Int32))), (3, .int s0), (0, .ref h0), (1, .int x1), (2, .int x2)]) hx hb d_M_type_65 hl (k := 4) rfl rfl (by decide) rfl (fun ls hl => ?_)
  refine lv_goto (tgt := 8) hx hb d_M_type_68 (by decide) ?_
  exact hk8 x2 s0 (x4 + (-8 : Int32)) _ _ _ (lv_sub hl [2, 3, 4, 1, 0] rfl) hK hP hD hS hv
set_option maxHeartbeats 4000000 in
set_option maxRecDepth 100000 in
theorem b_M_type_59 {h0 : Nat} {a0_4 : Nat} {a0_5 : Nat} {a0_6 : Nat} {a0_7 : Nat} {a0_8 : Nat} {a0_9 : Nat} {a0_10 : Nat} {a0_11 : Nat} {a0_22 : Nat} {a0_26 : Nat} {a0_29 : Nat} {a0_31 : Nat} {a0_32 : Nat} {a0_34 : Nat} {h1 : Nat} {cA1 : ClassId} {I0 : Nat → Int32} {J0 : Nat → Int64} {n1 : Nat} {f1 : Nat → Int32} {x1 : Int32} {x2 : Int32} {x4 : Int32} {k8 : Int32 → Int32 → Int32 → Prop} {Z : Int32 → (Nat → Int32) × (Nat → Int32) → Prop} {H : Heap} {locs : List Loc} {ls : Array Slot} (hc : zC p s m args meth c prog_14_method_6_code (some .int) 6 "NumberDressModel") (hA : ∀ q : Nat, s.heap.size ≤ q → A q) (hE : zE gE A s) (hk8 : ∀ (x2 : Int32) (x3 : Int32) (x4 : Int32) (H : Heap) (locs : List Loc) (ls : Array Slot), lv_has ls 6 [(0, .ref h0), (1, .int x1), (2, .int x2), (3, .int x3), (4, .int x4)] → va_K (dC, dI) zCl [(cA1, .int)] s → va_P (dC, dI) zCl [(h0, .inr (12, o_M I0 J0 h1 a0_4 a0_5 a0_6 a0_7 a0_8 a0_9 a0_10 a0_11 a0_22 a0_26 a0_29 a0_31 a0_32 a0_34)), (h1, .inl (cA1, n1, .inl f1))] H → va_D A [(h0, .inr (12, o_M I0 J0 h1 a0_4 a0_5 a0_6 a0_7 a0_8 a0_9 a0_10 a0_11 a0_22 a0_26 a0_29 a0_31 a0_32 a0_34)), (h1, .inl (cA1, n1, .inl f1))] → va_S A s.heap H locs → k8 x2 x3 x4 → W p l e (headSpec (Cond.code (⟨"NumberDressModel", "type", "(I)I"⟩ : MethodName) prog_14_method_6_code 6 (some .int) :: zT) { frames := 0, cells := 0, slots := 0, locals := 0 }).room s m args below meth c H locs 0 0 (MQ below (va_Qi Z (zB (dC, dI) zCl [(cA1, .int)] A (fun u : (Nat → Int32) × (Nat → Int32) => [(h0, .inr (12, o_M u.1 J0 h1 a0_4 a0_5 a0_6 a0_7 a0_8 a0_9 a0_10 a0_11 a0_22 a0_26 a0_29 a0_31 a0_32 a0_34)), (h1, .inl (cA1, n1, .inl u.2))])) A) args s 0 0 A) (F0 m 8 ls [])) (hl : lv_has ls 6 [(0, .ref h0), (1, .int x1), (2, .int x2), (4, .int x4)]) (hK : va_K (dC, dI) zCl [(cA1, .int)] s) (hP : va_P (dC, dI) zCl [(h0, .inr (12, o_M I0 J0 h1 a0_4 a0_5 a0_6 a0_7 a0_8 a0_9 a0_10 a0_11 a0_22 a0_26 a0_29 a0_31 a0_32 a0_34)), (h1, .inl (cA1, n1, .inl f1))] H) (hD : va_D A [(h0, .inr (12, o_M I0 J0 h1 a0_4 a0_5 a0_6 a0_7 a0_8 a0_9 a0_10 a0_11 a0_22 a0_26 a0_29 a0_31 a0_32 a0_34)), (h1, .inl (cA1, n1, .inl f1))]) (hS : va_S A s.heap H locs) (hv : v_M_type_59 I0 J0 n1 f1 x1 x2 x4 k8 Z) : W p l e (headSpec (Cond.code (⟨"NumberDressModel", "type", "(I)I"⟩ : MethodName) prog_14_method_6_code 6 (some .int) :: zT) { frames := 0, cells := 0, slots := 0, locals := 0 }).room s m args below meth c H locs 0 0 (MQ below (va_Qi Z (zB (dC, dI) zCl [(cA1, .int)] A (fun u : (Nat → Int32) × (Nat → Int32) => [(h0, .inr (12, o_M u.1 J0 h1 a0_4 a0_5 a0_6 a0_7 a0_8 a0_9 a0_10 a0_11 a0_22 a0_26 a0_29 a0_31 a0_32 a0_34)), (h1, .inl (cA1, n1, .inl u.2))])) A) args s 0 0 A) (F0 m 59 ls []) := by
  obtain ⟨hx, hb, hr, hml, hown, ht, hlocks⟩ := id hc
  unfold v_M_type_59 at hv
  refine lv_iconst (v := (1 : Int32)) hx hb d_M_type_59 (by decide) ?_
  refine lv_goto (tgt := 64) hx hb d_M_type_60 (by decide) ?_
  exact b_M_type_64 hc hA hE hk8 (lv_sub hl [0, 1, 2, 3] rfl) hK hP hD hS hv
set_option maxHeartbeats 4000000 in
set_option maxRecDepth 100000 in
theorem b_M_type_63 {h0 : Nat} {a0_4 : Nat} {a0_5 : Nat} {a0_6 : Nat} {a0_7 : Nat} {a0_8 : Nat} {a0_9 : Nat} {a0_10 : Nat} {a0_11 : Nat} {a0_22 : Nat} {a0_26 : Nat} {a0_29 : Nat} {a0_31 : Nat} {a0_32 : Nat} {a0_34 : Nat} {h1 : Nat} {cA1 : ClassId} {I0 : Nat → Int32} {J0 : Nat → Int64} {n1 : Nat} {f1 : Nat → Int32} {x1 : Int32} {x2 : Int32} {x4 : Int32} {k8 : Int32 → Int32 → Int32 → Prop} {Z : Int32 → (Nat → Int32) × (Nat → Int32) → Prop} {H : Heap} {locs : List Loc} {ls : Array Slot} (hc : zC p s m args meth c prog_14_method_6_code (some .int) 6 "NumberDressModel") (hA : ∀ q : Nat, s.heap.size ≤ q → A q) (hE : zE gE A s) (hk8 : ∀ (x2 : Int32) (x3 : Int32) (x4 : Int32) (H : Heap) (locs : List Loc) (ls : Array Slot), lv_has ls 6 [(0, .ref h0), (1, .int x1), (2, .int x2), (3, .int x3), (4, .int x4)] → va_K (dC, dI) zCl [(cA1, .int)] s → va_P (dC, dI) zCl [(h0, .inr (12, o_M I0 J0 h1 a0_4 a0_5 a0_6 a0_7 a0_8 a0_9 a0_10 a0_11 a0_22 a0_26 a0_29 a0_31 a0_32 a0_34)), (h1, .inl (cA1, n1, .inl f1))] H → va_D A [(h0, .inr (12, o_M I0 J0 h1 a0_4 a0_5 a0_6 a0_7 a0_8 a0_9 a0_10 a0_11 a0_22 a0_26 a0_29 a0_31 a0_32 a0_34)), (h1, .inl (cA1, n1, .inl f1))] → va_S A s.heap H locs → k8 x2 x3 x4 → W p l e (headSpec (Cond.code (⟨"NumberDressModel", "type", "(I)I"⟩ : MethodName) prog_14_method_6_code 6 (some .int) :: zT) { frames := 0, cells := 0, slots := 0, locals := 0 }).room s m args below meth c H locs 0 0 (MQ below (va_Qi Z (zB (dC, dI) zCl [(cA1, .int)] A (fun u : (Nat → Int32) × (Nat → Int32) => [(h0, .inr (12, o_M u.1 J0 h1 a0_4 a0_5 a0_6 a0_7 a0_8 a0_9 a0_10 a0_11 a0_22 a0_26 a0_29 a0_31 a0_32 a0_34)), (h1, .inl (cA1, n1, .inl u.2))])) A) args s 0 0 A) (F0 m 8 ls [])) (hl : lv_has ls 6 [(0, .ref h0), (1, .int x1), (2, .int x2), (4, .int x4)]) (hK : va_K (dC, dI) zCl [(cA1, .int)] s) (hP : va_P (dC, dI) zCl [(h0, .inr (12, o_M I0 J0 h1 a0_4 a0_5 a0_6 a0_7 a0_8 a0_9 a0_10 a0_11 a0_22 a0_26 a0_29 a0_31 a0_32 a0_34)), (h1, .inl (cA1, n1, .inl f1))] H) (hD : va_D A [(h0, .inr (12, o_M I0 J0 h1 a0_4 a0_5 a0_6 a0_7 a0_8 a0_9 a0_10 a0_11 a0_22 a0_26 a0_29 a0_31 a0_32 a0_34)), (h1, .inl (cA1, n1, .inl f1))]) (hS : va_S A s.heap H locs) (hv : v_M_type_63 I0 J0 n1 f1 x1 x2 x4 k8 Z) : W p l e (headSpec (Cond.code (⟨"NumberDressModel", "type", "(I)I"⟩ : MethodName) prog_14_method_6_code 6 (some .int) :: zT) { frames := 0, cells := 0, slots := 0, locals := 0 }).room s m args below meth c H locs 0 0 (MQ below (va_Qi Z (zB (dC, dI) zCl [(cA1, .int)] A (fun u : (Nat → Int32) × (Nat → Int32) => [(h0, .inr (12, o_M u.1 J0 h1 a0_4 a0_5 a0_6 a0_7 a0_8 a0_9 a0_10 a0_11 a0_22 a0_26 a0_29 a0_31 a0_32 a0_34)), (h1, .inl (cA1, n1, .inl u.2))])) A) args s 0 0 A) (F0 m 63 ls []) := by
  obtain ⟨hx, hb, hr, hml, hown, ht, hlocks⟩ := id hc
  unfold v_M_type_63 at hv
  refine lv_iconst (v := (0 : Int32)) hx hb d_M_type_63 (by decide) ?_
  exact b_M_type_64 hc hA hE hk8 (lv_sub hl [0, 1, 2, 3] rfl) hK hP hD hS hv
set_option maxHeartbeats 4000000 in
set_option maxRecDepth 100000 in
theorem b_M_type_35 {h0 : Nat} {a0_4 : Nat} {a0_5 : Nat} {a0_6 : Nat} {a0_7 : Nat} {a0_8 : Nat} {a0_9 : Nat} {a0_10 : Nat} {a0_11 : Nat} {a0_22 : Nat} {a0_26 : Nat} {a0_29 : Nat} {a0_31 : Nat} {a0_32 : Nat} {a0_34 : Nat} {h1 : Nat} {cA1 : ClassId} {I0 : Nat → Int32} {J0 : Nat → Int64} {n1 : Nat} {f1 : Nat → Int32} {x1 : Int32} {x3 : Int32} {x4 : Int32} {x5 : Int32} {s0 : Int32} {k8 : Int32 → Int32 → Int32 → Prop} {Z : Int32 → (Nat → Int32) × (Nat → Int32) → Prop} {H : Heap} {locs : List Loc} {ls : Array Slot} (hc : zC p s m args meth c prog_14_method_6_code (some .int) 6 "NumberDressModel") (hA : ∀ q : Nat, s.heap.size ≤ q → A q) (hE : zE gE A s) (hk8 : ∀ (x2 : Int32) (x3 : Int32) (x4 : Int32) (H : Heap) (locs : List Loc) (ls : Array Slot), lv_has ls 6 [(0, .ref h0), (1, .int x1), (2, .int x2), (3, .int x3), (4, .int x4)] → va_K (dC, dI) zCl [(cA1, .int)] s → va_P (dC, dI) zCl [(h0, .inr (12, o_M I0 J0 h1 a0_4 a0_5 a0_6 a0_7 a0_8 a0_9 a0_10 a0_11 a0_22 a0_26 a0_29 a0_31 a0_32 a0_34)), (h1, .inl (cA1, n1, .inl f1))] H → va_D A [(h0, .inr (12, o_M I0 J0 h1 a0_4 a0_5 a0_6 a0_7 a0_8 a0_9 a0_10 a0_11 a0_22 a0_26 a0_29 a0_31 a0_32 a0_34)), (h1, .inl (cA1, n1, .inl f1))] → va_S A s.heap H locs → k8 x2 x3 x4 → W p l e (headSpec (Cond.code (⟨"NumberDressModel", "type", "(I)I"⟩ : MethodName) prog_14_method_6_code 6 (some .int) :: zT) { frames := 0, cells := 0, slots := 0, locals := 0 }).room s m args below meth c H locs 0 0 (MQ below (va_Qi Z (zB (dC, dI) zCl [(cA1, .int)] A (fun u : (Nat → Int32) × (Nat → Int32) => [(h0, .inr (12, o_M u.1 J0 h1 a0_4 a0_5 a0_6 a0_7 a0_8 a0_9 a0_10 a0_11 a0_22 a0_26 a0_29 a0_31 a0_32 a0_34)), (h1, .inl (cA1, n1, .inl u.2))])) A) args s 0 0 A) (F0 m 8 ls [])) (hl : lv_has ls 6 [(0, .ref h0), (1, .int x1), (3, .int x3), (4, .int x4), (5, .int x5)]) (hK : va_K (dC, dI) zCl [(cA1, .int)] s) (hP : va_P (dC, dI) zCl [(h0, .inr (12, o_M I0 J0 h1 a0_4 a0_5 a0_6 a0_7 a0_8 a0_9 a0_10 a0_11 a0_22 a0_26 a0_29 a0_31 a0_32 a0_34)), (h1, .inl (cA1, n1, .inl f1))] H) (hD : va_D A [(h0, .inr (12, o_M I0 J0 h1 a0_4 a0_5 a0_6 a0_7 a0_8 a0_9 a0_10 a0_11 a0_22 a0_26 a0_29 a0_31 a0_32 a0_34)), (h1, .inl (cA1, n1, .inl f1))]) (hS : va_S A s.heap H locs) (hv : v_M_type_35 I0 J0 n1 f1 x1 x3 x4 x5 s0 k8 Z) : W p l e (headSpec (Cond.code (⟨"NumberDressModel", "type", "(I)I"⟩ : MethodName) prog_14_method_6_code 6 (some .int) :: zT) { frames := 0, cells := 0, slots := 0, locals := 0 }).room s m args below meth c H locs 0 0 (MQ below (va_Qi Z (zB (dC, dI) zCl [(cA1, .int)] A (fun u : (Nat → Int32) × (Nat → Int32) => [(h0, .inr (12, o_M u.1 J0 h1 a0_4 a0_5 a0_6 a0_7 a0_8 a0_9 a0_10 a0_11 a0_22 a0_26 a0_29 a0_31 a0_32 a0_34)), (h1, .inl (cA1, n1, .inl u.2))])) A) args s 0 0 A) (F0 m 35 ls [.int s0]) := by
  obtain ⟨hx, hb, hr, hml, hown, ht, hlocks⟩ := id hc
  unfold v_M_type_35 at hv
  refine lv_istore_n (lv' := [(2, .int s0), (0, .ref h0), (1, .int x1), (3, .int x3), (4, .int x4), (5, .int x5)]) hx hb d_M_type_35 rfl hl (by decide) rfl (fun ls hl => ?_)
  refine lv_iload_n hx hb d_M_type_36 rfl (lv_at hl 3 rfl) ?_
  refine lv_if_ne (tgt := 59) hx hb d_M_type_37 (by decide) (fun c_1 => ?_) (fun c_1 => ?_)
  · have hv := hv.1 c_1
    exact b_M_type_59 hc hA hE hk8 (lv_sub hl [1, 2, 0, 4] rfl) hK hP hD hS hv
  · have hv := hv.2 c_1
    refine lv_iload hx hb d_M_type_40 (lv_at hl 5 rfl) ?_
    refine lv_if_le (tgt := 63) hx hb d_M_type_42 (by decide) (fun c_2 => ?_) (fun c_2 => ?_)
    · have hv := hv.1 c_2
      exact b_M_type_63 hc hA hE hk8 (lv_sub hl [1, 2, 0, 4] rfl) hK hP hD hS hv
    · have hv := hv.2 c_2
      refine lv_iload hx hb d_M_type_45 (lv_at hl 5 rfl) ?_
      refine lv_bipush (v := (32 : Int32)) hx hb d_M_type_47 (by decide) ?_
      refine lv_icmp_lt (tgt := 59) hx hb d_M_type_49 (by decide) (fun c_3 => ?_) (fun c_3 => ?_)
      · have hv := hv.1 c_3
        exact b_M_type_59 hc hA hE hk8 (lv_sub hl [1, 2, 0, 4] rfl) hK hP hD hS hv
      · have hv := hv.2 c_3
        refine lv_iload hx hb d_M_type_52 (lv_at hl 5 rfl) ?_
        refine lv_bipush (v := (126 : Int32)) hx hb d_M_type_54 (by decide) ?_
        refine lv_icmp_le (tgt := 63) hx hb d_M_type_56 (by decide) (fun c_4 => ?_) (fun c_4 => ?_)
        · have hv := hv.1 c_4
          exact b_M_type_63 hc hA hE hk8 (lv_sub hl [1, 2, 0, 4] rfl) hK hP hD hS hv
        · have hv := hv.2 c_4
          exact b_M_type_59 hc hA hE hk8 (lv_sub hl [1, 2, 0, 4] rfl) hK hP hD hS hv
set_option maxHeartbeats 4000000 in
set_option maxRecDepth 100000 in
theorem b_M_type_153 {h0 : Nat} {a0_4 : Nat} {a0_5 : Nat} {a0_6 : Nat} {a0_7 : Nat} {a0_8 : Nat} {a0_9 : Nat} {a0_10 : Nat} {a0_11 : Nat} {a0_22 : Nat} {a0_26 : Nat} {a0_29 : Nat} {a0_31 : Nat} {a0_32 : Nat} {a0_34 : Nat} {h1 : Nat} {cA1 : ClassId} {I0 : Nat → Int32} {J0 : Nat → Int64} {n1 : Nat} {f1 : Nat → Int32} {x1 : Int32} {x4 : Int32} {k112 : (Nat → Int32) → (Nat → Int32) → Int32 → Prop} {Z : Int32 → (Nat → Int32) × (Nat → Int32) → Prop} {H : Heap} {locs : List Loc} {ls : Array Slot} (hc : zC p s m args meth c prog_14_method_6_code (some .int) 6 "NumberDressModel") (hA : ∀ q : Nat, s.heap.size ≤ q → A q) (hE : zE gE A s) (hk112 : ∀ (I0 : Nat → Int32) (f1 : Nat → Int32) (x4 : Int32) (H : Heap) (locs : List Loc) (ls : Array Slot), lv_has ls 6 [(0, .ref h0), (1, .int x1), (4, .int x4)] → va_K (dC, dI) zCl [(cA1, .int)] s → va_P (dC, dI) zCl [(h0, .inr (12, o_M I0 J0 h1 a0_4 a0_5 a0_6 a0_7 a0_8 a0_9 a0_10 a0_11 a0_22 a0_26 a0_29 a0_31 a0_32 a0_34)), (h1, .inl (cA1, n1, .inl f1))] H → va_D A [(h0, .inr (12, o_M I0 J0 h1 a0_4 a0_5 a0_6 a0_7 a0_8 a0_9 a0_10 a0_11 a0_22 a0_26 a0_29 a0_31 a0_32 a0_34)), (h1, .inl (cA1, n1, .inl f1))] → va_S A s.heap H locs → k112 I0 f1 x4 → W p l e (headSpec (Cond.code (⟨"NumberDressModel", "type", "(I)I"⟩ : MethodName) prog_14_method_6_code 6 (some .int) :: zT) { frames := 0, cells := 0, slots := 0, locals := 0 }).room s m args below meth c H locs 0 0 (MQ below (va_Qi Z (zB (dC, dI) zCl [(cA1, .int)] A (fun u : (Nat → Int32) × (Nat → Int32) => [(h0, .inr (12, o_M u.1 J0 h1 a0_4 a0_5 a0_6 a0_7 a0_8 a0_9 a0_10 a0_11 a0_22 a0_26 a0_29 a0_31 a0_32 a0_34)), (h1, .inl (cA1, n1, .inl u.2))])) A) args s 0 0 A) (F0 m 112 ls [])) (hl : lv_has ls 6 [(0, .ref h0), (1, .int x1), (4, .int x4)]) (hK : va_K (dC, dI) zCl [(cA1, .int)] s) (hP : va_P (dC, dI) zCl [(h0, .inr (12, o_M I0 J0 h1 a0_4 a0_5 a0_6 a0_7 a0_8 a0_9 a0_10 a0_11 a0_22 a0_26 a0_29 a0_31 a0_32 a0_34)), (h1, .inl (cA1, n1, .inl f1))] H) (hD : va_D A [(h0, .inr (12, o_M I0 J0 h1 a0_4 a0_5 a0_6 a0_7 a0_8 a0_9 a0_10 a0_11 a0_22 a0_26 a0_29 a0_31 a0_32 a0_34)), (h1, .inl (cA1, n1, .inl f1))]) (hS : va_S A s.heap H locs) (hv : v_M_type_153 I0 J0 n1 f1 x1 x4 k112 Z) : W p l e (headSpec (Cond.code (⟨"NumberDressModel", "type", "(I)I"⟩ : MethodName) prog_14_method_6_code 6 (some .int) :: zT) { frames := 0, cells := 0, slots := 0, locals := 0 }).room s m args below meth c H locs 0 0 (MQ below (va_Qi Z (zB (dC, dI) zCl [(cA1, .int)] A (fun u : (Nat → Int32) × (Nat → Int32) => [(h0, .inr (12, o_M u.1 J0 h1 a0_4 a0_5 a0_6 a0_7 a0_8 a0_9 a0_10 a0_11 a0_22 a0_26 a0_29 a0_31 a0_32 a0_34)), (h1, .inl (cA1, n1, .inl u.2))])) A) args s 0 0 A) (F0 m 153 ls []) := by
  obtain ⟨hx, hb, hr, hml, hown, ht, hlocks⟩ := id hc
  unfold v_M_type_153 at hv
  refine lv_iinc (v := (x4 + (-8 : Int32))) (lv' := [(4, .int (x4 + (-8 : Int32))), (0, .ref h0), (1, .int x1)]) hx hb d_M_type_153 hl (k := 2) rfl rfl (by decide) rfl (fun ls hl => ?_)
  refine lv_goto (tgt := 112) hx hb d_M_type_156 (by decide) ?_
  exact hk112 I0 f1 (x4 + (-8 : Int32)) _ _ _ (lv_sub hl [1, 2, 0] rfl) hK hP hD hS hv
set_option maxHeartbeats 4000000 in
set_option maxRecDepth 100000 in
theorem b_M_type_112 {h0 : Nat} {a0_4 : Nat} {a0_5 : Nat} {a0_6 : Nat} {a0_7 : Nat} {a0_8 : Nat} {a0_9 : Nat} {a0_10 : Nat} {a0_11 : Nat} {a0_22 : Nat} {a0_26 : Nat} {a0_29 : Nat} {a0_31 : Nat} {a0_32 : Nat} {a0_34 : Nat} {h1 : Nat} {cA1 : ClassId} {J0 : Nat → Int64} {n1 : Nat} {x1 : Int32}  {Z : Int32 → (Nat → Int32) × (Nat → Int32) → Prop} (hc : zC p s m args meth c prog_14_method_6_code (some .int) 6 "NumberDressModel") (hA : ∀ q : Nat, s.heap.size ≤ q → A q) (hE : zE gE A s) : ∀ (N : Nat) (I0 : Nat → Int32) (f1 : Nat → Int32) (x4 : Int32) (H : Heap) (locs : List Loc) (ls : Array Slot), lv_has ls 6 [(0, .ref h0), (1, .int x1), (4, .int x4)] → va_K (dC, dI) zCl [(cA1, .int)] s → va_P (dC, dI) zCl [(h0, .inr (12, o_M I0 J0 h1 a0_4 a0_5 a0_6 a0_7 a0_8 a0_9 a0_10 a0_11 a0_22 a0_26 a0_29 a0_31 a0_32 a0_34)), (h1, .inl (cA1, n1, .inl f1))] H → va_D A [(h0, .inr (12, o_M I0 J0 h1 a0_4 a0_5 a0_6 a0_7 a0_8 a0_9 a0_10 a0_11 a0_22 a0_26 a0_29 a0_31 a0_32 a0_34)), (h1, .inl (cA1, n1, .inl f1))] → va_S A s.heap H locs → v_M_type_112 J0 n1 x1  Z N I0 f1 x4 → W p l e (headSpec (Cond.code (⟨"NumberDressModel", "type", "(I)I"⟩ : MethodName) prog_14_method_6_code 6 (some .int) :: zT) { frames := 0, cells := 0, slots := 0, locals := 0 }).room s m args below meth c H locs 0 0 (MQ below (va_Qi Z (zB (dC, dI) zCl [(cA1, .int)] A (fun u : (Nat → Int32) × (Nat → Int32) => [(h0, .inr (12, o_M u.1 J0 h1 a0_4 a0_5 a0_6 a0_7 a0_8 a0_9 a0_10 a0_11 a0_22 a0_26 a0_29 a0_31 a0_32 a0_34)), (h1, .inl (cA1, n1, .inl u.2))])) A) args s 0 0 A) (F0 m 112 ls []) := by
  obtain ⟨hx, hb, hr, hml, hown, ht, hlocks⟩ := id hc
  intro N
  induction N with
  | zero => intro I0 f1 x4 H locs ls hl hK hP hD hS hv; exact hv.elim
  | succ N hk112 =>
    intro I0 f1 x4 H locs ls hl hK hP hD hS hv
    unfold v_M_type_112 at hv
    refine lv_iload hx hb d_M_type_112 (lv_at hl 2 rfl) ?_
    refine lv_if_lt (tgt := 159) hx hb d_M_type_114 (by decide) (fun c_1 => ?_) (fun c_1 => ?_)
    · have hv := hv.1 c_1
      refine lv_aload_n hx hb d_M_type_159 rfl (lv_at hl 0 rfl) ?_
      refine va_get (D := (dC, dI)) (ci := 12) (v := .int (I0 1)) (C := "NumberDressModel") (T := T_M) (N := 41) hx hb ht zin_M hown hK hP 0 rfl rfl 1 (by decide) (ht _ zw_1262) (fun _ h9 => h9) rfl d_M_type_160 ?_
      exact W.iret (v := (I0 1)) hx hb hr (fun t ht hW => ⟨⟨_, (I0, f1), rfl, hv, ⟨by rw [ht]; exact hP, va_K.moved hW.alike hK, hD⟩⟩, hS.F ht⟩) hS.2.2 d_M_type_163
    · have hv := hv.2 c_1
      refine lv_iload_n hx hb d_M_type_117 rfl (lv_at hl 1 rfl) ?_
      refine lv_iload hx hb d_M_type_118 (lv_at hl 2 rfl) ?_
      refine lv_ishr hx hb d_M_type_120 ?_
      refine lv_sipush (v := (255 : Int32)) hx hb d_M_type_121 (by decide) ?_
      refine lv_iand hx hb d_M_type_124 ?_
      refine lv_topi (fun y_2 ey_2 => ?_)
      have hv := hv y_2 ey_2
      refine lv_istore (lv' := [(5, .int y_2), (0, .ref h0), (1, .int x1), (4, .int x4)]) hx hb d_M_type_125 hl (by decide) rfl (fun ls hl => ?_)
      refine lv_iload hx hb d_M_type_127 (lv_at hl 0 rfl) ?_
      refine lv_if_le (tgt := 153) hx hb d_M_type_129 (by decide) (fun c_3 => ?_) (fun c_3 => ?_)
      · have hv := hv.1 c_3
        exact b_M_type_153 hc hA hE hk112 (lv_sub hl [1, 2, 3] rfl) hK hP hD hS hv
      · have hv := hv.2 c_3
        refine lv_aload_n hx hb d_M_type_132 rfl (lv_at hl 1 rfl) ?_
        refine va_get (D := (dC, dI)) (ci := 12) (v := .ref h1) (C := "NumberDressModel") (T := T_M) (N := 41) hx hb ht zin_M hown hK hP 0 rfl rfl 2 (by decide) (ht _ zw_1263) (fun _ h9 => h9) rfl d_M_type_133 ?_
        refine lv_aload_n hx hb d_M_type_136 rfl (lv_at hl 1 rfl) ?_
        refine va_get (D := (dC, dI)) (ci := 12) (v := .int (I0 1)) (C := "NumberDressModel") (T := T_M) (N := 41) hx hb ht zin_M hown hK hP 0 rfl rfl 1 (by decide) (ht _ zw_1262) (fun _ h9 => h9) rfl d_M_type_137 ?_
        refine lv_iload hx hb d_M_type_140 (lv_at hl 0 rfl) ?_
        obtain ⟨q_4, hv⟩ := hv
        refine va_iast hx hb hK hP hD hS 1 0 rfl rfl q_4 d_M_type_142 (fun H locs hP hD hS => ?_)
        have hP : va_P (dC, dI) zCl [(h0, .inr (12, o_M I0 J0 h1 a0_4 a0_5 a0_6 a0_7 a0_8 a0_9 a0_10 a0_11 a0_22 a0_26 a0_29 a0_31 a0_32 a0_34)), (h1, .inl (cA1, n1, .inl (upd f1 (I0 1).toNatClampNeg y_2)))] H := hP
        have hD : va_D A [(h0, .inr (12, o_M I0 J0 h1 a0_4 a0_5 a0_6 a0_7 a0_8 a0_9 a0_10 a0_11 a0_22 a0_26 a0_29 a0_31 a0_32 a0_34)), (h1, .inl (cA1, n1, .inl (upd f1 (I0 1).toNatClampNeg y_2)))] := hD
        refine lv_aload_n hx hb d_M_type_143 rfl (lv_at hl 1 rfl) ?_
        refine lv_dup hx hb d_M_type_144 rfl ?_
        refine va_get (D := (dC, dI)) (ci := 12) (v := .int (I0 1)) (C := "NumberDressModel") (T := T_M) (N := 41) hx hb ht zin_M hown hK hP 0 rfl rfl 1 (by decide) (ht _ zw_1262) (fun _ h9 => h9) rfl d_M_type_145 ?_
        refine lv_iconst (v := (1 : Int32)) hx hb d_M_type_148 (by decide) ?_
        refine lv_iadd hx hb d_M_type_149 ?_
        refine va_put (D := (dC, dI)) (ci := 12) (v := .int ((I0 1) + (1 : Int32))) (ty := .int) (C := "NumberDressModel") (T := T_M) (N := 41) hx hb ht zin_M ty_M tyok_M nm_M hown hK hP hD hS 0 rfl rfl 1 (by decide) (ht _ zw_1262) (fun _ h9 => h9) rfl (by decide +kernel) rfl rfl (Nat.le_of_ble_eq_true rfl) d_M_type_150 (fun H locs hP hD hS => ?_)
        have hP : va_P (dC, dI) zCl [(h0, .inr (12, o_M (zu I0 1 ((I0 1) + (1 : Int32))) J0 h1 a0_4 a0_5 a0_6 a0_7 a0_8 a0_9 a0_10 a0_11 a0_22 a0_26 a0_29 a0_31 a0_32 a0_34)), (h1, .inl (cA1, n1, .inl (upd f1 (I0 1).toNatClampNeg y_2)))] H := hP
        have hD : va_D A [(h0, .inr (12, o_M (zu I0 1 ((I0 1) + (1 : Int32))) J0 h1 a0_4 a0_5 a0_6 a0_7 a0_8 a0_9 a0_10 a0_11 a0_22 a0_26 a0_29 a0_31 a0_32 a0_34)), (h1, .inl (cA1, n1, .inl (upd f1 (I0 1).toNatClampNeg y_2)))] := hD
        exact b_M_type_153 hc hA hE hk112 (lv_sub hl [1, 2, 3] rfl) hK hP hD hS hv
set_option maxHeartbeats 4000000 in
set_option maxRecDepth 100000 in
theorem b_M_type_96 {h0 : Nat} {a0_4 : Nat} {a0_5 : Nat} {a0_6 : Nat} {a0_7 : Nat} {a0_8 : Nat} {a0_9 : Nat} {a0_10 : Nat} {a0_11 : Nat} {a0_22 : Nat} {a0_26 : Nat} {a0_29 : Nat} {a0_31 : Nat} {a0_32 : Nat} {a0_34 : Nat} {h1 : Nat} {cA1 : ClassId} {I0 : Nat → Int32} {J0 : Nat → Int64} {n1 : Nat} {f1 : Nat → Int32} {x1 : Int32} {s1 : Int32}  {Z : Int32 → (Nat → Int32) × (Nat → Int32) → Prop} {H : Heap} {locs : List Loc} {ls : Array Slot} (hc : zC p s m args meth c prog_14_method_6_code (some .int) 6 "NumberDressModel") (hA : ∀ q : Nat, s.heap.size ≤ q → A q) (hE : zE gE A s) (hl : lv_has ls 6 [(0, .ref h0), (1, .int x1)]) (hK : va_K (dC, dI) zCl [(cA1, .int)] s) (hP : va_P (dC, dI) zCl [(h0, .inr (12, o_M I0 J0 h1 a0_4 a0_5 a0_6 a0_7 a0_8 a0_9 a0_10 a0_11 a0_22 a0_26 a0_29 a0_31 a0_32 a0_34)), (h1, .inl (cA1, n1, .inl f1))] H) (hD : va_D A [(h0, .inr (12, o_M I0 J0 h1 a0_4 a0_5 a0_6 a0_7 a0_8 a0_9 a0_10 a0_11 a0_22 a0_26 a0_29 a0_31 a0_32 a0_34)), (h1, .inl (cA1, n1, .inl f1))]) (hS : va_S A s.heap H locs) (hv : v_M_type_96 I0 J0 n1 f1 x1 s1  Z) : W p l e (headSpec (Cond.code (⟨"NumberDressModel", "type", "(I)I"⟩ : MethodName) prog_14_method_6_code 6 (some .int) :: zT) { frames := 0, cells := 0, slots := 0, locals := 0 }).room s m args below meth c H locs 0 0 (MQ below (va_Qi Z (zB (dC, dI) zCl [(cA1, .int)] A (fun u : (Nat → Int32) × (Nat → Int32) => [(h0, .inr (12, o_M u.1 J0 h1 a0_4 a0_5 a0_6 a0_7 a0_8 a0_9 a0_10 a0_11 a0_22 a0_26 a0_29 a0_31 a0_32 a0_34)), (h1, .inl (cA1, n1, .inl u.2))])) A) args s 0 0 A) (F0 m 96 ls [.int s1, .ref h0]) := by
  obtain ⟨hx, hb, hr, hml, hown, ht, hlocks⟩ := id hc
  unfold v_M_type_96 at hv
  refine va_put (D := (dC, dI)) (ci := 12) (v := .int s1) (ty := .int) (C := "NumberDressModel") (T := T_M) (N := 41) hx hb ht zin_M ty_M tyok_M nm_M hown hK hP hD hS 0 rfl rfl 0 (by decide) (ht _ zw_1261) (fun _ h9 => h9) rfl (by decide +kernel) rfl rfl (Nat.le_of_ble_eq_true rfl) d_M_type_96 (fun H locs hP hD hS => ?_)
  have hP : va_P (dC, dI) zCl [(h0, .inr (12, o_M (zu I0 0 s1) J0 h1 a0_4 a0_5 a0_6 a0_7 a0_8 a0_9 a0_10 a0_11 a0_22 a0_26 a0_29 a0_31 a0_32 a0_34)), (h1, .inl (cA1, n1, .inl f1))] H := hP
  have hD : va_D A [(h0, .inr (12, o_M (zu I0 0 s1) J0 h1 a0_4 a0_5 a0_6 a0_7 a0_8 a0_9 a0_10 a0_11 a0_22 a0_26 a0_29 a0_31 a0_32 a0_34)), (h1, .inl (cA1, n1, .inl f1))] := hD
  refine lv_aload_n hx hb d_M_type_99 rfl (lv_at hl 0 rfl) ?_
  refine va_get (D := (dC, dI)) (ci := 12) (v := .int s1) (C := "NumberDressModel") (T := T_M) (N := 41) hx hb ht zin_M hown hK hP 0 rfl rfl 0 (by decide) (ht _ zw_1261) (fun _ h9 => h9) rfl d_M_type_100 ?_
  refine lv_if_le (tgt := 108) hx hb d_M_type_103 (by decide) (fun c_1 => ?_) (fun c_1 => ?_)
  · have hv := hv.1 c_1
    refine lv_bipush (v := (24 : Int32)) hx hb d_M_type_108 (by decide) ?_
    refine lv_istore (lv' := [(4, .int (24 : Int32)), (0, .ref h0), (1, .int x1)]) hx hb d_M_type_110 hl (by decide) rfl (fun ls hl => ?_)
    obtain ⟨Nx, hv⟩ := hv
    exact b_M_type_112 hc hA hE  Nx (zu I0 0 s1) f1 (24 : Int32) _ _ _ (lv_sub hl [1, 2, 0] rfl) hK hP hD hS hv
  · have hv := hv.2 c_1
    refine lv_iconst (v := (0 : Int32)) hx hb d_M_type_106 (by decide) ?_
    exact W.iret (v := (0 : Int32)) hx hb hr (fun t ht hW => ⟨⟨_, ((zu I0 0 s1), f1), rfl, hv, ⟨by rw [ht]; exact hP, va_K.moved hW.alike hK, hD⟩⟩, hS.F ht⟩) hS.2.2 d_M_type_107
set_option maxHeartbeats 4000000 in
set_option maxRecDepth 100000 in
theorem b_M_type_8 {h0 : Nat} {a0_4 : Nat} {a0_5 : Nat} {a0_6 : Nat} {a0_7 : Nat} {a0_8 : Nat} {a0_9 : Nat} {a0_10 : Nat} {a0_11 : Nat} {a0_22 : Nat} {a0_26 : Nat} {a0_29 : Nat} {a0_31 : Nat} {a0_32 : Nat} {a0_34 : Nat} {h1 : Nat} {cA1 : ClassId} {I0 : Nat → Int32} {J0 : Nat → Int64} {n1 : Nat} {f1 : Nat → Int32} {x1 : Int32}  {Z : Int32 → (Nat → Int32) × (Nat → Int32) → Prop} (hc : zC p s m args meth c prog_14_method_6_code (some .int) 6 "NumberDressModel") (hA : ∀ q : Nat, s.heap.size ≤ q → A q) (hE : zE gE A s) : ∀ (N : Nat) (x2 : Int32) (x3 : Int32) (x4 : Int32) (H : Heap) (locs : List Loc) (ls : Array Slot), lv_has ls 6 [(0, .ref h0), (1, .int x1), (2, .int x2), (3, .int x3), (4, .int x4)] → va_K (dC, dI) zCl [(cA1, .int)] s → va_P (dC, dI) zCl [(h0, .inr (12, o_M I0 J0 h1 a0_4 a0_5 a0_6 a0_7 a0_8 a0_9 a0_10 a0_11 a0_22 a0_26 a0_29 a0_31 a0_32 a0_34)), (h1, .inl (cA1, n1, .inl f1))] H → va_D A [(h0, .inr (12, o_M I0 J0 h1 a0_4 a0_5 a0_6 a0_7 a0_8 a0_9 a0_10 a0_11 a0_22 a0_26 a0_29 a0_31 a0_32 a0_34)), (h1, .inl (cA1, n1, .inl f1))] → va_S A s.heap H locs → v_M_type_8 I0 J0 n1 f1 x1  Z N x2 x3 x4 → W p l e (headSpec (Cond.code (⟨"NumberDressModel", "type", "(I)I"⟩ : MethodName) prog_14_method_6_code 6 (some .int) :: zT) { frames := 0, cells := 0, slots := 0, locals := 0 }).room s m args below meth c H locs 0 0 (MQ below (va_Qi Z (zB (dC, dI) zCl [(cA1, .int)] A (fun u : (Nat → Int32) × (Nat → Int32) => [(h0, .inr (12, o_M u.1 J0 h1 a0_4 a0_5 a0_6 a0_7 a0_8 a0_9 a0_10 a0_11 a0_22 a0_26 a0_29 a0_31 a0_32 a0_34)), (h1, .inl (cA1, n1, .inl u.2))])) A) args s 0 0 A) (F0 m 8 ls []) := by
  obtain ⟨hx, hb, hr, hml, hown, ht, hlocks⟩ := id hc
  intro N
  induction N with
  | zero => intro x2 x3 x4 H locs ls hl hK hP hD hS hv; exact hv.elim
  | succ N hk8 =>
    intro x2 x3 x4 H locs ls hl hK hP hD hS hv
    unfold v_M_type_8 at hv
    refine lv_iload hx hb d_M_type_8 (lv_at hl 4 rfl) ?_
    refine lv_if_lt (tgt := 71) hx hb d_M_type_10 (by decide) (fun c_1 => ?_) (fun c_1 => ?_)
    · have hv := hv.1 c_1
      refine lv_aload_n hx hb d_M_type_71 rfl (lv_at hl 0 rfl) ?_
      refine lv_iload_n hx hb d_M_type_72 rfl (lv_at hl 3 rfl) ?_
      refine lv_if_eq (tgt := 80) hx hb d_M_type_73 (by decide) (fun c_2 => ?_) (fun c_2 => ?_)
      · have hv := hv.1 c_2
        refine lv_aload_n hx hb d_M_type_80 rfl (lv_at hl 0 rfl) ?_
        refine va_get (D := (dC, dI)) (ci := 12) (v := .int (I0 1)) (C := "NumberDressModel") (T := T_M) (N := 41) hx hb ht zin_M hown hK hP 0 rfl rfl 1 (by decide) (ht _ zw_1262) (fun _ h9 => h9) rfl d_M_type_81 ?_
        refine lv_iload_n hx hb d_M_type_84 rfl (lv_at hl 2 rfl) ?_
        refine lv_iadd hx hb d_M_type_85 ?_
        refine lv_bipush (v := (64 : Int32)) hx hb d_M_type_86 (by decide) ?_
        refine lv_icmp_le (tgt := 95) hx hb d_M_type_88 (by decide) (fun c_3 => ?_) (fun c_3 => ?_)
        · have hv := hv.1 c_3
          refine lv_iconst (v := (0 : Int32)) hx hb d_M_type_95 (by decide) ?_
          exact b_M_type_96 hc hA hE  (lv_sub hl [0, 1] rfl) hK hP hD hS hv
        · have hv := hv.2 c_3
          refine lv_iconst (v := (2 : Int32)) hx hb d_M_type_91 (by decide) ?_
          refine lv_goto (tgt := 96) hx hb d_M_type_92 (by decide) ?_
          exact b_M_type_96 hc hA hE  (lv_sub hl [0, 1] rfl) hK hP hD hS hv
      · have hv := hv.2 c_2
        refine lv_iconst (v := (1 : Int32)) hx hb d_M_type_76 (by decide) ?_
        refine lv_goto (tgt := 96) hx hb d_M_type_77 (by decide) ?_
        exact b_M_type_96 hc hA hE  (lv_sub hl [0, 1] rfl) hK hP hD hS hv
    · have hv := hv.2 c_1
      refine lv_iload_n hx hb d_M_type_13 rfl (lv_at hl 1 rfl) ?_
      refine lv_iload hx hb d_M_type_14 (lv_at hl 4 rfl) ?_
      refine lv_ishr hx hb d_M_type_16 ?_
      refine lv_sipush (v := (255 : Int32)) hx hb d_M_type_17 (by decide) ?_
      refine lv_iand hx hb d_M_type_20 ?_
      refine lv_topi (fun y_4 ey_4 => ?_)
      have hv := hv y_4 ey_4
      refine lv_istore (lv' := [(5, .int y_4), (0, .ref h0), (1, .int x1), (2, .int x2), (3, .int x3), (4, .int x4)]) hx hb d_M_type_21 hl (by decide) rfl (fun ls hl => ?_)
      refine lv_iload hx hb d_M_type_23 (lv_at hl 0 rfl) ?_
      refine lv_if_le (tgt := 34) hx hb d_M_type_25 (by decide) (fun c_5 => ?_) (fun c_5 => ?_)
      · have hv := hv.1 c_5
        refine lv_iload_n hx hb d_M_type_34 rfl (lv_at hl 3 rfl) ?_
        exact b_M_type_35 hc hA hE hk8 (lv_sub hl [1, 2, 4, 5, 0] rfl) hK hP hD hS hv
      · have hv := hv.2 c_5
        refine lv_iload_n hx hb d_M_type_28 rfl (lv_at hl 3 rfl) ?_
        refine lv_iconst (v := (1 : Int32)) hx hb d_M_type_29 (by decide) ?_
        refine lv_iadd hx hb d_M_type_30 ?_
        refine lv_goto (tgt := 35) hx hb d_M_type_31 (by decide) ?_
        exact b_M_type_35 hc hA hE hk8 (lv_sub hl [1, 2, 4, 5, 0] rfl) hK hP hD hS hv
set_option maxHeartbeats 4000000 in
set_option maxRecDepth 100000 in
theorem b_M_type_0 {h0 : Nat} {a0_4 : Nat} {a0_5 : Nat} {a0_6 : Nat} {a0_7 : Nat} {a0_8 : Nat} {a0_9 : Nat} {a0_10 : Nat} {a0_11 : Nat} {a0_22 : Nat} {a0_26 : Nat} {a0_29 : Nat} {a0_31 : Nat} {a0_32 : Nat} {a0_34 : Nat} {h1 : Nat} {cA1 : ClassId} {I0 : Nat → Int32} {J0 : Nat → Int64} {n1 : Nat} {f1 : Nat → Int32} {x1 : Int32}  {Z : Int32 → (Nat → Int32) × (Nat → Int32) → Prop} {H : Heap} {locs : List Loc} {ls : Array Slot} (hc : zC p s m args meth c prog_14_method_6_code (some .int) 6 "NumberDressModel") (hA : ∀ q : Nat, s.heap.size ≤ q → A q) (hE : zE gE A s) (hl : lv_has ls 6 [(0, .ref h0), (1, .int x1)]) (hK : va_K (dC, dI) zCl [(cA1, .int)] s) (hP : va_P (dC, dI) zCl [(h0, .inr (12, o_M I0 J0 h1 a0_4 a0_5 a0_6 a0_7 a0_8 a0_9 a0_10 a0_11 a0_22 a0_26 a0_29 a0_31 a0_32 a0_34)), (h1, .inl (cA1, n1, .inl f1))] H) (hD : va_D A [(h0, .inr (12, o_M I0 J0 h1 a0_4 a0_5 a0_6 a0_7 a0_8 a0_9 a0_10 a0_11 a0_22 a0_26 a0_29 a0_31 a0_32 a0_34)), (h1, .inl (cA1, n1, .inl f1))]) (hS : va_S A s.heap H locs) (hv : v_M_type_0 I0 J0 n1 f1 x1  Z) : W p l e (headSpec (Cond.code (⟨"NumberDressModel", "type", "(I)I"⟩ : MethodName) prog_14_method_6_code 6 (some .int) :: zT) { frames := 0, cells := 0, slots := 0, locals := 0 }).room s m args below meth c H locs 0 0 (MQ below (va_Qi Z (zB (dC, dI) zCl [(cA1, .int)] A (fun u : (Nat → Int32) × (Nat → Int32) => [(h0, .inr (12, o_M u.1 J0 h1 a0_4 a0_5 a0_6 a0_7 a0_8 a0_9 a0_10 a0_11 a0_22 a0_26 a0_29 a0_31 a0_32 a0_34)), (h1, .inl (cA1, n1, .inl u.2))])) A) args s 0 0 A) (F0 m 0 ls []) := by
  obtain ⟨hx, hb, hr, hml, hown, ht, hlocks⟩ := id hc
  unfold v_M_type_0 at hv
  refine lv_iconst (v := (0 : Int32)) hx hb d_M_type_0 (by decide) ?_
  refine lv_istore_n (lv' := [(2, .int (0 : Int32)), (0, .ref h0), (1, .int x1)]) hx hb d_M_type_1 rfl hl (by decide) rfl (fun ls hl => ?_)
  refine lv_iconst (v := (0 : Int32)) hx hb d_M_type_2 (by decide) ?_
  refine lv_istore_n (lv' := [(3, .int (0 : Int32)), (2, .int (0 : Int32)), (0, .ref h0), (1, .int x1)]) hx hb d_M_type_3 rfl hl (by decide) rfl (fun ls hl => ?_)
  refine lv_bipush (v := (24 : Int32)) hx hb d_M_type_4 (by decide) ?_
  refine lv_istore (lv' := [(4, .int (24 : Int32)), (3, .int (0 : Int32)), (2, .int (0 : Int32)), (0, .ref h0), (1, .int x1)]) hx hb d_M_type_6 hl (by decide) rfl (fun ls hl => ?_)
  obtain ⟨Nx, hv⟩ := hv
  exact b_M_type_8 hc hA hE  Nx (0 : Int32) (0 : Int32) (24 : Int32) _ _ _ (lv_sub hl [3, 4, 2, 1, 0] rfl) hK hP hD hS hv
theorem zi_M_type : Cond.code (⟨"NumberDressModel", "type", "(I)I"⟩ : MethodName) prog_14_method_6_code 6 (some .int) ∈ zT := zw_1392
theorem zh_M_type : (((⟨"NumberDressModel", "type", "(I)I"⟩ : MethodName)).cls ≠ "java/lang/invoke/MethodHandle" ∧ ((⟨"NumberDressModel", "type", "(I)I"⟩ : MethodName)).cls ≠ "java/lang/invoke/VarHandle" ∧ (parseMethodDescriptor ((⟨"NumberDressModel", "type", "(I)I"⟩ : MethodName)).desc).map (fun d => d.parameters.length) = some 1) := by decide +kernel
set_option maxHeartbeats 4000000 in
set_option maxRecDepth 100000 in
theorem m_M_type (l : Launch) (dC : Nat → ClassId) (dI : Nat → Nat → Nat) {gE : zG} {h0 : Nat} {a0_4 : Nat} {a0_5 : Nat} {a0_6 : Nat} {a0_7 : Nat} {a0_8 : Nat} {a0_9 : Nat} {a0_10 : Nat} {a0_11 : Nat} {a0_22 : Nat} {a0_26 : Nat} {a0_29 : Nat} {a0_31 : Nat} {a0_32 : Nat} {a0_34 : Nat} {h1 : Nat} {cA1 : ClassId} {I0 : Nat → Int32} {J0 : Nat → Int64} {n1 : Nat} {f1 : Nat → Int32} {x1 : Int32} {sz : Nat} {Z : Int32 → (Nat → Int32) × (Nat → Int32) → Prop} (hv : v_M_type_0 I0 J0 n1 f1 x1 Z) : Met l (⟨"NumberDressModel", "type", "(I)I"⟩ : MethodName) (Cond.code (⟨"NumberDressModel", "type", "(I)I"⟩ : MethodName) prog_14_method_6_code 6 (some .int) :: zT) { frames := 0, cells := 0, slots := 0, locals := 0 } (zPc gE (dC, dI) zCl [(cA1, .int)] [.ref h0, .int x1] sz [(h0, .inr (12, o_M I0 J0 h1 a0_4 a0_5 a0_6 a0_7 a0_8 a0_9 a0_10 a0_11 a0_22 a0_26 a0_29 a0_31 a0_32 a0_34)), (h1, .inl (cA1, n1, .inl f1))]) (va_Qi Z (zB (dC, dI) zCl [(cA1, .int)] (va_A [(h0, .inr (12, o_M I0 J0 h1 a0_4 a0_5 a0_6 a0_7 a0_8 a0_9 a0_10 a0_11 a0_22 a0_26 a0_29 a0_31 a0_32 a0_34)), (h1, .inl (cA1, n1, .inl f1))] sz) (fun u : (Nat → Int32) × (Nat → Int32) => [(h0, .inr (12, o_M u.1 J0 h1 a0_4 a0_5 a0_6 a0_7 a0_8 a0_9 a0_10 a0_11 a0_22 a0_26 a0_29 a0_31 a0_32 a0_34)), (h1, .inl (cA1, n1, .inl u.2))])) (va_A [(h0, .inr (12, o_M I0 J0 h1 a0_4 a0_5 a0_6 a0_7 a0_8 a0_9 a0_10 a0_11 a0_22 a0_26 a0_29 a0_31 a0_32 a0_34)), (h1, .inl (cA1, n1, .inl f1))] sz)) 0 0 (va_A [(h0, .inr (12, o_M I0 J0 h1 a0_4 a0_5 a0_6 a0_7 a0_8 a0_9 a0_10 a0_11 a0_22 a0_26 a0_29 a0_31 a0_32 a0_34)), (h1, .inl (cA1, n1, .inl f1))] sz) := by
  refine Met.ofW (cc := prog_14_method_6_code) (maxL := 6) (ret := (some .int)) (by decide +kernel) rfl ?_
  intro p e s m args below meth c s₁ B hml hp
  obtain ⟨rfl, hsz, hP, hK, hD0, hE⟩ := hp
  have hts := atoms_spec (ws := (Cond.code (⟨"NumberDressModel", "type", "(I)I"⟩ : MethodName) prog_14_method_6_code 6 (some .int) :: zT)) B.pre
  have hown : s.vm.findClass "NumberDressModel" = some m.cls := findClass_of_methodNamed B.named
  have hc : zC p s m _ meth c prog_14_method_6_code (some .int) 6 "NumberDressModel" := ⟨B.exec, B.bytes, B.returns, hml, hown, fun w h => hts w (List.mem_cons_of_mem _ h), B.notSynchronized⟩
  subst hsz
  have hD := hD0.self (sz := s.heap.size)
  generalize hAe : va_A [(h0, .inr (12, o_M I0 J0 h1 a0_4 a0_5 a0_6 a0_7 a0_8 a0_9 a0_10 a0_11 a0_22 a0_26 a0_29 a0_31 a0_32 a0_34)), (h1, .inl (cA1, n1, .inl f1))] s.heap.size = A at hD hE ⊢
  have hA : ∀ q : Nat, s.heap.size ≤ q → A q := fun q h => by rw [← hAe]; exact Or.inr h
  have hl := lv_entry ([.ref h0, .int x1]) (n := 6) (Nat.le_of_ble_eq_true rfl)
  rw [lg_entry_eq]
  exact b_M_type_0 hc hA hE hl hK hP hD va_S.rf hv
theorem d_M_erase_0 : decode prog_14_method_7_code 0 = .ok (.aload_n 0, 1) := by decide +kernel
theorem d_M_erase_1 : decode prog_14_method_7_code 1 = .ok (.iconst 0, 1) := by decide +kernel
theorem d_M_erase_2 : decode prog_14_method_7_code 2 = .ok (.putfield 55, 3) := by decide +kernel
theorem d_M_erase_5 : decode prog_14_method_7_code 5 = .ok (.aload_n 0, 1) := by decide +kernel
theorem d_M_erase_6 : decode prog_14_method_7_code 6 = .ok (.iconst 0, 1) := by decide +kernel
theorem d_M_erase_7 : decode prog_14_method_7_code 7 = .ok (.putfield 69, 3) := by decide +kernel
theorem d_M_erase_10 : decode prog_14_method_7_code 10 = .ok (.return_, 1) := by decide +kernel
set_option maxHeartbeats 4000000 in
set_option maxRecDepth 100000 in
theorem b_M_erase_0 {h0 : Nat} {a0_2 : Nat} {a0_4 : Nat} {a0_5 : Nat} {a0_6 : Nat} {a0_7 : Nat} {a0_8 : Nat} {a0_9 : Nat} {a0_10 : Nat} {a0_11 : Nat} {a0_22 : Nat} {a0_26 : Nat} {a0_29 : Nat} {a0_31 : Nat} {a0_32 : Nat} {a0_34 : Nat} {I0 : Nat → Int32} {J0 : Nat → Int64}  {Z : (Nat → Int32) → Prop} {H : Heap} {locs : List Loc} {ls : Array Slot} (hc : zC p s m args meth c prog_14_method_7_code none 1 "NumberDressModel") (hA : ∀ q : Nat, s.heap.size ≤ q → A q) (hE : zE gE A s) (hl : lv_has ls 1 [(0, .ref h0)]) (hK : va_K (dC, dI) zCl [] s) (hP : va_P (dC, dI) zCl [(h0, .inr (12, o_M I0 J0 a0_2 a0_4 a0_5 a0_6 a0_7 a0_8 a0_9 a0_10 a0_11 a0_22 a0_26 a0_29 a0_31 a0_32 a0_34))] H) (hD : va_D A [(h0, .inr (12, o_M I0 J0 a0_2 a0_4 a0_5 a0_6 a0_7 a0_8 a0_9 a0_10 a0_11 a0_22 a0_26 a0_29 a0_31 a0_32 a0_34))]) (hS : va_S A s.heap H locs) (hv : v_M_erase_0 I0 J0  Z) : W p l e (headSpec (Cond.code (⟨"NumberDressModel", "erase", "()V"⟩ : MethodName) prog_14_method_7_code 1 none :: zT) { frames := 0, cells := 0, slots := 0, locals := 0 }).room s m args below meth c H locs 0 0 (MQ below (va_Qv Z (zB (dC, dI) zCl [] A (fun u : (Nat → Int32) => [(h0, .inr (12, o_M u J0 a0_2 a0_4 a0_5 a0_6 a0_7 a0_8 a0_9 a0_10 a0_11 a0_22 a0_26 a0_29 a0_31 a0_32 a0_34))])) A) args s 0 0 A) (F0 m 0 ls []) := by
  obtain ⟨hx, hb, hr, hml, hown, ht, hlocks⟩ := id hc
  unfold v_M_erase_0 at hv
  refine lv_aload_n hx hb d_M_erase_0 rfl (lv_at hl 0 rfl) ?_
  refine lv_iconst (v := (0 : Int32)) hx hb d_M_erase_1 (by decide) ?_
  refine va_put (D := (dC, dI)) (ci := 12) (v := .int (0 : Int32)) (ty := .int) (C := "NumberDressModel") (T := T_M) (N := 41) hx hb ht zin_M ty_M tyok_M nm_M hown hK hP hD hS 0 rfl rfl 0 (by decide) (ht _ zw_1261) (fun _ h9 => h9) rfl (by decide +kernel) rfl rfl (Nat.le_of_ble_eq_true rfl) d_M_erase_2 (fun H locs hP hD hS => ?_)
  have hP : va_P (dC, dI) zCl [(h0, .inr (12, o_M (zu I0 0 (0 : Int32)) J0 a0_2 a0_4 a0_5 a0_6 a0_7 a0_8 a0_9 a0_10 a0_11 a0_22 a0_26 a0_29 a0_31 a0_32 a0_34))] H := hP
  have hD : va_D A [(h0, .inr (12, o_M (zu I0 0 (0 : Int32)) J0 a0_2 a0_4 a0_5 a0_6 a0_7 a0_8 a0_9 a0_10 a0_11 a0_22 a0_26 a0_29 a0_31 a0_32 a0_34))] := hD
  refine lv_aload_n hx hb d_M_erase_5 rfl (lv_at hl 0 rfl) ?_
  refine lv_iconst (v := (0 : Int32)) hx hb d_M_erase_6 (by decide) ?_
  refine va_put (D := (dC, dI)) (ci := 12) (v := .int (0 : Int32)) (ty := .int) (C := "NumberDressModel") (T := T_M) (N := 41) hx hb ht zin_M ty_M tyok_M nm_M hown hK hP hD hS 0 rfl rfl 1 (by decide) (ht _ zw_1262) (fun _ h9 => h9) rfl (by decide +kernel) rfl rfl (Nat.le_of_ble_eq_true rfl) d_M_erase_7 (fun H locs hP hD hS => ?_)
  have hP : va_P (dC, dI) zCl [(h0, .inr (12, o_M (zu (zu I0 0 (0 : Int32)) 1 (0 : Int32)) J0 a0_2 a0_4 a0_5 a0_6 a0_7 a0_8 a0_9 a0_10 a0_11 a0_22 a0_26 a0_29 a0_31 a0_32 a0_34))] H := hP
  have hD : va_D A [(h0, .inr (12, o_M (zu (zu I0 0 (0 : Int32)) 1 (0 : Int32)) J0 a0_2 a0_4 a0_5 a0_6 a0_7 a0_8 a0_9 a0_10 a0_11 a0_22 a0_26 a0_29 a0_31 a0_32 a0_34))] := hD
  exact W.vret hx hb hr (fun t ht hW => ⟨⟨((zu (zu I0 0 (0 : Int32)) 1 (0 : Int32))), rfl, hv, ⟨by rw [ht]; exact hP, va_K.moved hW.alike hK, hD⟩⟩, hS.F ht⟩) hS.2.2 d_M_erase_10
theorem zi_M_erase : Cond.code (⟨"NumberDressModel", "erase", "()V"⟩ : MethodName) prog_14_method_7_code 1 none ∈ zT := zw_1396
theorem zh_M_erase : (((⟨"NumberDressModel", "erase", "()V"⟩ : MethodName)).cls ≠ "java/lang/invoke/MethodHandle" ∧ ((⟨"NumberDressModel", "erase", "()V"⟩ : MethodName)).cls ≠ "java/lang/invoke/VarHandle" ∧ (parseMethodDescriptor ((⟨"NumberDressModel", "erase", "()V"⟩ : MethodName)).desc).map (fun d => d.parameters.length) = some 0) := by decide +kernel
set_option maxHeartbeats 4000000 in
set_option maxRecDepth 100000 in
theorem m_M_erase (l : Launch) (dC : Nat → ClassId) (dI : Nat → Nat → Nat) {gE : zG} {h0 : Nat} {a0_2 : Nat} {a0_4 : Nat} {a0_5 : Nat} {a0_6 : Nat} {a0_7 : Nat} {a0_8 : Nat} {a0_9 : Nat} {a0_10 : Nat} {a0_11 : Nat} {a0_22 : Nat} {a0_26 : Nat} {a0_29 : Nat} {a0_31 : Nat} {a0_32 : Nat} {a0_34 : Nat} {I0 : Nat → Int32} {J0 : Nat → Int64} {sz : Nat} {Z : (Nat → Int32) → Prop} (hv : v_M_erase_0 I0 J0 Z) : Met l (⟨"NumberDressModel", "erase", "()V"⟩ : MethodName) (Cond.code (⟨"NumberDressModel", "erase", "()V"⟩ : MethodName) prog_14_method_7_code 1 none :: zT) { frames := 0, cells := 0, slots := 0, locals := 0 } (zPc gE (dC, dI) zCl [] [.ref h0] sz [(h0, .inr (12, o_M I0 J0 a0_2 a0_4 a0_5 a0_6 a0_7 a0_8 a0_9 a0_10 a0_11 a0_22 a0_26 a0_29 a0_31 a0_32 a0_34))]) (va_Qv Z (zB (dC, dI) zCl [] (va_A [(h0, .inr (12, o_M I0 J0 a0_2 a0_4 a0_5 a0_6 a0_7 a0_8 a0_9 a0_10 a0_11 a0_22 a0_26 a0_29 a0_31 a0_32 a0_34))] sz) (fun u : (Nat → Int32) => [(h0, .inr (12, o_M u J0 a0_2 a0_4 a0_5 a0_6 a0_7 a0_8 a0_9 a0_10 a0_11 a0_22 a0_26 a0_29 a0_31 a0_32 a0_34))])) (va_A [(h0, .inr (12, o_M I0 J0 a0_2 a0_4 a0_5 a0_6 a0_7 a0_8 a0_9 a0_10 a0_11 a0_22 a0_26 a0_29 a0_31 a0_32 a0_34))] sz)) 0 0 (va_A [(h0, .inr (12, o_M I0 J0 a0_2 a0_4 a0_5 a0_6 a0_7 a0_8 a0_9 a0_10 a0_11 a0_22 a0_26 a0_29 a0_31 a0_32 a0_34))] sz) := by
  refine Met.ofW (cc := prog_14_method_7_code) (maxL := 1) (ret := none) (by decide +kernel) rfl ?_
  intro p e s m args below meth c s₁ B hml hp
  obtain ⟨rfl, hsz, hP, hK, hD0, hE⟩ := hp
  have hts := atoms_spec (ws := (Cond.code (⟨"NumberDressModel", "erase", "()V"⟩ : MethodName) prog_14_method_7_code 1 none :: zT)) B.pre
  have hown : s.vm.findClass "NumberDressModel" = some m.cls := findClass_of_methodNamed B.named
  have hc : zC p s m _ meth c prog_14_method_7_code none 1 "NumberDressModel" := ⟨B.exec, B.bytes, B.returns, hml, hown, fun w h => hts w (List.mem_cons_of_mem _ h), B.notSynchronized⟩
  subst hsz
  have hD := hD0.self (sz := s.heap.size)
  generalize hAe : va_A [(h0, .inr (12, o_M I0 J0 a0_2 a0_4 a0_5 a0_6 a0_7 a0_8 a0_9 a0_10 a0_11 a0_22 a0_26 a0_29 a0_31 a0_32 a0_34))] s.heap.size = A at hD hE ⊢
  have hA : ∀ q : Nat, s.heap.size ≤ q → A q := fun q h => by rw [← hAe]; exact Or.inr h
  have hl := lv_entry ([.ref h0]) (n := 1) (Nat.le_of_ble_eq_true rfl)
  rw [lg_entry_eq]
  exact b_M_erase_0 hc hA hE hl hK hP hD va_S.rf hv
theorem d_M_number0_0 : decode prog_14_method_8_code 0 = .ok (.aload_n 0, 1) := by decide +kernel
theorem d_M_number0_1 : decode prog_14_method_8_code 1 = .ok (.iload_n 2, 1) := by decide +kernel
theorem d_M_number0_2 : decode prog_14_method_8_code 2 = .ok (.ifCond .lt 35, 3) := by decide +kernel
theorem d_M_number0_5 : decode prog_14_method_8_code 5 = .ok (.iload_n 2, 1) := by decide +kernel
theorem d_M_number0_6 : decode prog_14_method_8_code 6 = .ok (.ldc 72, 2) := by decide +kernel
theorem d_M_number0_8 : decode prog_14_method_8_code 8 = .ok (.if_icmp .gt 29, 3) := by decide +kernel
theorem d_M_number0_11 : decode prog_14_method_8_code 11 = .ok (.iload_n 3, 1) := by decide +kernel
theorem d_M_number0_12 : decode prog_14_method_8_code 12 = .ok (.ifCond .lt 25, 3) := by decide +kernel
theorem d_M_number0_15 : decode prog_14_method_8_code 15 = .ok (.iload_n 3, 1) := by decide +kernel
theorem d_M_number0_16 : decode prog_14_method_8_code 16 = .ok (.ldc 73, 2) := by decide +kernel
theorem d_M_number0_18 : decode prog_14_method_8_code 18 = .ok (.if_icmp .gt 19, 3) := by decide +kernel
theorem d_M_number0_21 : decode prog_14_method_8_code 21 = .ok (.iload 4, 2) := by decide +kernel
theorem d_M_number0_23 : decode prog_14_method_8_code 23 = .ok (.sipush (-350), 3) := by decide +kernel
theorem d_M_number0_26 : decode prog_14_method_8_code 26 = .ok (.if_icmp .lt 11, 3) := by decide +kernel
theorem d_M_number0_29 : decode prog_14_method_8_code 29 = .ok (.iload 4, 2) := by decide +kernel
theorem d_M_number0_31 : decode prog_14_method_8_code 31 = .ok (.sipush 300, 3) := by decide +kernel
theorem d_M_number0_34 : decode prog_14_method_8_code 34 = .ok (.if_icmp .le 7, 3) := by decide +kernel
theorem d_M_number0_37 : decode prog_14_method_8_code 37 = .ok (.iconst 1, 1) := by decide +kernel
theorem d_M_number0_38 : decode prog_14_method_8_code 38 = .ok (.goto 4, 3) := by decide +kernel
theorem d_M_number0_41 : decode prog_14_method_8_code 41 = .ok (.iconst 0, 1) := by decide +kernel
theorem d_M_number0_42 : decode prog_14_method_8_code 42 = .ok (.putfield 55, 3) := by decide +kernel
theorem d_M_number0_45 : decode prog_14_method_8_code 45 = .ok (.aload_n 0, 1) := by decide +kernel
theorem d_M_number0_46 : decode prog_14_method_8_code 46 = .ok (.getfield 55, 3) := by decide +kernel
theorem d_M_number0_49 : decode prog_14_method_8_code 49 = .ok (.ifCond .le 4, 3) := by decide +kernel
theorem d_M_number0_52 : decode prog_14_method_8_code 52 = .ok (.return_, 1) := by decide +kernel
theorem d_M_number0_53 : decode prog_14_method_8_code 53 = .ok (.ldc2_w 74, 3) := by decide +kernel
theorem d_M_number0_56 : decode prog_14_method_8_code 56 = .ok (.iload_n 2, 1) := by decide +kernel
theorem d_M_number0_57 : decode prog_14_method_8_code 57 = .ok (.i2l, 1) := by decide +kernel
theorem d_M_number0_58 : decode prog_14_method_8_code 58 = .ok (.lmul, 1) := by decide +kernel
theorem d_M_number0_59 : decode prog_14_method_8_code 59 = .ok (.iload_n 3, 1) := by decide +kernel
theorem d_M_number0_60 : decode prog_14_method_8_code 60 = .ok (.i2l, 1) := by decide +kernel
theorem d_M_number0_61 : decode prog_14_method_8_code 61 = .ok (.ladd, 1) := by decide +kernel
theorem d_M_number0_62 : decode prog_14_method_8_code 62 = .ok (.lstore 5, 2) := by decide +kernel
theorem d_M_number0_64 : decode prog_14_method_8_code 64 = .ok (.aload_n 0, 1) := by decide +kernel
theorem d_M_number0_65 : decode prog_14_method_8_code 65 = .ok (.iconst 0, 1) := by decide +kernel
theorem d_M_number0_66 : decode prog_14_method_8_code 66 = .ok (.putfield 76, 3) := by decide +kernel
theorem d_M_number0_69 : decode prog_14_method_8_code 69 = .ok (.aload_n 0, 1) := by decide +kernel
theorem d_M_number0_70 : decode prog_14_method_8_code 70 = .ok (.iload_n 1, 1) := by decide +kernel
theorem d_M_number0_71 : decode prog_14_method_8_code 71 = .ok (.ifCond .eq 14, 3) := by decide +kernel
theorem d_M_number0_74 : decode prog_14_method_8_code 74 = .ok (.lload 5, 2) := by decide +kernel
theorem d_M_number0_76 : decode prog_14_method_8_code 76 = .ok (.lconst 0, 1) := by decide +kernel
theorem d_M_number0_77 : decode prog_14_method_8_code 77 = .ok (.lcmp, 1) := by decide +kernel
theorem d_M_number0_78 : decode prog_14_method_8_code 78 = .ok (.ifCond .le 7, 3) := by decide +kernel
theorem d_M_number0_81 : decode prog_14_method_8_code 81 = .ok (.iconst 1, 1) := by decide +kernel
theorem d_M_number0_82 : decode prog_14_method_8_code 82 = .ok (.goto 4, 3) := by decide +kernel
theorem d_M_number0_85 : decode prog_14_method_8_code 85 = .ok (.iconst 0, 1) := by decide +kernel
theorem d_M_number0_86 : decode prog_14_method_8_code 86 = .ok (.putfield 80, 3) := by decide +kernel
theorem d_M_number0_89 : decode prog_14_method_8_code 89 = .ok (.aload_n 0, 1) := by decide +kernel
theorem d_M_number0_90 : decode prog_14_method_8_code 90 = .ok (.iconst 0, 1) := by decide +kernel
theorem d_M_number0_91 : decode prog_14_method_8_code 91 = .ok (.putfield 83, 3) := by decide +kernel
theorem d_M_number0_94 : decode prog_14_method_8_code 94 = .ok (.iconst 0, 1) := by decide +kernel
theorem d_M_number0_95 : decode prog_14_method_8_code 95 = .ok (.istore 7, 2) := by decide +kernel
theorem d_M_number0_97 : decode prog_14_method_8_code 97 = .ok (.lload 5, 2) := by decide +kernel
theorem d_M_number0_99 : decode prog_14_method_8_code 99 = .ok (.lstore 8, 2) := by decide +kernel
theorem d_M_number0_101 : decode prog_14_method_8_code 101 = .ok (.lload 8, 2) := by decide +kernel
theorem d_M_number0_103 : decode prog_14_method_8_code 103 = .ok (.lconst 0, 1) := by decide +kernel
theorem d_M_number0_104 : decode prog_14_method_8_code 104 = .ok (.lcmp, 1) := by decide +kernel
theorem d_M_number0_105 : decode prog_14_method_8_code 105 = .ok (.ifCond .le 17, 3) := by decide +kernel
theorem d_M_number0_108 : decode prog_14_method_8_code 108 = .ok (.iinc 7 1, 3) := by decide +kernel
theorem d_M_number0_111 : decode prog_14_method_8_code 111 = .ok (.lload 8, 2) := by decide +kernel
theorem d_M_number0_113 : decode prog_14_method_8_code 113 = .ok (.ldc2_w 86, 3) := by decide +kernel
theorem d_M_number0_116 : decode prog_14_method_8_code 116 = .ok (.ldiv, 1) := by decide +kernel
theorem d_M_number0_117 : decode prog_14_method_8_code 117 = .ok (.lstore 8, 2) := by decide +kernel
theorem d_M_number0_119 : decode prog_14_method_8_code 119 = .ok (.goto (-18), 3) := by decide +kernel
theorem d_M_number0_122 : decode prog_14_method_8_code 122 = .ok (.iload 7, 2) := by decide +kernel
theorem d_M_number0_124 : decode prog_14_method_8_code 124 = .ok (.iconst 1, 1) := by decide +kernel
theorem d_M_number0_125 : decode prog_14_method_8_code 125 = .ok (.isub, 1) := by decide +kernel
theorem d_M_number0_126 : decode prog_14_method_8_code 126 = .ok (.istore 8, 2) := by decide +kernel
theorem d_M_number0_128 : decode prog_14_method_8_code 128 = .ok (.iload 8, 2) := by decide +kernel
theorem d_M_number0_130 : decode prog_14_method_8_code 130 = .ok (.ifCond .lt 31, 3) := by decide +kernel
theorem d_M_number0_133 : decode prog_14_method_8_code 133 = .ok (.aload_n 0, 1) := by decide +kernel
theorem d_M_number0_134 : decode prog_14_method_8_code 134 = .ok (.getfield 40, 3) := by decide +kernel
theorem d_M_number0_137 : decode prog_14_method_8_code 137 = .ok (.iload 8, 2) := by decide +kernel
theorem d_M_number0_139 : decode prog_14_method_8_code 139 = .ok (.lload 5, 2) := by decide +kernel
theorem d_M_number0_141 : decode prog_14_method_8_code 141 = .ok (.ldc2_w 86, 3) := by decide +kernel
theorem d_M_number0_144 : decode prog_14_method_8_code 144 = .ok (.lrem, 1) := by decide +kernel
theorem d_M_number0_145 : decode prog_14_method_8_code 145 = .ok (.l2i, 1) := by decide +kernel
theorem d_M_number0_146 : decode prog_14_method_8_code 146 = .ok (.iastore, 1) := by decide +kernel
theorem d_M_number0_147 : decode prog_14_method_8_code 147 = .ok (.lload 5, 2) := by decide +kernel
theorem d_M_number0_149 : decode prog_14_method_8_code 149 = .ok (.ldc2_w 86, 3) := by decide +kernel
theorem d_M_number0_152 : decode prog_14_method_8_code 152 = .ok (.ldiv, 1) := by decide +kernel
theorem d_M_number0_153 : decode prog_14_method_8_code 153 = .ok (.lstore 5, 2) := by decide +kernel
theorem d_M_number0_155 : decode prog_14_method_8_code 155 = .ok (.iinc 8 (-1), 3) := by decide +kernel
theorem d_M_number0_158 : decode prog_14_method_8_code 158 = .ok (.goto (-30), 3) := by decide +kernel
theorem d_M_number0_161 : decode prog_14_method_8_code 161 = .ok (.aload_n 0, 1) := by decide +kernel
theorem d_M_number0_162 : decode prog_14_method_8_code 162 = .ok (.iload 7, 2) := by decide +kernel
theorem d_M_number0_164 : decode prog_14_method_8_code 164 = .ok (.iload 4, 2) := by decide +kernel
theorem d_M_number0_166 : decode prog_14_method_8_code 166 = .ok (.iadd, 1) := by decide +kernel
theorem d_M_number0_167 : decode prog_14_method_8_code 167 = .ok (.putfield 88, 3) := by decide +kernel
theorem d_M_number0_170 : decode prog_14_method_8_code 170 = .ok (.iload 7, 2) := by decide +kernel
theorem d_M_number0_172 : decode prog_14_method_8_code 172 = .ok (.ifCond .le 21, 3) := by decide +kernel
theorem d_M_number0_175 : decode prog_14_method_8_code 175 = .ok (.aload_n 0, 1) := by decide +kernel
theorem d_M_number0_176 : decode prog_14_method_8_code 176 = .ok (.getfield 40, 3) := by decide +kernel
theorem d_M_number0_179 : decode prog_14_method_8_code 179 = .ok (.iload 7, 2) := by decide +kernel
theorem d_M_number0_181 : decode prog_14_method_8_code 181 = .ok (.iconst 1, 1) := by decide +kernel
theorem d_M_number0_182 : decode prog_14_method_8_code 182 = .ok (.isub, 1) := by decide +kernel
theorem d_M_number0_183 : decode prog_14_method_8_code 183 = .ok (.iaload, 1) := by decide +kernel
theorem d_M_number0_184 : decode prog_14_method_8_code 184 = .ok (.ifCond .ne 9, 3) := by decide +kernel
theorem d_M_number0_187 : decode prog_14_method_8_code 187 = .ok (.iinc 7 (-1), 3) := by decide +kernel
theorem d_M_number0_190 : decode prog_14_method_8_code 190 = .ok (.goto (-20), 3) := by decide +kernel
theorem d_M_number0_193 : decode prog_14_method_8_code 193 = .ok (.aload_n 0, 1) := by decide +kernel
theorem d_M_number0_194 : decode prog_14_method_8_code 194 = .ok (.iload 7, 2) := by decide +kernel
theorem d_M_number0_196 : decode prog_14_method_8_code 196 = .ok (.putfield 83, 3) := by decide +kernel
theorem d_M_number0_199 : decode prog_14_method_8_code 199 = .ok (.aload_n 0, 1) := by decide +kernel
theorem d_M_number0_200 : decode prog_14_method_8_code 200 = .ok (.iload 7, 2) := by decide +kernel
theorem d_M_number0_202 : decode prog_14_method_8_code 202 = .ok (.ifCond .ne 7, 3) := by decide +kernel
theorem d_M_number0_205 : decode prog_14_method_8_code 205 = .ok (.iconst 0, 1) := by decide +kernel
theorem d_M_number0_206 : decode prog_14_method_8_code 206 = .ok (.goto 7, 3) := by decide +kernel
theorem d_M_number0_209 : decode prog_14_method_8_code 209 = .ok (.aload_n 0, 1) := by decide +kernel
theorem d_M_number0_210 : decode prog_14_method_8_code 210 = .ok (.getfield 88, 3) := by decide +kernel
theorem d_M_number0_213 : decode prog_14_method_8_code 213 = .ok (.putfield 88, 3) := by decide +kernel
theorem d_M_number0_216 : decode prog_14_method_8_code 216 = .ok (.return_, 1) := by decide +kernel
set_option maxHeartbeats 4000000 in
set_option maxRecDepth 100000 in
theorem b_M_number0_213 {h0 : Nat} {a0_2 : Nat} {a0_4 : Nat} {a0_5 : Nat} {a0_6 : Nat} {a0_7 : Nat} {a0_8 : Nat} {a0_9 : Nat} {a0_10 : Nat} {a0_11 : Nat} {a0_22 : Nat} {a0_29 : Nat} {a0_31 : Nat} {a0_32 : Nat} {a0_34 : Nat} {h1 : Nat} {cA1 : ClassId} {I0 : Nat → Int32} {J0 : Nat → Int64} {n1 : Nat} {f1 : Nat → Int32} {s1 : Int32}  {Z : (Nat → Int32) × (Nat → Int32) → Prop} {H : Heap} {locs : List Loc} {ls : Array Slot} (hc : zC p s m args meth c prog_14_method_8_code none 10 "NumberDressModel") (hA : ∀ q : Nat, s.heap.size ≤ q → A q) (hE : zE gE A s) (hl : lv_has ls 10 []) (hK : va_K (dC, dI) zCl [(cA1, .int)] s) (hP : va_P (dC, dI) zCl [(h0, .inr (12, o_M I0 J0 a0_2 a0_4 a0_5 a0_6 a0_7 a0_8 a0_9 a0_10 a0_11 a0_22 h1 a0_29 a0_31 a0_32 a0_34)), (h1, .inl (cA1, n1, .inl f1))] H) (hD : va_D A [(h0, .inr (12, o_M I0 J0 a0_2 a0_4 a0_5 a0_6 a0_7 a0_8 a0_9 a0_10 a0_11 a0_22 h1 a0_29 a0_31 a0_32 a0_34)), (h1, .inl (cA1, n1, .inl f1))]) (hS : va_S A s.heap H locs) (hv : v_M_number0_213 I0 J0 n1 f1 s1  Z) : W p l e (headSpec (Cond.code (⟨"NumberDressModel", "number", "(ZIII)V"⟩ : MethodName) prog_14_method_8_code 10 none :: zT) { frames := 0, cells := 0, slots := 0, locals := 0 }).room s m args below meth c H locs 0 0 (MQ below (va_Qv Z (zB (dC, dI) zCl [(cA1, .int)] A (fun u : (Nat → Int32) × (Nat → Int32) => [(h0, .inr (12, o_M u.1 J0 a0_2 a0_4 a0_5 a0_6 a0_7 a0_8 a0_9 a0_10 a0_11 a0_22 h1 a0_29 a0_31 a0_32 a0_34)), (h1, .inl (cA1, n1, .inl u.2))])) A) args s 0 0 A) (F0 m 213 ls [.int s1, .ref h0]) := by
  obtain ⟨hx, hb, hr, hml, hown, ht, hlocks⟩ := id hc
  unfold v_M_number0_213 at hv
  refine va_put (D := (dC, dI)) (ci := 12) (v := .int s1) (ty := .int) (C := "NumberDressModel") (T := T_M) (N := 41) hx hb ht zin_M ty_M tyok_M nm_M hown hK hP hD hS 0 rfl rfl 25 (by decide) (ht _ zw_1286) (fun _ h9 => h9) rfl (by decide +kernel) rfl rfl (Nat.le_of_ble_eq_true rfl) d_M_number0_213 (fun H locs hP hD hS => ?_)
  have hP : va_P (dC, dI) zCl [(h0, .inr (12, o_M (zu I0 25 s1) J0 a0_2 a0_4 a0_5 a0_6 a0_7 a0_8 a0_9 a0_10 a0_11 a0_22 h1 a0_29 a0_31 a0_32 a0_34)), (h1, .inl (cA1, n1, .inl f1))] H := hP
  have hD : va_D A [(h0, .inr (12, o_M (zu I0 25 s1) J0 a0_2 a0_4 a0_5 a0_6 a0_7 a0_8 a0_9 a0_10 a0_11 a0_22 h1 a0_29 a0_31 a0_32 a0_34)), (h1, .inl (cA1, n1, .inl f1))] := hD
  exact W.vret hx hb hr (fun t ht hW => ⟨⟨((zu I0 25 s1), f1), rfl, hv, ⟨by rw [ht]; exact hP, va_K.moved hW.alike hK, hD⟩⟩, hS.F ht⟩) hS.2.2 d_M_number0_216
set_option maxHeartbeats 4000000 in
set_option maxRecDepth 100000 in
theorem b_M_number0_193 {h0 : Nat} {a0_2 : Nat} {a0_4 : Nat} {a0_5 : Nat} {a0_6 : Nat} {a0_7 : Nat} {a0_8 : Nat} {a0_9 : Nat} {a0_10 : Nat} {a0_11 : Nat} {a0_22 : Nat} {a0_29 : Nat} {a0_31 : Nat} {a0_32 : Nat} {a0_34 : Nat} {h1 : Nat} {cA1 : ClassId} {I0 : Nat → Int32} {J0 : Nat → Int64} {n1 : Nat} {f1 : Nat → Int32} {x7 : Int32}  {Z : (Nat → Int32) × (Nat → Int32) → Prop} {H : Heap} {locs : List Loc} {ls : Array Slot} (hc : zC p s m args meth c prog_14_method_8_code none 10 "NumberDressModel") (hA : ∀ q : Nat, s.heap.size ≤ q → A q) (hE : zE gE A s) (hl : lv_has ls 10 [(0, .ref h0), (7, .int x7)]) (hK : va_K (dC, dI) zCl [(cA1, .int)] s) (hP : va_P (dC, dI) zCl [(h0, .inr (12, o_M I0 J0 a0_2 a0_4 a0_5 a0_6 a0_7 a0_8 a0_9 a0_10 a0_11 a0_22 h1 a0_29 a0_31 a0_32 a0_34)), (h1, .inl (cA1, n1, .inl f1))] H) (hD : va_D A [(h0, .inr (12, o_M I0 J0 a0_2 a0_4 a0_5 a0_6 a0_7 a0_8 a0_9 a0_10 a0_11 a0_22 h1 a0_29 a0_31 a0_32 a0_34)), (h1, .inl (cA1, n1, .inl f1))]) (hS : va_S A s.heap H locs) (hv : v_M_number0_193 I0 J0 n1 f1 x7  Z) : W p l e (headSpec (Cond.code (⟨"NumberDressModel", "number", "(ZIII)V"⟩ : MethodName) prog_14_method_8_code 10 none :: zT) { frames := 0, cells := 0, slots := 0, locals := 0 }).room s m args below meth c H locs 0 0 (MQ below (va_Qv Z (zB (dC, dI) zCl [(cA1, .int)] A (fun u : (Nat → Int32) × (Nat → Int32) => [(h0, .inr (12, o_M u.1 J0 a0_2 a0_4 a0_5 a0_6 a0_7 a0_8 a0_9 a0_10 a0_11 a0_22 h1 a0_29 a0_31 a0_32 a0_34)), (h1, .inl (cA1, n1, .inl u.2))])) A) args s 0 0 A) (F0 m 193 ls []) := by
  obtain ⟨hx, hb, hr, hml, hown, ht, hlocks⟩ := id hc
  unfold v_M_number0_193 at hv
  refine lv_aload_n hx hb d_M_number0_193 rfl (lv_at hl 0 rfl) ?_
  refine lv_iload hx hb d_M_number0_194 (lv_at hl 1 rfl) ?_
  refine va_put (D := (dC, dI)) (ci := 12) (v := .int x7) (ty := .int) (C := "NumberDressModel") (T := T_M) (N := 41) hx hb ht zin_M ty_M tyok_M nm_M hown hK hP hD hS 0 rfl rfl 24 (by decide) (ht _ zw_1285) (fun _ h9 => h9) rfl (by decide +kernel) rfl rfl (Nat.le_of_ble_eq_true rfl) d_M_number0_196 (fun H locs hP hD hS => ?_)
  have hP : va_P (dC, dI) zCl [(h0, .inr (12, o_M (zu I0 24 x7) J0 a0_2 a0_4 a0_5 a0_6 a0_7 a0_8 a0_9 a0_10 a0_11 a0_22 h1 a0_29 a0_31 a0_32 a0_34)), (h1, .inl (cA1, n1, .inl f1))] H := hP
  have hD : va_D A [(h0, .inr (12, o_M (zu I0 24 x7) J0 a0_2 a0_4 a0_5 a0_6 a0_7 a0_8 a0_9 a0_10 a0_11 a0_22 h1 a0_29 a0_31 a0_32 a0_34)), (h1, .inl (cA1, n1, .inl f1))] := hD
  refine lv_aload_n hx hb d_M_number0_199 rfl (lv_at hl 0 rfl) ?_
  refine lv_iload hx hb d_M_number0_200 (lv_at hl 1 rfl) ?_
  refine lv_if_ne (tgt := 209) hx hb d_M_number0_202 (by decide) (fun c_1 => ?_) (fun c_1 => ?_)
  · have hv := hv.1 c_1
    refine lv_aload_n hx hb d_M_number0_209 rfl (lv_at hl 0 rfl) ?_
    refine va_get (D := (dC, dI)) (ci := 12) (v := .int (I0 25)) (C := "NumberDressModel") (T := T_M) (N := 41) hx hb ht zin_M hown hK hP 0 rfl rfl 25 (by decide) (ht _ zw_1286) (fun _ h9 => h9) rfl d_M_number0_210 ?_
    exact b_M_number0_213 hc hA hE  (lv_sub hl [] rfl) hK hP hD hS hv
  · have hv := hv.2 c_1
    refine lv_iconst (v := (0 : Int32)) hx hb d_M_number0_205 (by decide) ?_
    refine lv_goto (tgt := 213) hx hb d_M_number0_206 (by decide) ?_
    exact b_M_number0_213 hc hA hE  (lv_sub hl [] rfl) hK hP hD hS hv
set_option maxHeartbeats 4000000 in
set_option maxRecDepth 100000 in
theorem b_M_number0_170 {h0 : Nat} {a0_2 : Nat} {a0_4 : Nat} {a0_5 : Nat} {a0_6 : Nat} {a0_7 : Nat} {a0_8 : Nat} {a0_9 : Nat} {a0_10 : Nat} {a0_11 : Nat} {a0_22 : Nat} {a0_29 : Nat} {a0_31 : Nat} {a0_32 : Nat} {a0_34 : Nat} {h1 : Nat} {cA1 : ClassId} {I0 : Nat → Int32} {J0 : Nat → Int64} {n1 : Nat} {f1 : Nat → Int32}  {Z : (Nat → Int32) × (Nat → Int32) → Prop} (hc : zC p s m args meth c prog_14_method_8_code none 10 "NumberDressModel") (hA : ∀ q : Nat, s.heap.size ≤ q → A q) (hE : zE gE A s) : ∀ (N : Nat) (x7 : Int32) (H : Heap) (locs : List Loc) (ls : Array Slot), lv_has ls 10 [(0, .ref h0), (7, .int x7)] → va_K (dC, dI) zCl [(cA1, .int)] s → va_P (dC, dI) zCl [(h0, .inr (12, o_M I0 J0 a0_2 a0_4 a0_5 a0_6 a0_7 a0_8 a0_9 a0_10 a0_11 a0_22 h1 a0_29 a0_31 a0_32 a0_34)), (h1, .inl (cA1, n1, .inl f1))] H → va_D A [(h0, .inr (12, o_M I0 J0 a0_2 a0_4 a0_5 a0_6 a0_7 a0_8 a0_9 a0_10 a0_11 a0_22 h1 a0_29 a0_31 a0_32 a0_34)), (h1, .inl (cA1, n1, .inl f1))] → va_S A s.heap H locs → v_M_number0_170 I0 J0 n1 f1  Z N x7 → W p l e (headSpec (Cond.code (⟨"NumberDressModel", "number", "(ZIII)V"⟩ : MethodName) prog_14_method_8_code 10 none :: zT) { frames := 0, cells := 0, slots := 0, locals := 0 }).room s m args below meth c H locs 0 0 (MQ below (va_Qv Z (zB (dC, dI) zCl [(cA1, .int)] A (fun u : (Nat → Int32) × (Nat → Int32) => [(h0, .inr (12, o_M u.1 J0 a0_2 a0_4 a0_5 a0_6 a0_7 a0_8 a0_9 a0_10 a0_11 a0_22 h1 a0_29 a0_31 a0_32 a0_34)), (h1, .inl (cA1, n1, .inl u.2))])) A) args s 0 0 A) (F0 m 170 ls []) := by
  obtain ⟨hx, hb, hr, hml, hown, ht, hlocks⟩ := id hc
  intro N
  induction N with
  | zero => intro x7 H locs ls hl hK hP hD hS hv; exact hv.elim
  | succ N hk170 =>
    intro x7 H locs ls hl hK hP hD hS hv
    unfold v_M_number0_170 at hv
    refine lv_iload hx hb d_M_number0_170 (lv_at hl 1 rfl) ?_
    refine lv_if_le (tgt := 193) hx hb d_M_number0_172 (by decide) (fun c_1 => ?_) (fun c_1 => ?_)
    · have hv := hv.1 c_1
      exact b_M_number0_193 hc hA hE  (lv_sub hl [0, 1] rfl) hK hP hD hS hv
    · have hv := hv.2 c_1
      refine lv_aload_n hx hb d_M_number0_175 rfl (lv_at hl 0 rfl) ?_
      refine va_get (D := (dC, dI)) (ci := 12) (v := .ref h1) (C := "NumberDressModel") (T := T_M) (N := 41) hx hb ht zin_M hown hK hP 0 rfl rfl 26 (by decide) (ht _ zw_1287) (fun _ h9 => h9) rfl d_M_number0_176 ?_
      refine lv_iload hx hb d_M_number0_179 (lv_at hl 1 rfl) ?_
      refine lv_iconst (v := (1 : Int32)) hx hb d_M_number0_181 (by decide) ?_
      refine lv_isub hx hb d_M_number0_182 ?_
      obtain ⟨q_2, hv⟩ := hv
      refine va_iald hx hb hK hP 1 0 rfl rfl q_2 d_M_number0_183 ?_
      refine lv_if_ne (tgt := 193) hx hb d_M_number0_184 (by decide) (fun c_3 => ?_) (fun c_3 => ?_)
      · have hv := hv.1 c_3
        exact b_M_number0_193 hc hA hE  (lv_sub hl [0, 1] rfl) hK hP hD hS hv
      · have hv := hv.2 c_3
        refine lv_iinc (v := (x7 + (-1 : Int32))) (lv' := [(7, .int (x7 + (-1 : Int32))), (0, .ref h0)]) hx hb d_M_number0_187 hl (k := 1) rfl rfl (by decide) rfl (fun ls hl => ?_)
        refine lv_goto (tgt := 170) hx hb d_M_number0_190 (by decide) ?_
        exact hk170 (x7 + (-1 : Int32)) _ _ _ (lv_sub hl [1, 0] rfl) hK hP hD hS hv
set_option maxHeartbeats 4000000 in
set_option maxRecDepth 100000 in
theorem b_M_number0_128 {h0 : Nat} {a0_2 : Nat} {a0_4 : Nat} {a0_5 : Nat} {a0_6 : Nat} {a0_7 : Nat} {a0_8 : Nat} {a0_9 : Nat} {a0_10 : Nat} {a0_11 : Nat} {a0_22 : Nat} {a0_29 : Nat} {a0_31 : Nat} {a0_32 : Nat} {a0_34 : Nat} {h1 : Nat} {cA1 : ClassId} {J0 : Nat → Int64} {n1 : Nat} {x4 : Int32} {x7 : Int32}  {Z : (Nat → Int32) × (Nat → Int32) → Prop} (hc : zC p s m args meth c prog_14_method_8_code none 10 "NumberDressModel") (hA : ∀ q : Nat, s.heap.size ≤ q → A q) (hE : zE gE A s) : ∀ (N : Nat) (I0 : Nat → Int32) (f1 : Nat → Int32) (x5 : Int64) (x8 : Int32) (H : Heap) (locs : List Loc) (ls : Array Slot), lv_has ls 10 [(0, .ref h0), (4, .int x4), (5, .long x5), (7, .int x7), (8, .int x8)] → va_K (dC, dI) zCl [(cA1, .int)] s → va_P (dC, dI) zCl [(h0, .inr (12, o_M I0 J0 a0_2 a0_4 a0_5 a0_6 a0_7 a0_8 a0_9 a0_10 a0_11 a0_22 h1 a0_29 a0_31 a0_32 a0_34)), (h1, .inl (cA1, n1, .inl f1))] H → va_D A [(h0, .inr (12, o_M I0 J0 a0_2 a0_4 a0_5 a0_6 a0_7 a0_8 a0_9 a0_10 a0_11 a0_22 h1 a0_29 a0_31 a0_32 a0_34)), (h1, .inl (cA1, n1, .inl f1))] → va_S A s.heap H locs → v_M_number0_128 J0 n1 x4 x7  Z N I0 f1 x5 x8 → W p l e (headSpec (Cond.code (⟨"NumberDressModel", "number", "(ZIII)V"⟩ : MethodName) prog_14_method_8_code 10 none :: zT) { frames := 0, cells := 0, slots := 0, locals := 0 }).room s m args below meth c H locs 0 0 (MQ below (va_Qv Z (zB (dC, dI) zCl [(cA1, .int)] A (fun u : (Nat → Int32) × (Nat → Int32) => [(h0, .inr (12, o_M u.1 J0 a0_2 a0_4 a0_5 a0_6 a0_7 a0_8 a0_9 a0_10 a0_11 a0_22 h1 a0_29 a0_31 a0_32 a0_34)), (h1, .inl (cA1, n1, .inl u.2))])) A) args s 0 0 A) (F0 m 128 ls []) := by
  obtain ⟨hx, hb, hr, hml, hown, ht, hlocks⟩ := id hc
  intro N
  induction N with
  | zero => intro I0 f1 x5 x8 H locs ls hl hK hP hD hS hv; exact hv.elim
  | succ N hk128 =>
    intro I0 f1 x5 x8 H locs ls hl hK hP hD hS hv
    unfold v_M_number0_128 at hv
    refine lv_iload hx hb d_M_number0_128 (lv_at hl 4 rfl) ?_
    refine lv_if_lt (tgt := 161) hx hb d_M_number0_130 (by decide) (fun c_1 => ?_) (fun c_1 => ?_)
    · have hv := hv.1 c_1
      refine lv_aload_n hx hb d_M_number0_161 rfl (lv_at hl 0 rfl) ?_
      refine lv_iload hx hb d_M_number0_162 (lv_at hl 3 rfl) ?_
      refine lv_iload hx hb d_M_number0_164 (lv_at hl 1 rfl) ?_
      refine lv_iadd hx hb d_M_number0_166 ?_
      refine va_put (D := (dC, dI)) (ci := 12) (v := .int (x7 + x4)) (ty := .int) (C := "NumberDressModel") (T := T_M) (N := 41) hx hb ht zin_M ty_M tyok_M nm_M hown hK hP hD hS 0 rfl rfl 25 (by decide) (ht _ zw_1286) (fun _ h9 => h9) rfl (by decide +kernel) rfl rfl (Nat.le_of_ble_eq_true rfl) d_M_number0_167 (fun H locs hP hD hS => ?_)
      have hP : va_P (dC, dI) zCl [(h0, .inr (12, o_M (zu I0 25 (x7 + x4)) J0 a0_2 a0_4 a0_5 a0_6 a0_7 a0_8 a0_9 a0_10 a0_11 a0_22 h1 a0_29 a0_31 a0_32 a0_34)), (h1, .inl (cA1, n1, .inl f1))] H := hP
      have hD : va_D A [(h0, .inr (12, o_M (zu I0 25 (x7 + x4)) J0 a0_2 a0_4 a0_5 a0_6 a0_7 a0_8 a0_9 a0_10 a0_11 a0_22 h1 a0_29 a0_31 a0_32 a0_34)), (h1, .inl (cA1, n1, .inl f1))] := hD
      obtain ⟨Nx, hv⟩ := hv
      exact b_M_number0_170 hc hA hE  Nx x7 _ _ _ (lv_sub hl [0, 3] rfl) hK hP hD hS hv
    · have hv := hv.2 c_1
      refine lv_aload_n hx hb d_M_number0_133 rfl (lv_at hl 0 rfl) ?_
      refine va_get (D := (dC, dI)) (ci := 12) (v := .ref h1) (C := "NumberDressModel") (T := T_M) (N := 41) hx hb ht zin_M hown hK hP 0 rfl rfl 26 (by decide) (ht _ zw_1287) (fun _ h9 => h9) rfl d_M_number0_134 ?_
      refine lv_iload hx hb d_M_number0_137 (lv_at hl 4 rfl) ?_
      refine lv_lload hx hb d_M_number0_139 (lv_at hl 2 rfl) ?_
      refine lv_ldc2 (v := (10 : Int64)) hx hb hown (ht _ zw_1404) d_M_number0_141 ?_
      refine lv_lrem hx hb d_M_number0_144 (by decide) ?_
      refine lv_l2i (v := (x5 - x5 / (10 : Int64) * (10 : Int64)).toInt32) hx hb d_M_number0_145 rfl ?_
      obtain ⟨q_2, hv⟩ := hv
      refine va_iast hx hb hK hP hD hS 1 0 rfl rfl q_2 d_M_number0_146 (fun H locs hP hD hS => ?_)
      have hP : va_P (dC, dI) zCl [(h0, .inr (12, o_M I0 J0 a0_2 a0_4 a0_5 a0_6 a0_7 a0_8 a0_9 a0_10 a0_11 a0_22 h1 a0_29 a0_31 a0_32 a0_34)), (h1, .inl (cA1, n1, .inl (upd f1 x8.toNatClampNeg (x5 - x5 / (10 : Int64) * (10 : Int64)).toInt32)))] H := hP
      have hD : va_D A [(h0, .inr (12, o_M I0 J0 a0_2 a0_4 a0_5 a0_6 a0_7 a0_8 a0_9 a0_10 a0_11 a0_22 h1 a0_29 a0_31 a0_32 a0_34)), (h1, .inl (cA1, n1, .inl (upd f1 x8.toNatClampNeg (x5 - x5 / (10 : Int64) * (10 : Int64)).toInt32)))] := hD
      refine lv_lload hx hb d_M_number0_147 (lv_at hl 2 rfl) ?_
      refine lv_ldc2 (v := (10 : Int64)) hx hb hown (ht _ zw_1404) d_M_number0_149 ?_
      refine lv_ldiv hx hb d_M_number0_152 (by decide) ?_
      refine lv_lstore (lv' := [(5, .long (x5 / (10 : Int64))), (0, .ref h0), (4, .int x4), (7, .int x7), (8, .int x8)]) hx hb d_M_number0_153 hl (by decide) rfl (fun ls hl => ?_)
      refine lv_iinc (v := (x8 + (-1 : Int32))) (lv' := [(8, .int (x8 + (-1 : Int32))), (5, .long (x5 / (10 : Int64))), (0, .ref h0), (4, .int x4), (7, .int x7)]) hx hb d_M_number0_155 hl (k := 4) rfl rfl (by decide) rfl (fun ls hl => ?_)
      refine lv_goto (tgt := 128) hx hb d_M_number0_158 (by decide) ?_
      exact hk128 I0 (upd f1 x8.toNatClampNeg (x5 - x5 / (10 : Int64) * (10 : Int64)).toInt32) (x5 / (10 : Int64)) (x8 + (-1 : Int32)) _ _ _ (lv_sub hl [2, 3, 1, 4, 0] rfl) hK hP hD hS hv
set_option maxHeartbeats 4000000 in
set_option maxRecDepth 100000 in
theorem b_M_number0_101 {h0 : Nat} {a0_2 : Nat} {a0_4 : Nat} {a0_5 : Nat} {a0_6 : Nat} {a0_7 : Nat} {a0_8 : Nat} {a0_9 : Nat} {a0_10 : Nat} {a0_11 : Nat} {a0_22 : Nat} {a0_29 : Nat} {a0_31 : Nat} {a0_32 : Nat} {a0_34 : Nat} {h1 : Nat} {cA1 : ClassId} {I0 : Nat → Int32} {J0 : Nat → Int64} {n1 : Nat} {f1 : Nat → Int32} {x4 : Int32} {x5 : Int64}  {Z : (Nat → Int32) × (Nat → Int32) → Prop} (hc : zC p s m args meth c prog_14_method_8_code none 10 "NumberDressModel") (hA : ∀ q : Nat, s.heap.size ≤ q → A q) (hE : zE gE A s) : ∀ (N : Nat) (x7 : Int32) (x8 : Int64) (H : Heap) (locs : List Loc) (ls : Array Slot), lv_has ls 10 [(0, .ref h0), (4, .int x4), (5, .long x5), (7, .int x7), (8, .long x8)] → va_K (dC, dI) zCl [(cA1, .int)] s → va_P (dC, dI) zCl [(h0, .inr (12, o_M I0 J0 a0_2 a0_4 a0_5 a0_6 a0_7 a0_8 a0_9 a0_10 a0_11 a0_22 h1 a0_29 a0_31 a0_32 a0_34)), (h1, .inl (cA1, n1, .inl f1))] H → va_D A [(h0, .inr (12, o_M I0 J0 a0_2 a0_4 a0_5 a0_6 a0_7 a0_8 a0_9 a0_10 a0_11 a0_22 h1 a0_29 a0_31 a0_32 a0_34)), (h1, .inl (cA1, n1, .inl f1))] → va_S A s.heap H locs → v_M_number0_101 I0 J0 n1 f1 x4 x5  Z N x7 x8 → W p l e (headSpec (Cond.code (⟨"NumberDressModel", "number", "(ZIII)V"⟩ : MethodName) prog_14_method_8_code 10 none :: zT) { frames := 0, cells := 0, slots := 0, locals := 0 }).room s m args below meth c H locs 0 0 (MQ below (va_Qv Z (zB (dC, dI) zCl [(cA1, .int)] A (fun u : (Nat → Int32) × (Nat → Int32) => [(h0, .inr (12, o_M u.1 J0 a0_2 a0_4 a0_5 a0_6 a0_7 a0_8 a0_9 a0_10 a0_11 a0_22 h1 a0_29 a0_31 a0_32 a0_34)), (h1, .inl (cA1, n1, .inl u.2))])) A) args s 0 0 A) (F0 m 101 ls []) := by
  obtain ⟨hx, hb, hr, hml, hown, ht, hlocks⟩ := id hc
  intro N
  induction N with
  | zero => intro x7 x8 H locs ls hl hK hP hD hS hv; exact hv.elim
  | succ N hk101 =>
    intro x7 x8 H locs ls hl hK hP hD hS hv
    unfold v_M_number0_101 at hv
    refine lv_lload hx hb d_M_number0_101 (lv_at hl 4 rfl) ?_
    refine lv_lconst (v := (0 : Int64)) hx hb d_M_number0_103 (by decide) ?_
    refine z_lcmp_le (tgt := 122) hx hb d_M_number0_104 d_M_number0_105 (by decide) (fun c_1 => ?_) (fun c_1 => ?_)
    · have hv := hv.1 c_1
      refine lv_iload hx hb d_M_number0_122 (lv_at hl 3 rfl) ?_
      refine lv_iconst (v := (1 : Int32)) hx hb d_M_number0_124 (by decide) ?_
      refine lv_isub hx hb d_M_number0_125 ?_
      refine lv_istore (lv' := [(8, .int (x7 - (1 : Int32))), (0, .ref h0), (4, .int x4), (5, .long x5), (7, .int x7)]) hx hb d_M_number0_126 hl (by decide) rfl (fun ls hl => ?_)
      obtain ⟨Nx, hv⟩ := hv
      exact b_M_number0_128 hc hA hE  Nx I0 f1 x5 (x7 - (1 : Int32)) _ _ _ (lv_sub hl [1, 2, 3, 4, 0] rfl) hK hP hD hS hv
    · have hv := hv.2 c_1
      refine lv_iinc (v := (x7 + (1 : Int32))) (lv' := [(7, .int (x7 + (1 : Int32))), (0, .ref h0), (4, .int x4), (5, .long x5), (8, .long x8)]) hx hb d_M_number0_108 hl (k := 3) rfl rfl (by decide) rfl (fun ls hl => ?_)
      refine lv_lload hx hb d_M_number0_111 (lv_at hl 4 rfl) ?_
      refine lv_ldc2 (v := (10 : Int64)) hx hb hown (ht _ zw_1404) d_M_number0_113 ?_
      refine lv_ldiv hx hb d_M_number0_116 (by decide) ?_
      refine lv_lstore (lv' := [(8, .long (x8 / (10 : Int64))), (7, .int (x7 + (1 : Int32))), (0, .ref h0), (4, .int x4), (5, .long x5)]) hx hb d_M_number0_117 hl (by decide) rfl (fun ls hl => ?_)
      refine lv_goto (tgt := 101) hx hb d_M_number0_119 (by decide) ?_
      exact hk101 (x7 + (1 : Int32)) (x8 / (10 : Int64)) _ _ _ (lv_sub hl [2, 3, 4, 1, 0] rfl) hK hP hD hS hv
set_option maxHeartbeats 4000000 in
set_option maxRecDepth 100000 in
theorem b_M_number0_86 {h0 : Nat} {a0_2 : Nat} {a0_4 : Nat} {a0_5 : Nat} {a0_6 : Nat} {a0_7 : Nat} {a0_8 : Nat} {a0_9 : Nat} {a0_10 : Nat} {a0_11 : Nat} {a0_22 : Nat} {a0_29 : Nat} {a0_31 : Nat} {a0_32 : Nat} {a0_34 : Nat} {h1 : Nat} {cA1 : ClassId} {I0 : Nat → Int32} {J0 : Nat → Int64} {n1 : Nat} {f1 : Nat → Int32} {x4 : Int32} {x5 : Int64} {s1 : Int32}  {Z : (Nat → Int32) × (Nat → Int32) → Prop} {H : Heap} {locs : List Loc} {ls : Array Slot} (hc : zC p s m args meth c prog_14_method_8_code none 10 "NumberDressModel") (hA : ∀ q : Nat, s.heap.size ≤ q → A q) (hE : zE gE A s) (hl : lv_has ls 10 [(0, .ref h0), (4, .int x4), (5, .long x5)]) (hK : va_K (dC, dI) zCl [(cA1, .int)] s) (hP : va_P (dC, dI) zCl [(h0, .inr (12, o_M I0 J0 a0_2 a0_4 a0_5 a0_6 a0_7 a0_8 a0_9 a0_10 a0_11 a0_22 h1 a0_29 a0_31 a0_32 a0_34)), (h1, .inl (cA1, n1, .inl f1))] H) (hD : va_D A [(h0, .inr (12, o_M I0 J0 a0_2 a0_4 a0_5 a0_6 a0_7 a0_8 a0_9 a0_10 a0_11 a0_22 h1 a0_29 a0_31 a0_32 a0_34)), (h1, .inl (cA1, n1, .inl f1))]) (hS : va_S A s.heap H locs) (hv : v_M_number0_86 I0 J0 n1 f1 x4 x5 s1  Z) : W p l e (headSpec (Cond.code (⟨"NumberDressModel", "number", "(ZIII)V"⟩ : MethodName) prog_14_method_8_code 10 none :: zT) { frames := 0, cells := 0, slots := 0, locals := 0 }).room s m args below meth c H locs 0 0 (MQ below (va_Qv Z (zB (dC, dI) zCl [(cA1, .int)] A (fun u : (Nat → Int32) × (Nat → Int32) => [(h0, .inr (12, o_M u.1 J0 a0_2 a0_4 a0_5 a0_6 a0_7 a0_8 a0_9 a0_10 a0_11 a0_22 h1 a0_29 a0_31 a0_32 a0_34)), (h1, .inl (cA1, n1, .inl u.2))])) A) args s 0 0 A) (F0 m 86 ls [.int s1, .ref h0]) := by
  obtain ⟨hx, hb, hr, hml, hown, ht, hlocks⟩ := id hc
  unfold v_M_number0_86 at hv
  obtain ⟨q_1, hv⟩ := hv
  refine va_put (D := (dC, dI)) (ci := 12) (v := .int s1) (ty := .boolean) (C := "NumberDressModel") (T := T_M) (N := 41) hx hb ht zin_M ty_M tyok_M nm_M hown hK hP hD hS 0 rfl rfl 23 (by decide) (ht _ zw_1284) (fun _ h9 => h9) rfl (by decide +kernel) (zb_n q_1) (zb_f q_1) (Nat.le_of_ble_eq_true rfl) d_M_number0_86 (fun H locs hP hD hS => ?_)
  have hP : va_P (dC, dI) zCl [(h0, .inr (12, o_M (zu I0 23 s1) J0 a0_2 a0_4 a0_5 a0_6 a0_7 a0_8 a0_9 a0_10 a0_11 a0_22 h1 a0_29 a0_31 a0_32 a0_34)), (h1, .inl (cA1, n1, .inl f1))] H := hP
  have hD : va_D A [(h0, .inr (12, o_M (zu I0 23 s1) J0 a0_2 a0_4 a0_5 a0_6 a0_7 a0_8 a0_9 a0_10 a0_11 a0_22 h1 a0_29 a0_31 a0_32 a0_34)), (h1, .inl (cA1, n1, .inl f1))] := hD
  refine lv_aload_n hx hb d_M_number0_89 rfl (lv_at hl 0 rfl) ?_
  refine lv_iconst (v := (0 : Int32)) hx hb d_M_number0_90 (by decide) ?_
  refine va_put (D := (dC, dI)) (ci := 12) (v := .int (0 : Int32)) (ty := .int) (C := "NumberDressModel") (T := T_M) (N := 41) hx hb ht zin_M ty_M tyok_M nm_M hown hK hP hD hS 0 rfl rfl 24 (by decide) (ht _ zw_1285) (fun _ h9 => h9) rfl (by decide +kernel) rfl rfl (Nat.le_of_ble_eq_true rfl) d_M_number0_91 (fun H locs hP hD hS => ?_)
  have hP : va_P (dC, dI) zCl [(h0, .inr (12, o_M (zu (zu I0 23 s1) 24 (0 : Int32)) J0 a0_2 a0_4 a0_5 a0_6 a0_7 a0_8 a0_9 a0_10 a0_11 a0_22 h1 a0_29 a0_31 a0_32 a0_34)), (h1, .inl (cA1, n1, .inl f1))] H := hP
  have hD : va_D A [(h0, .inr (12, o_M (zu (zu I0 23 s1) 24 (0 : Int32)) J0 a0_2 a0_4 a0_5 a0_6 a0_7 a0_8 a0_9 a0_10 a0_11 a0_22 h1 a0_29 a0_31 a0_32 a0_34)), (h1, .inl (cA1, n1, .inl f1))] := hD
  refine lv_iconst (v := (0 : Int32)) hx hb d_M_number0_94 (by decide) ?_
  refine lv_istore (lv' := [(7, .int (0 : Int32)), (0, .ref h0), (4, .int x4), (5, .long x5)]) hx hb d_M_number0_95 hl (by decide) rfl (fun ls hl => ?_)
  refine lv_lload hx hb d_M_number0_97 (lv_at hl 3 rfl) ?_
  refine lv_lstore (lv' := [(8, .long x5), (7, .int (0 : Int32)), (0, .ref h0), (4, .int x4), (5, .long x5)]) hx hb d_M_number0_99 hl (by decide) rfl (fun ls hl => ?_)
  obtain ⟨Nx, hv⟩ := hv
  exact b_M_number0_101 hc hA hE  Nx (0 : Int32) x5 _ _ _ (lv_sub hl [2, 3, 4, 1, 0] rfl) hK hP hD hS hv
set_option maxHeartbeats 4000000 in
set_option maxRecDepth 100000 in
theorem b_M_number0_85 {h0 : Nat} {a0_2 : Nat} {a0_4 : Nat} {a0_5 : Nat} {a0_6 : Nat} {a0_7 : Nat} {a0_8 : Nat} {a0_9 : Nat} {a0_10 : Nat} {a0_11 : Nat} {a0_22 : Nat} {a0_29 : Nat} {a0_31 : Nat} {a0_32 : Nat} {a0_34 : Nat} {h1 : Nat} {cA1 : ClassId} {I0 : Nat → Int32} {J0 : Nat → Int64} {n1 : Nat} {f1 : Nat → Int32} {x4 : Int32} {x5 : Int64}  {Z : (Nat → Int32) × (Nat → Int32) → Prop} {H : Heap} {locs : List Loc} {ls : Array Slot} (hc : zC p s m args meth c prog_14_method_8_code none 10 "NumberDressModel") (hA : ∀ q : Nat, s.heap.size ≤ q → A q) (hE : zE gE A s) (hl : lv_has ls 10 [(0, .ref h0), (4, .int x4), (5, .long x5)]) (hK : va_K (dC, dI) zCl [(cA1, .int)] s) (hP : va_P (dC, dI) zCl [(h0, .inr (12, o_M I0 J0 a0_2 a0_4 a0_5 a0_6 a0_7 a0_8 a0_9 a0_10 a0_11 a0_22 h1 a0_29 a0_31 a0_32 a0_34)), (h1, .inl (cA1, n1, .inl f1))] H) (hD : va_D A [(h0, .inr (12, o_M I0 J0 a0_2 a0_4 a0_5 a0_6 a0_7 a0_8 a0_9 a0_10 a0_11 a0_22 h1 a0_29 a0_31 a0_32 a0_34)), (h1, .inl (cA1, n1, .inl f1))]) (hS : va_S A s.heap H locs) (hv : v_M_number0_85 I0 J0 n1 f1 x4 x5  Z) : W p l e (headSpec (Cond.code (⟨"NumberDressModel", "number", "(ZIII)V"⟩ : MethodName) prog_14_method_8_code 10 none :: zT) { frames := 0, cells := 0, slots := 0, locals := 0 }).room s m args below meth c H locs 0 0 (MQ below (va_Qv Z (zB (dC, dI) zCl [(cA1, .int)] A (fun u : (Nat → Int32) × (Nat → Int32) => [(h0, .inr (12, o_M u.1 J0 a0_2 a0_4 a0_5 a0_6 a0_7 a0_8 a0_9 a0_10 a0_11 a0_22 h1 a0_29 a0_31 a0_32 a0_34)), (h1, .inl (cA1, n1, .inl u.2))])) A) args s 0 0 A) (F0 m 85 ls [.ref h0]) := by
  obtain ⟨hx, hb, hr, hml, hown, ht, hlocks⟩ := id hc
  unfold v_M_number0_85 at hv
  refine lv_iconst (v := (0 : Int32)) hx hb d_M_number0_85 (by decide) ?_
  exact b_M_number0_86 hc hA hE  (lv_sub hl [0, 1, 2] rfl) hK hP hD hS hv
set_option maxHeartbeats 4000000 in
set_option maxRecDepth 100000 in
theorem b_M_number0_42 {h0 : Nat} {a0_2 : Nat} {a0_4 : Nat} {a0_5 : Nat} {a0_6 : Nat} {a0_7 : Nat} {a0_8 : Nat} {a0_9 : Nat} {a0_10 : Nat} {a0_11 : Nat} {a0_22 : Nat} {a0_29 : Nat} {a0_31 : Nat} {a0_32 : Nat} {a0_34 : Nat} {h1 : Nat} {cA1 : ClassId} {I0 : Nat → Int32} {J0 : Nat → Int64} {n1 : Nat} {f1 : Nat → Int32} {x1 : Int32} {x2 : Int32} {x3 : Int32} {x4 : Int32} {s1 : Int32}  {Z : (Nat → Int32) × (Nat → Int32) → Prop} {H : Heap} {locs : List Loc} {ls : Array Slot} (hc : zC p s m args meth c prog_14_method_8_code none 10 "NumberDressModel") (hA : ∀ q : Nat, s.heap.size ≤ q → A q) (hE : zE gE A s) (hl : lv_has ls 10 [(0, .ref h0), (1, .int x1), (2, .int x2), (3, .int x3), (4, .int x4)]) (hK : va_K (dC, dI) zCl [(cA1, .int)] s) (hP : va_P (dC, dI) zCl [(h0, .inr (12, o_M I0 J0 a0_2 a0_4 a0_5 a0_6 a0_7 a0_8 a0_9 a0_10 a0_11 a0_22 h1 a0_29 a0_31 a0_32 a0_34)), (h1, .inl (cA1, n1, .inl f1))] H) (hD : va_D A [(h0, .inr (12, o_M I0 J0 a0_2 a0_4 a0_5 a0_6 a0_7 a0_8 a0_9 a0_10 a0_11 a0_22 h1 a0_29 a0_31 a0_32 a0_34)), (h1, .inl (cA1, n1, .inl f1))]) (hS : va_S A s.heap H locs) (hv : v_M_number0_42 I0 J0 n1 f1 x1 x2 x3 x4 s1  Z) : W p l e (headSpec (Cond.code (⟨"NumberDressModel", "number", "(ZIII)V"⟩ : MethodName) prog_14_method_8_code 10 none :: zT) { frames := 0, cells := 0, slots := 0, locals := 0 }).room s m args below meth c H locs 0 0 (MQ below (va_Qv Z (zB (dC, dI) zCl [(cA1, .int)] A (fun u : (Nat → Int32) × (Nat → Int32) => [(h0, .inr (12, o_M u.1 J0 a0_2 a0_4 a0_5 a0_6 a0_7 a0_8 a0_9 a0_10 a0_11 a0_22 h1 a0_29 a0_31 a0_32 a0_34)), (h1, .inl (cA1, n1, .inl u.2))])) A) args s 0 0 A) (F0 m 42 ls [.int s1, .ref h0]) := by
  obtain ⟨hx, hb, hr, hml, hown, ht, hlocks⟩ := id hc
  unfold v_M_number0_42 at hv
  refine va_put (D := (dC, dI)) (ci := 12) (v := .int s1) (ty := .int) (C := "NumberDressModel") (T := T_M) (N := 41) hx hb ht zin_M ty_M tyok_M nm_M hown hK hP hD hS 0 rfl rfl 0 (by decide) (ht _ zw_1261) (fun _ h9 => h9) rfl (by decide +kernel) rfl rfl (Nat.le_of_ble_eq_true rfl) d_M_number0_42 (fun H locs hP hD hS => ?_)
  have hP : va_P (dC, dI) zCl [(h0, .inr (12, o_M (zu I0 0 s1) J0 a0_2 a0_4 a0_5 a0_6 a0_7 a0_8 a0_9 a0_10 a0_11 a0_22 h1 a0_29 a0_31 a0_32 a0_34)), (h1, .inl (cA1, n1, .inl f1))] H := hP
  have hD : va_D A [(h0, .inr (12, o_M (zu I0 0 s1) J0 a0_2 a0_4 a0_5 a0_6 a0_7 a0_8 a0_9 a0_10 a0_11 a0_22 h1 a0_29 a0_31 a0_32 a0_34)), (h1, .inl (cA1, n1, .inl f1))] := hD
  refine lv_aload_n hx hb d_M_number0_45 rfl (lv_at hl 0 rfl) ?_
  refine va_get (D := (dC, dI)) (ci := 12) (v := .int s1) (C := "NumberDressModel") (T := T_M) (N := 41) hx hb ht zin_M hown hK hP 0 rfl rfl 0 (by decide) (ht _ zw_1261) (fun _ h9 => h9) rfl d_M_number0_46 ?_
  refine lv_if_le (tgt := 53) hx hb d_M_number0_49 (by decide) (fun c_1 => ?_) (fun c_1 => ?_)
  · have hv := hv.1 c_1
    refine lv_ldc2 (v := (1000000000 : Int64)) hx hb hown (ht _ zw_1403) d_M_number0_53 ?_
    refine lv_iload_n hx hb d_M_number0_56 rfl (lv_at hl 2 rfl) ?_
    refine lv_i2l (v := x2.toInt64) hx hb d_M_number0_57 rfl ?_
    refine lv_lmul hx hb d_M_number0_58 ?_
    refine lv_iload_n hx hb d_M_number0_59 rfl (lv_at hl 3 rfl) ?_
    refine lv_i2l (v := x3.toInt64) hx hb d_M_number0_60 rfl ?_
    refine lv_ladd hx hb d_M_number0_61 ?_
    refine lv_topl (fun y_2 ey_2 => ?_)
    have hv := hv y_2 ey_2
    refine lv_lstore (lv' := [(5, .long y_2), (0, .ref h0), (1, .int x1), (2, .int x2), (3, .int x3), (4, .int x4)]) hx hb d_M_number0_62 hl (by decide) rfl (fun ls hl => ?_)
    refine lv_aload_n hx hb d_M_number0_64 rfl (lv_at hl 1 rfl) ?_
    refine lv_iconst (v := (0 : Int32)) hx hb d_M_number0_65 (by decide) ?_
    refine va_put (D := (dC, dI)) (ci := 12) (v := .int (0 : Int32)) (ty := .boolean) (C := "NumberDressModel") (T := T_M) (N := 41) hx hb ht zin_M ty_M tyok_M nm_M hown hK hP hD hS 0 rfl rfl 20 (by decide) (ht _ zw_1281) (fun _ h9 => h9) rfl (by decide +kernel) (by decide) (by decide) (Nat.le_of_ble_eq_true rfl) d_M_number0_66 (fun H locs hP hD hS => ?_)
    have hP : va_P (dC, dI) zCl [(h0, .inr (12, o_M (zu (zu I0 0 s1) 20 (0 : Int32)) J0 a0_2 a0_4 a0_5 a0_6 a0_7 a0_8 a0_9 a0_10 a0_11 a0_22 h1 a0_29 a0_31 a0_32 a0_34)), (h1, .inl (cA1, n1, .inl f1))] H := hP
    have hD : va_D A [(h0, .inr (12, o_M (zu (zu I0 0 s1) 20 (0 : Int32)) J0 a0_2 a0_4 a0_5 a0_6 a0_7 a0_8 a0_9 a0_10 a0_11 a0_22 h1 a0_29 a0_31 a0_32 a0_34)), (h1, .inl (cA1, n1, .inl f1))] := hD
    refine lv_aload_n hx hb d_M_number0_69 rfl (lv_at hl 1 rfl) ?_
    refine lv_iload_n hx hb d_M_number0_70 rfl (lv_at hl 2 rfl) ?_
    refine lv_if_eq (tgt := 85) hx hb d_M_number0_71 (by decide) (fun c_3 => ?_) (fun c_3 => ?_)
    · have hv := hv.1 c_3
      exact b_M_number0_85 hc hA hE  (lv_sub hl [1, 5, 0] rfl) hK hP hD hS hv
    · have hv := hv.2 c_3
      refine lv_lload hx hb d_M_number0_74 (lv_at hl 0 rfl) ?_
      refine lv_lconst (v := (0 : Int64)) hx hb d_M_number0_76 (by decide) ?_
      refine z_lcmp_le (tgt := 85) hx hb d_M_number0_77 d_M_number0_78 (by decide) (fun c_4 => ?_) (fun c_4 => ?_)
      · have hv := hv.1 c_4
        exact b_M_number0_85 hc hA hE  (lv_sub hl [1, 5, 0] rfl) hK hP hD hS hv
      · have hv := hv.2 c_4
        refine lv_iconst (v := (1 : Int32)) hx hb d_M_number0_81 (by decide) ?_
        refine lv_goto (tgt := 86) hx hb d_M_number0_82 (by decide) ?_
        exact b_M_number0_86 hc hA hE  (lv_sub hl [1, 5, 0] rfl) hK hP hD hS hv
  · have hv := hv.2 c_1
    exact W.vret hx hb hr (fun t ht hW => ⟨⟨((zu I0 0 s1), f1), rfl, hv, ⟨by rw [ht]; exact hP, va_K.moved hW.alike hK, hD⟩⟩, hS.F ht⟩) hS.2.2 d_M_number0_52
set_option maxHeartbeats 4000000 in
set_option maxRecDepth 100000 in
theorem b_M_number0_37 {h0 : Nat} {a0_2 : Nat} {a0_4 : Nat} {a0_5 : Nat} {a0_6 : Nat} {a0_7 : Nat} {a0_8 : Nat} {a0_9 : Nat} {a0_10 : Nat} {a0_11 : Nat} {a0_22 : Nat} {a0_29 : Nat} {a0_31 : Nat} {a0_32 : Nat} {a0_34 : Nat} {h1 : Nat} {cA1 : ClassId} {I0 : Nat → Int32} {J0 : Nat → Int64} {n1 : Nat} {f1 : Nat → Int32} {x1 : Int32} {x2 : Int32} {x3 : Int32} {x4 : Int32}  {Z : (Nat → Int32) × (Nat → Int32) → Prop} {H : Heap} {locs : List Loc} {ls : Array Slot} (hc : zC p s m args meth c prog_14_method_8_code none 10 "NumberDressModel") (hA : ∀ q : Nat, s.heap.size ≤ q → A q) (hE : zE gE A s) (hl : lv_has ls 10 [(0, .ref h0), (1, .int x1), (2, .int x2), (3, .int x3), (4, .int x4)]) (hK : va_K (dC, dI) zCl [(cA1, .int)] s) (hP : va_P (dC, dI) zCl [(h0, .inr (12, o_M I0 J0 a0_2 a0_4 a0_5 a0_6 a0_7 a0_8 a0_9 a0_10 a0_11 a0_22 h1 a0_29 a0_31 a0_32 a0_34)), (h1, .inl (cA1, n1, .inl f1))] H) (hD : va_D A [(h0, .inr (12, o_M I0 J0 a0_2 a0_4 a0_5 a0_6 a0_7 a0_8 a0_9 a0_10 a0_11 a0_22 h1 a0_29 a0_31 a0_32 a0_34)), (h1, .inl (cA1, n1, .inl f1))]) (hS : va_S A s.heap H locs) (hv : v_M_number0_37 I0 J0 n1 f1 x1 x2 x3 x4  Z) : W p l e (headSpec (Cond.code (⟨"NumberDressModel", "number", "(ZIII)V"⟩ : MethodName) prog_14_method_8_code 10 none :: zT) { frames := 0, cells := 0, slots := 0, locals := 0 }).room s m args below meth c H locs 0 0 (MQ below (va_Qv Z (zB (dC, dI) zCl [(cA1, .int)] A (fun u : (Nat → Int32) × (Nat → Int32) => [(h0, .inr (12, o_M u.1 J0 a0_2 a0_4 a0_5 a0_6 a0_7 a0_8 a0_9 a0_10 a0_11 a0_22 h1 a0_29 a0_31 a0_32 a0_34)), (h1, .inl (cA1, n1, .inl u.2))])) A) args s 0 0 A) (F0 m 37 ls [.ref h0]) := by
  obtain ⟨hx, hb, hr, hml, hown, ht, hlocks⟩ := id hc
  unfold v_M_number0_37 at hv
  refine lv_iconst (v := (1 : Int32)) hx hb d_M_number0_37 (by decide) ?_
  refine lv_goto (tgt := 42) hx hb d_M_number0_38 (by decide) ?_
  exact b_M_number0_42 hc hA hE  (lv_sub hl [0, 1, 2, 3, 4] rfl) hK hP hD hS hv
set_option maxHeartbeats 4000000 in
set_option maxRecDepth 100000 in
theorem b_M_number0_0 {h0 : Nat} {a0_2 : Nat} {a0_4 : Nat} {a0_5 : Nat} {a0_6 : Nat} {a0_7 : Nat} {a0_8 : Nat} {a0_9 : Nat} {a0_10 : Nat} {a0_11 : Nat} {a0_22 : Nat} {a0_29 : Nat} {a0_31 : Nat} {a0_32 : Nat} {a0_34 : Nat} {h1 : Nat} {cA1 : ClassId} {I0 : Nat → Int32} {J0 : Nat → Int64} {n1 : Nat} {f1 : Nat → Int32} {x1 : Int32} {x2 : Int32} {x3 : Int32} {x4 : Int32}  {Z : (Nat → Int32) × (Nat → Int32) → Prop} {H : Heap} {locs : List Loc} {ls : Array Slot} (hc : zC p s m args meth c prog_14_method_8_code none 10 "NumberDressModel") (hA : ∀ q : Nat, s.heap.size ≤ q → A q) (hE : zE gE A s) (hl : lv_has ls 10 [(0, .ref h0), (1, .int x1), (2, .int x2), (3, .int x3), (4, .int x4)]) (hK : va_K (dC, dI) zCl [(cA1, .int)] s) (hP : va_P (dC, dI) zCl [(h0, .inr (12, o_M I0 J0 a0_2 a0_4 a0_5 a0_6 a0_7 a0_8 a0_9 a0_10 a0_11 a0_22 h1 a0_29 a0_31 a0_32 a0_34)), (h1, .inl (cA1, n1, .inl f1))] H) (hD : va_D A [(h0, .inr (12, o_M I0 J0 a0_2 a0_4 a0_5 a0_6 a0_7 a0_8 a0_9 a0_10 a0_11 a0_22 h1 a0_29 a0_31 a0_32 a0_34)), (h1, .inl (cA1, n1, .inl f1))]) (hS : va_S A s.heap H locs) (hv : v_M_number0_0 I0 J0 n1 f1 x1 x2 x3 x4  Z) : W p l e (headSpec (Cond.code (⟨"NumberDressModel", "number", "(ZIII)V"⟩ : MethodName) prog_14_method_8_code 10 none :: zT) { frames := 0, cells := 0, slots := 0, locals := 0 }).room s m args below meth c H locs 0 0 (MQ below (va_Qv Z (zB (dC, dI) zCl [(cA1, .int)] A (fun u : (Nat → Int32) × (Nat → Int32) => [(h0, .inr (12, o_M u.1 J0 a0_2 a0_4 a0_5 a0_6 a0_7 a0_8 a0_9 a0_10 a0_11 a0_22 h1 a0_29 a0_31 a0_32 a0_34)), (h1, .inl (cA1, n1, .inl u.2))])) A) args s 0 0 A) (F0 m 0 ls []) := by
  obtain ⟨hx, hb, hr, hml, hown, ht, hlocks⟩ := id hc
  unfold v_M_number0_0 at hv
  refine lv_aload_n hx hb d_M_number0_0 rfl (lv_at hl 0 rfl) ?_
  refine lv_iload_n hx hb d_M_number0_1 rfl (lv_at hl 2 rfl) ?_
  refine lv_if_lt (tgt := 37) hx hb d_M_number0_2 (by decide) (fun c_1 => ?_) (fun c_1 => ?_)
  · have hv := hv.1 c_1
    exact b_M_number0_37 hc hA hE  (lv_sub hl [0, 1, 2, 3, 4] rfl) hK hP hD hS hv
  · have hv := hv.2 c_1
    refine lv_iload_n hx hb d_M_number0_5 rfl (lv_at hl 2 rfl) ?_
    refine lv_ldc (v := (99999999 : Int32)) hx hb hown (ht _ zw_1401) d_M_number0_6 ?_
    refine lv_icmp_gt (tgt := 37) hx hb d_M_number0_8 (by decide) (fun c_2 => ?_) (fun c_2 => ?_)
    · have hv := hv.1 c_2
      exact b_M_number0_37 hc hA hE  (lv_sub hl [0, 1, 2, 3, 4] rfl) hK hP hD hS hv
    · have hv := hv.2 c_2
      refine lv_iload_n hx hb d_M_number0_11 rfl (lv_at hl 3 rfl) ?_
      refine lv_if_lt (tgt := 37) hx hb d_M_number0_12 (by decide) (fun c_3 => ?_) (fun c_3 => ?_)
      · have hv := hv.1 c_3
        exact b_M_number0_37 hc hA hE  (lv_sub hl [0, 1, 2, 3, 4] rfl) hK hP hD hS hv
      · have hv := hv.2 c_3
        refine lv_iload_n hx hb d_M_number0_15 rfl (lv_at hl 3 rfl) ?_
        refine lv_ldc (v := (999999999 : Int32)) hx hb hown (ht _ zw_1402) d_M_number0_16 ?_
        refine lv_icmp_gt (tgt := 37) hx hb d_M_number0_18 (by decide) (fun c_4 => ?_) (fun c_4 => ?_)
        · have hv := hv.1 c_4
          exact b_M_number0_37 hc hA hE  (lv_sub hl [0, 1, 2, 3, 4] rfl) hK hP hD hS hv
        · have hv := hv.2 c_4
          refine lv_iload hx hb d_M_number0_21 (lv_at hl 4 rfl) ?_
          refine lv_sipush (v := (-350 : Int32)) hx hb d_M_number0_23 (by decide) ?_
          refine lv_icmp_lt (tgt := 37) hx hb d_M_number0_26 (by decide) (fun c_5 => ?_) (fun c_5 => ?_)
          · have hv := hv.1 c_5
            exact b_M_number0_37 hc hA hE  (lv_sub hl [0, 1, 2, 3, 4] rfl) hK hP hD hS hv
          · have hv := hv.2 c_5
            refine lv_iload hx hb d_M_number0_29 (lv_at hl 4 rfl) ?_
            refine lv_sipush (v := (300 : Int32)) hx hb d_M_number0_31 (by decide) ?_
            refine lv_icmp_le (tgt := 41) hx hb d_M_number0_34 (by decide) (fun c_6 => ?_) (fun c_6 => ?_)
            · have hv := hv.1 c_6
              refine lv_iconst (v := (0 : Int32)) hx hb d_M_number0_41 (by decide) ?_
              exact b_M_number0_42 hc hA hE  (lv_sub hl [0, 1, 2, 3, 4] rfl) hK hP hD hS hv
            · have hv := hv.2 c_6
              exact b_M_number0_37 hc hA hE  (lv_sub hl [0, 1, 2, 3, 4] rfl) hK hP hD hS hv
theorem zi_M_number0 : Cond.code (⟨"NumberDressModel", "number", "(ZIII)V"⟩ : MethodName) prog_14_method_8_code 10 none ∈ zT := zw_1400
theorem zh_M_number0 : (((⟨"NumberDressModel", "number", "(ZIII)V"⟩ : MethodName)).cls ≠ "java/lang/invoke/MethodHandle" ∧ ((⟨"NumberDressModel", "number", "(ZIII)V"⟩ : MethodName)).cls ≠ "java/lang/invoke/VarHandle" ∧ (parseMethodDescriptor ((⟨"NumberDressModel", "number", "(ZIII)V"⟩ : MethodName)).desc).map (fun d => d.parameters.length) = some 4) := by decide +kernel
set_option maxHeartbeats 4000000 in
set_option maxRecDepth 100000 in
theorem m_M_number0 (l : Launch) (dC : Nat → ClassId) (dI : Nat → Nat → Nat) {gE : zG} {h0 : Nat} {a0_2 : Nat} {a0_4 : Nat} {a0_5 : Nat} {a0_6 : Nat} {a0_7 : Nat} {a0_8 : Nat} {a0_9 : Nat} {a0_10 : Nat} {a0_11 : Nat} {a0_22 : Nat} {a0_29 : Nat} {a0_31 : Nat} {a0_32 : Nat} {a0_34 : Nat} {h1 : Nat} {cA1 : ClassId} {I0 : Nat → Int32} {J0 : Nat → Int64} {n1 : Nat} {f1 : Nat → Int32} {x1 : Int32} {x2 : Int32} {x3 : Int32} {x4 : Int32} {sz : Nat} {Z : (Nat → Int32) × (Nat → Int32) → Prop} (hv : v_M_number0_0 I0 J0 n1 f1 x1 x2 x3 x4 Z) : Met l (⟨"NumberDressModel", "number", "(ZIII)V"⟩ : MethodName) (Cond.code (⟨"NumberDressModel", "number", "(ZIII)V"⟩ : MethodName) prog_14_method_8_code 10 none :: zT) { frames := 0, cells := 0, slots := 0, locals := 0 } (zPc gE (dC, dI) zCl [(cA1, .int)] [.ref h0, .int x1, .int x2, .int x3, .int x4] sz [(h0, .inr (12, o_M I0 J0 a0_2 a0_4 a0_5 a0_6 a0_7 a0_8 a0_9 a0_10 a0_11 a0_22 h1 a0_29 a0_31 a0_32 a0_34)), (h1, .inl (cA1, n1, .inl f1))]) (va_Qv Z (zB (dC, dI) zCl [(cA1, .int)] (va_A [(h0, .inr (12, o_M I0 J0 a0_2 a0_4 a0_5 a0_6 a0_7 a0_8 a0_9 a0_10 a0_11 a0_22 h1 a0_29 a0_31 a0_32 a0_34)), (h1, .inl (cA1, n1, .inl f1))] sz) (fun u : (Nat → Int32) × (Nat → Int32) => [(h0, .inr (12, o_M u.1 J0 a0_2 a0_4 a0_5 a0_6 a0_7 a0_8 a0_9 a0_10 a0_11 a0_22 h1 a0_29 a0_31 a0_32 a0_34)), (h1, .inl (cA1, n1, .inl u.2))])) (va_A [(h0, .inr (12, o_M I0 J0 a0_2 a0_4 a0_5 a0_6 a0_7 a0_8 a0_9 a0_10 a0_11 a0_22 h1 a0_29 a0_31 a0_32 a0_34)), (h1, .inl (cA1, n1, .inl f1))] sz)) 0 0 (va_A [(h0, .inr (12, o_M I0 J0 a0_2 a0_4 a0_5 a0_6 a0_7 a0_8 a0_9 a0_10 a0_11 a0_22 h1 a0_29 a0_31 a0_32 a0_34)), (h1, .inl (cA1, n1, .inl f1))] sz) := by
  refine Met.ofW (cc := prog_14_method_8_code) (maxL := 10) (ret := none) (by decide +kernel) rfl ?_
  intro p e s m args below meth c s₁ B hml hp
  obtain ⟨rfl, hsz, hP, hK, hD0, hE⟩ := hp
  have hts := atoms_spec (ws := (Cond.code (⟨"NumberDressModel", "number", "(ZIII)V"⟩ : MethodName) prog_14_method_8_code 10 none :: zT)) B.pre
  have hown : s.vm.findClass "NumberDressModel" = some m.cls := findClass_of_methodNamed B.named
  have hc : zC p s m _ meth c prog_14_method_8_code none 10 "NumberDressModel" := ⟨B.exec, B.bytes, B.returns, hml, hown, fun w h => hts w (List.mem_cons_of_mem _ h), B.notSynchronized⟩
  subst hsz
  have hD := hD0.self (sz := s.heap.size)
  generalize hAe : va_A [(h0, .inr (12, o_M I0 J0 a0_2 a0_4 a0_5 a0_6 a0_7 a0_8 a0_9 a0_10 a0_11 a0_22 h1 a0_29 a0_31 a0_32 a0_34)), (h1, .inl (cA1, n1, .inl f1))] s.heap.size = A at hD hE ⊢
  have hA : ∀ q : Nat, s.heap.size ≤ q → A q := fun q h => by rw [← hAe]; exact Or.inr h
  have hl := lv_entry ([.ref h0, .int x1, .int x2, .int x3, .int x4]) (n := 10) (Nat.le_of_ble_eq_true rfl)
  rw [lg_entry_eq]
  exact b_M_number0_0 hc hA hE hl hK hP hD va_S.rf hv
end
