section
variable {p : Program} {l : Launch} {e : Env} {s : State} {m : MethodId} {args : Array Value} {below : List Frame} {meth : Method} {c : Code} {dC : Nat → ClassId} {dI : Nat → Nat → Nat} {A : Nat → Prop} {gE : zG}
theorem d_Reader_readComma_0 : decode prog_9_method_18_code 0 = .ok (.aload_n 0, 1) := by decide +kernel
theorem d_Reader_readComma_1 : decode prog_9_method_18_code 1 = .ok (.invokevirtual 183, 3) := by decide +kernel
theorem d_Reader_readComma_4 : decode prog_9_method_18_code 4 = .ok (.istore_n 2, 1) := by decide +kernel
theorem d_Reader_readComma_5 : decode prog_9_method_18_code 5 = .ok (.iload_n 2, 1) := by decide +kernel
theorem d_Reader_readComma_6 : decode prog_9_method_18_code 6 = .ok (.iconst 2, 1) := by decide +kernel
theorem d_Reader_readComma_7 : decode prog_9_method_18_code 7 = .ok (.if_icmp .ne 32, 3) := by decide +kernel
theorem d_Reader_readComma_10 : decode prog_9_method_18_code 10 = .ok (.aload_n 0, 1) := by decide +kernel
theorem d_Reader_readComma_11 : decode prog_9_method_18_code 11 = .ok (.iload_n 1, 1) := by decide +kernel
theorem d_Reader_readComma_12 : decode prog_9_method_18_code 12 = .ok (.iconst 1, 1) := by decide +kernel
theorem d_Reader_readComma_13 : decode prog_9_method_18_code 13 = .ok (.iadd, 1) := by decide +kernel
theorem d_Reader_readComma_14 : decode prog_9_method_18_code 14 = .ok (.invokevirtual 86, 3) := by decide +kernel
theorem d_Reader_readComma_17 : decode prog_9_method_18_code 17 = .ok (.invokestatic 102, 3) := by decide +kernel
theorem d_Reader_readComma_20 : decode prog_9_method_18_code 20 = .ok (.ifCond .eq 19, 3) := by decide +kernel
theorem d_Reader_readComma_23 : decode prog_9_method_18_code 23 = .ok (.aload_n 0, 1) := by decide +kernel
theorem d_Reader_readComma_24 : decode prog_9_method_18_code 24 = .ok (.getfield 25, 3) := by decide +kernel
theorem d_Reader_readComma_27 : decode prog_9_method_18_code 27 = .ok (.iconst 1, 1) := by decide +kernel
theorem d_Reader_readComma_28 : decode prog_9_method_18_code 28 = .ok (.putfield 186, 3) := by decide +kernel
theorem d_Reader_readComma_31 : decode prog_9_method_18_code 31 = .ok (.aload_n 0, 1) := by decide +kernel
theorem d_Reader_readComma_32 : decode prog_9_method_18_code 32 = .ok (.iconst 5, 1) := by decide +kernel
theorem d_Reader_readComma_33 : decode prog_9_method_18_code 33 = .ok (.bipush 44, 2) := by decide +kernel
theorem d_Reader_readComma_35 : decode prog_9_method_18_code 35 = .ok (.invokevirtual 124, 3) := by decide +kernel
theorem d_Reader_readComma_38 : decode prog_9_method_18_code 38 = .ok (.ireturn, 1) := by decide +kernel
theorem d_Reader_readComma_39 : decode prog_9_method_18_code 39 = .ok (.iload_n 2, 1) := by decide +kernel
theorem d_Reader_readComma_40 : decode prog_9_method_18_code 40 = .ok (.iconst 2, 1) := by decide +kernel
theorem d_Reader_readComma_41 : decode prog_9_method_18_code 41 = .ok (.if_icmp .eq 9, 3) := by decide +kernel
theorem d_Reader_readComma_44 : decode prog_9_method_18_code 44 = .ok (.iload_n 2, 1) := by decide +kernel
theorem d_Reader_readComma_45 : decode prog_9_method_18_code 45 = .ok (.bipush 6, 2) := by decide +kernel
theorem d_Reader_readComma_47 : decode prog_9_method_18_code 47 = .ok (.if_icmp .ne 25, 3) := by decide +kernel
theorem d_Reader_readComma_50 : decode prog_9_method_18_code 50 = .ok (.aload_n 0, 1) := by decide +kernel
theorem d_Reader_readComma_51 : decode prog_9_method_18_code 51 = .ok (.getfield 25, 3) := by decide +kernel
theorem d_Reader_readComma_54 : decode prog_9_method_18_code 54 = .ok (.dup, 1) := by decide +kernel
theorem d_Reader_readComma_55 : decode prog_9_method_18_code 55 = .ok (.getfield 177, 3) := by decide +kernel
theorem d_Reader_readComma_58 : decode prog_9_method_18_code 58 = .ok (.iconst 1, 1) := by decide +kernel
theorem d_Reader_readComma_59 : decode prog_9_method_18_code 59 = .ok (.iadd, 1) := by decide +kernel
theorem d_Reader_readComma_60 : decode prog_9_method_18_code 60 = .ok (.putfield 177, 3) := by decide +kernel
theorem d_Reader_readComma_63 : decode prog_9_method_18_code 63 = .ok (.aload_n 0, 1) := by decide +kernel
theorem d_Reader_readComma_64 : decode prog_9_method_18_code 64 = .ok (.bipush 6, 2) := by decide +kernel
theorem d_Reader_readComma_66 : decode prog_9_method_18_code 66 = .ok (.bipush 44, 2) := by decide +kernel
theorem d_Reader_readComma_68 : decode prog_9_method_18_code 68 = .ok (.invokevirtual 124, 3) := by decide +kernel
theorem d_Reader_readComma_71 : decode prog_9_method_18_code 71 = .ok (.ireturn, 1) := by decide +kernel
theorem d_Reader_readComma_72 : decode prog_9_method_18_code 72 = .ok (.iconst 0, 1) := by decide +kernel
theorem d_Reader_readComma_73 : decode prog_9_method_18_code 73 = .ok (.ireturn, 1) := by decide +kernel
set_option maxHeartbeats 4000000 in
set_option maxRecDepth 100000 in
theorem b_Reader_readComma_38 {h0 : Nat} {h1 : Nat} {a1_0 : Nat} {h2 : Nat} {h3 : Nat} {cA3 : ClassId} {h4 : Nat} {cA4 : ClassId} {h5 : Nat} {cA5 : ClassId} {I0 : Nat → Int32} {I1 : Nat → Int32} {I2 : Nat → Int32} {n3 : Nat} {f3 : Nat → Int32} {n4 : Nat} {f4 : Nat → Int32} {n5 : Nat} {f5 : Nat → Int32} {s0 : Int32}  {Z : Int32 → (Nat → Int32) × (Nat → Int32) × (Nat → Int32) × (Nat → Int32) → Prop} {H : Heap} {locs : List Loc} {ls : Array Slot} (hc : zC p s m args meth c prog_9_method_18_code (some .int) 3 "NumberDress$Reader") (hA : ∀ q : Nat, s.heap.size ≤ q → A q) (hE : zE gE A s) (hl : lv_has ls 3 []) (hK : va_K (dC, dI) zCl [(cA3, .int), (cA4, .char), (cA5, .int)] s) (hP : va_P (dC, dI) zCl [(h0, .inr (8, o_Reader I0 h4 h1 h2)), (h1, .inr (1, o_Code I1 a1_0 h3 h5)), (h2, .inr (9, o_Section I2)), (h3, .inl (cA3, n3, .inl f3)), (h4, .inl (cA4, n4, .inl f4)), (h5, .inl (cA5, n5, .inl f5))] H) (hD : va_D A [(h0, .inr (8, o_Reader I0 h4 h1 h2)), (h1, .inr (1, o_Code I1 a1_0 h3 h5)), (h2, .inr (9, o_Section I2)), (h3, .inl (cA3, n3, .inl f3)), (h4, .inl (cA4, n4, .inl f4)), (h5, .inl (cA5, n5, .inl f5))]) (hS : va_S A s.heap H locs) (hv : v_Reader_readComma_38 I0 I1 I2 n3 f3 n4 f4 n5 f5 s0  Z) : W p l e (headSpec (Cond.code (⟨"NumberDress$Reader", "readComma", "(I)I"⟩ : MethodName) prog_9_method_18_code 3 (some .int) :: zT) { frames := 2, cells := 0, slots := 0, locals := 44 }).room s m args below meth c H locs 0 0 (MQ below (va_Qi Z (zB (dC, dI) zCl [(cA3, .int), (cA4, .char), (cA5, .int)] A (fun u : (Nat → Int32) × (Nat → Int32) × (Nat → Int32) × (Nat → Int32) => [(h0, .inr (8, o_Reader I0 h4 h1 h2)), (h1, .inr (1, o_Code u.1 a1_0 h3 h5)), (h2, .inr (9, o_Section u.2.1)), (h3, .inl (cA3, n3, .inl u.2.2.1)), (h4, .inl (cA4, n4, .inl f4)), (h5, .inl (cA5, n5, .inl u.2.2.2))])) A) args s 0 0 A) (F0 m 38 ls [.int s0]) := by
  obtain ⟨hx, hb, hr, hml, hown, ht, hlocks⟩ := id hc
  unfold v_Reader_readComma_38 at hv
  exact W.iret (v := s0) hx hb hr (fun t ht hW => ⟨⟨_, (I1, I2, f3, f5), rfl, hv, ⟨by rw [ht]; exact hP, va_K.moved hW.alike hK, hD⟩⟩, hS.F ht⟩) hS.2.2 d_Reader_readComma_38
set_option maxHeartbeats 4000000 in
set_option maxRecDepth 100000 in
theorem b_Reader_readComma_71 {h0 : Nat} {h1 : Nat} {a1_0 : Nat} {h2 : Nat} {h3 : Nat} {cA3 : ClassId} {h4 : Nat} {cA4 : ClassId} {h5 : Nat} {cA5 : ClassId} {I0 : Nat → Int32} {I1 : Nat → Int32} {I2 : Nat → Int32} {n3 : Nat} {f3 : Nat → Int32} {n4 : Nat} {f4 : Nat → Int32} {n5 : Nat} {f5 : Nat → Int32} {s0 : Int32}  {Z : Int32 → (Nat → Int32) × (Nat → Int32) × (Nat → Int32) × (Nat → Int32) → Prop} {H : Heap} {locs : List Loc} {ls : Array Slot} (hc : zC p s m args meth c prog_9_method_18_code (some .int) 3 "NumberDress$Reader") (hA : ∀ q : Nat, s.heap.size ≤ q → A q) (hE : zE gE A s) (hl : lv_has ls 3 []) (hK : va_K (dC, dI) zCl [(cA3, .int), (cA4, .char), (cA5, .int)] s) (hP : va_P (dC, dI) zCl [(h0, .inr (8, o_Reader I0 h4 h1 h2)), (h1, .inr (1, o_Code I1 a1_0 h3 h5)), (h2, .inr (9, o_Section I2)), (h3, .inl (cA3, n3, .inl f3)), (h4, .inl (cA4, n4, .inl f4)), (h5, .inl (cA5, n5, .inl f5))] H) (hD : va_D A [(h0, .inr (8, o_Reader I0 h4 h1 h2)), (h1, .inr (1, o_Code I1 a1_0 h3 h5)), (h2, .inr (9, o_Section I2)), (h3, .inl (cA3, n3, .inl f3)), (h4, .inl (cA4, n4, .inl f4)), (h5, .inl (cA5, n5, .inl f5))]) (hS : va_S A s.heap H locs) (hv : v_Reader_readComma_71 I0 I1 I2 n3 f3 n4 f4 n5 f5 s0  Z) : W p l e (headSpec (Cond.code (⟨"NumberDress$Reader", "readComma", "(I)I"⟩ : MethodName) prog_9_method_18_code 3 (some .int) :: zT) { frames := 2, cells := 0, slots := 0, locals := 44 }).room s m args below meth c H locs 0 0 (MQ below (va_Qi Z (zB (dC, dI) zCl [(cA3, .int), (cA4, .char), (cA5, .int)] A (fun u : (Nat → Int32) × (Nat → Int32) × (Nat → Int32) × (Nat → Int32) => [(h0, .inr (8, o_Reader I0 h4 h1 h2)), (h1, .inr (1, o_Code u.1 a1_0 h3 h5)), (h2, .inr (9, o_Section u.2.1)), (h3, .inl (cA3, n3, .inl u.2.2.1)), (h4, .inl (cA4, n4, .inl f4)), (h5, .inl (cA5, n5, .inl u.2.2.2))])) A) args s 0 0 A) (F0 m 71 ls [.int s0]) := by
  obtain ⟨hx, hb, hr, hml, hown, ht, hlocks⟩ := id hc
  unfold v_Reader_readComma_71 at hv
  exact W.iret (v := s0) hx hb hr (fun t ht hW => ⟨⟨_, (I1, I2, f3, f5), rfl, hv, ⟨by rw [ht]; exact hP, va_K.moved hW.alike hK, hD⟩⟩, hS.F ht⟩) hS.2.2 d_Reader_readComma_71
set_option maxHeartbeats 4000000 in
set_option maxRecDepth 100000 in
theorem b_Reader_readComma_50 {h0 : Nat} {h1 : Nat} {a1_0 : Nat} {h2 : Nat} {h3 : Nat} {cA3 : ClassId} {h4 : Nat} {cA4 : ClassId} {h5 : Nat} {cA5 : ClassId} {I0 : Nat → Int32} {I1 : Nat → Int32} {I2 : Nat → Int32} {n3 : Nat} {f3 : Nat → Int32} {n4 : Nat} {f4 : Nat → Int32} {n5 : Nat} {f5 : Nat → Int32}  {Z : Int32 → (Nat → Int32) × (Nat → Int32) × (Nat → Int32) × (Nat → Int32) → Prop} {H : Heap} {locs : List Loc} {ls : Array Slot} (hc : zC p s m args meth c prog_9_method_18_code (some .int) 3 "NumberDress$Reader") (hA : ∀ q : Nat, s.heap.size ≤ q → A q) (hE : zE gE A s) (hl : lv_has ls 3 [(0, .ref h0)]) (hK : va_K (dC, dI) zCl [(cA3, .int), (cA4, .char), (cA5, .int)] s) (hP : va_P (dC, dI) zCl [(h0, .inr (8, o_Reader I0 h4 h1 h2)), (h1, .inr (1, o_Code I1 a1_0 h3 h5)), (h2, .inr (9, o_Section I2)), (h3, .inl (cA3, n3, .inl f3)), (h4, .inl (cA4, n4, .inl f4)), (h5, .inl (cA5, n5, .inl f5))] H) (hD : va_D A [(h0, .inr (8, o_Reader I0 h4 h1 h2)), (h1, .inr (1, o_Code I1 a1_0 h3 h5)), (h2, .inr (9, o_Section I2)), (h3, .inl (cA3, n3, .inl f3)), (h4, .inl (cA4, n4, .inl f4)), (h5, .inl (cA5, n5, .inl f5))]) (hS : va_S A s.heap H locs) (hv : v_Reader_readComma_50 I0 I1 I2 n3 f3 n4 f4 n5 f5  Z) : W p l e (headSpec (Cond.code (⟨"NumberDress$Reader", "readComma", "(I)I"⟩ : MethodName) prog_9_method_18_code 3 (some .int) :: zT) { frames := 2, cells := 0, slots := 0, locals := 44 }).room s m args below meth c H locs 0 0 (MQ below (va_Qi Z (zB (dC, dI) zCl [(cA3, .int), (cA4, .char), (cA5, .int)] A (fun u : (Nat → Int32) × (Nat → Int32) × (Nat → Int32) × (Nat → Int32) => [(h0, .inr (8, o_Reader I0 h4 h1 h2)), (h1, .inr (1, o_Code u.1 a1_0 h3 h5)), (h2, .inr (9, o_Section u.2.1)), (h3, .inl (cA3, n3, .inl u.2.2.1)), (h4, .inl (cA4, n4, .inl f4)), (h5, .inl (cA5, n5, .inl u.2.2.2))])) A) args s 0 0 A) (F0 m 50 ls []) := by
  obtain ⟨hx, hb, hr, hml, hown, ht, hlocks⟩ := id hc
  unfold v_Reader_readComma_50 at hv
  refine lv_aload_n hx hb d_Reader_readComma_50 rfl (lv_at hl 0 rfl) ?_
  refine va_get (D := (dC, dI)) (ci := 8) (v := .ref h2) (C := "NumberDress$Reader") (T := T_Reader) (N := 5) hx hb ht zin_Reader hown hK hP 0 rfl rfl 3 (by decide) (ht _ zw_274) (fun _ h9 => h9) rfl d_Reader_readComma_51 ?_
  refine lv_dup hx hb d_Reader_readComma_54 rfl ?_
  refine va_get (D := (dC, dI)) (ci := 9) (v := .int (I2 7)) (C := "NumberDress$Section") (T := T_Section) (N := 15) hx hb ht zin_Section hown hK hP 2 rfl rfl 7 (by decide) (ht _ zw_188) (fun _ h9 => h9) rfl d_Reader_readComma_55 ?_
  refine lv_iconst (v := (1 : Int32)) hx hb d_Reader_readComma_58 (by decide) ?_
  refine lv_iadd hx hb d_Reader_readComma_59 ?_
  refine va_put (D := (dC, dI)) (ci := 9) (v := .int ((I2 7) + (1 : Int32))) (ty := .int) (C := "NumberDress$Section") (T := T_Section) (N := 15) hx hb ht zin_Section ty_Section tyok_Section nm_Section hown hK hP hD hS 2 rfl rfl 7 (by decide) (ht _ zw_188) (fun _ h9 => h9) rfl (by decide +kernel) rfl rfl (Nat.le_of_ble_eq_true rfl) d_Reader_readComma_60 (fun H locs hP hD hS => ?_)
  have hP : va_P (dC, dI) zCl [(h0, .inr (8, o_Reader I0 h4 h1 h2)), (h1, .inr (1, o_Code I1 a1_0 h3 h5)), (h2, .inr (9, o_Section (zu I2 7 ((I2 7) + (1 : Int32))))), (h3, .inl (cA3, n3, .inl f3)), (h4, .inl (cA4, n4, .inl f4)), (h5, .inl (cA5, n5, .inl f5))] H := hP
  have hD : va_D A [(h0, .inr (8, o_Reader I0 h4 h1 h2)), (h1, .inr (1, o_Code I1 a1_0 h3 h5)), (h2, .inr (9, o_Section (zu I2 7 ((I2 7) + (1 : Int32))))), (h3, .inl (cA3, n3, .inl f3)), (h4, .inl (cA4, n4, .inl f4)), (h5, .inl (cA5, n5, .inl f5))] := hD
  refine lv_aload_n hx hb d_Reader_readComma_63 rfl (lv_at hl 0 rfl) ?_
  refine lv_bipush (v := (6 : Int32)) hx hb d_Reader_readComma_64 (by decide) ?_
  refine lv_bipush (v := (44 : Int32)) hx hb d_Reader_readComma_66 (by decide) ?_
  refine z_calli (wc := [(h0, .inr (8, o_Reader I0 h4 h1 h2)), (h1, .inr (1, o_Code I1 a1_0 h3 h5)), (h3, .inl (cA3, n3, .inl f3)), (h5, .inl (cA5, n5, .inl f5))]) (wr := [(h2, .inr (9, o_Section (zu I2 7 ((I2 7) + (1 : Int32))))), (h4, .inl (cA4, n4, .inl f4))]) [0, 1, 3, 5] [2, 4] (va_runV (As := [.int (6 : Int32), .int (44 : Int32)]) (rest := []) ⟨hx, hb, hml, hown, ht⟩ (m_Reader_addOne l dC dI hv) ⟨(callB_of 2 ht (zG_in zi_Reader_addOne) rfl rfl rfl (ht _ zw_113) (ht _ zw_722) zh_Reader_addOne ⟨Nat.le_of_ble_eq_true rfl, Nat.le_of_ble_eq_true rfl⟩), (ht _ zw_724), (ht _ zw_17)⟩ ⟨zPc_blind, va_recv hK hP (ci := 8) (q0 := 0) rfl rfl, zPc_pre hP hK hD hS hA hE [0, 1, 3, 5] [0, 2] rfl rfl (by decide) rfl⟩ rfl rfl hl.1 rfl (lv_room (Nat.le_of_ble_eq_true rfl)) d_Reader_readComma_68 ⟨Nat.le_of_ble_eq_true rfl, Nat.le_of_ble_eq_true rfl⟩) hP hD hS hA rfl rfl (by decide) (by decide) (fun r u H locs hv hP hD hS => ?_)
  have hP : va_P (dC, dI) zCl [(h0, .inr (8, o_Reader I0 h4 h1 h2)), (h1, .inr (1, o_Code u.1 a1_0 h3 h5)), (h2, .inr (9, o_Section (zu I2 7 ((I2 7) + (1 : Int32))))), (h3, .inl (cA3, n3, .inl u.2.1)), (h4, .inl (cA4, n4, .inl f4)), (h5, .inl (cA5, n5, .inl u.2.2))] H := hP.sub [2, 3, 0, 4, 1, 5] rfl
  have hD : va_D A [(h0, .inr (8, o_Reader I0 h4 h1 h2)), (h1, .inr (1, o_Code u.1 a1_0 h3 h5)), (h2, .inr (9, o_Section (zu I2 7 ((I2 7) + (1 : Int32))))), (h3, .inl (cA3, n3, .inl u.2.1)), (h4, .inl (cA4, n4, .inl f4)), (h5, .inl (cA5, n5, .inl u.2.2))] := hD.sub [2, 3, 0, 4, 1, 5] (by decide) rfl
  exact b_Reader_readComma_71 hc hA hE  (lv_sub hl [] rfl) hK hP hD hS hv
set_option maxHeartbeats 4000000 in
set_option maxRecDepth 100000 in
theorem b_Reader_readComma_39 {h0 : Nat} {h1 : Nat} {a1_0 : Nat} {h2 : Nat} {h3 : Nat} {cA3 : ClassId} {h4 : Nat} {cA4 : ClassId} {h5 : Nat} {cA5 : ClassId} {I0 : Nat → Int32} {I1 : Nat → Int32} {I2 : Nat → Int32} {n3 : Nat} {f3 : Nat → Int32} {n4 : Nat} {f4 : Nat → Int32} {n5 : Nat} {f5 : Nat → Int32} {x2 : Int32}  {Z : Int32 → (Nat → Int32) × (Nat → Int32) × (Nat → Int32) × (Nat → Int32) → Prop} {H : Heap} {locs : List Loc} {ls : Array Slot} (hc : zC p s m args meth c prog_9_method_18_code (some .int) 3 "NumberDress$Reader") (hA : ∀ q : Nat, s.heap.size ≤ q → A q) (hE : zE gE A s) (hl : lv_has ls 3 [(0, .ref h0), (2, .int x2)]) (hK : va_K (dC, dI) zCl [(cA3, .int), (cA4, .char), (cA5, .int)] s) (hP : va_P (dC, dI) zCl [(h0, .inr (8, o_Reader I0 h4 h1 h2)), (h1, .inr (1, o_Code I1 a1_0 h3 h5)), (h2, .inr (9, o_Section I2)), (h3, .inl (cA3, n3, .inl f3)), (h4, .inl (cA4, n4, .inl f4)), (h5, .inl (cA5, n5, .inl f5))] H) (hD : va_D A [(h0, .inr (8, o_Reader I0 h4 h1 h2)), (h1, .inr (1, o_Code I1 a1_0 h3 h5)), (h2, .inr (9, o_Section I2)), (h3, .inl (cA3, n3, .inl f3)), (h4, .inl (cA4, n4, .inl f4)), (h5, .inl (cA5, n5, .inl f5))]) (hS : va_S A s.heap H locs) (hv : v_Reader_readComma_39 I0 I1 I2 n3 f3 n4 f4 n5 f5 x2  Z) : W p l e (headSpec (Cond.code (⟨"NumberDress$Reader", "readComma", "(I)I"⟩ : MethodName) prog_9_method_18_code 3 (some .int) :: zT) { frames := 2, cells := 0, slots := 0, locals := 44 }).room s m args below meth c H locs 0 0 (MQ below (va_Qi Z (zB (dC, dI) zCl [(cA3, .int), (cA4, .char), (cA5, .int)] A (fun u : (Nat → Int32) × (Nat → Int32) × (Nat → Int32) × (Nat → Int32) => [(h0, .inr (8, o_Reader I0 h4 h1 h2)), (h1, .inr (1, o_Code u.1 a1_0 h3 h5)), (h2, .inr (9, o_Section u.2.1)), (h3, .inl (cA3, n3, .inl u.2.2.1)), (h4, .inl (cA4, n4, .inl f4)), (h5, .inl (cA5, n5, .inl u.2.2.2))])) A) args s 0 0 A) (F0 m 39 ls []) := by
  obtain ⟨hx, hb, hr, hml, hown, ht, hlocks⟩ := id hc
  unfold v_Reader_readComma_39 at hv
  refine lv_iload_n hx hb d_Reader_readComma_39 rfl (lv_at hl 1 rfl) ?_
  refine lv_iconst (v := (2 : Int32)) hx hb d_Reader_readComma_40 (by decide) ?_
  refine lv_icmp_eq (tgt := 50) hx hb d_Reader_readComma_41 (by decide) (fun c_1 => ?_) (fun c_1 => ?_)
  · have hv := hv.1 c_1
    exact b_Reader_readComma_50 hc hA hE  (lv_sub hl [0] rfl) hK hP hD hS hv
  · have hv := hv.2 c_1
    refine lv_iload_n hx hb d_Reader_readComma_44 rfl (lv_at hl 1 rfl) ?_
    refine lv_bipush (v := (6 : Int32)) hx hb d_Reader_readComma_45 (by decide) ?_
    refine lv_icmp_ne (tgt := 72) hx hb d_Reader_readComma_47 (by decide) (fun c_2 => ?_) (fun c_2 => ?_)
    · have hv := hv.1 c_2
      refine lv_iconst (v := (0 : Int32)) hx hb d_Reader_readComma_72 (by decide) ?_
      exact W.iret (v := (0 : Int32)) hx hb hr (fun t ht hW => ⟨⟨_, (I1, I2, f3, f5), rfl, hv, ⟨by rw [ht]; exact hP, va_K.moved hW.alike hK, hD⟩⟩, hS.F ht⟩) hS.2.2 d_Reader_readComma_73
    · have hv := hv.2 c_2
      exact b_Reader_readComma_50 hc hA hE  (lv_sub hl [0] rfl) hK hP hD hS hv
set_option maxHeartbeats 4000000 in
set_option maxRecDepth 100000 in
theorem b_Reader_readComma_20 {h0 : Nat} {h1 : Nat} {a1_0 : Nat} {h2 : Nat} {h3 : Nat} {cA3 : ClassId} {h4 : Nat} {cA4 : ClassId} {h5 : Nat} {cA5 : ClassId} {I0 : Nat → Int32} {I1 : Nat → Int32} {I2 : Nat → Int32} {n3 : Nat} {f3 : Nat → Int32} {n4 : Nat} {f4 : Nat → Int32} {n5 : Nat} {f5 : Nat → Int32} {x2 : Int32} {s0 : Int32}  {Z : Int32 → (Nat → Int32) × (Nat → Int32) × (Nat → Int32) × (Nat → Int32) → Prop} {H : Heap} {locs : List Loc} {ls : Array Slot} (hc : zC p s m args meth c prog_9_method_18_code (some .int) 3 "NumberDress$Reader") (hA : ∀ q : Nat, s.heap.size ≤ q → A q) (hE : zE gE A s) (hl : lv_has ls 3 [(0, .ref h0), (2, .int x2)]) (hK : va_K (dC, dI) zCl [(cA3, .int), (cA4, .char), (cA5, .int)] s) (hP : va_P (dC, dI) zCl [(h0, .inr (8, o_Reader I0 h4 h1 h2)), (h1, .inr (1, o_Code I1 a1_0 h3 h5)), (h2, .inr (9, o_Section I2)), (h3, .inl (cA3, n3, .inl f3)), (h4, .inl (cA4, n4, .inl f4)), (h5, .inl (cA5, n5, .inl f5))] H) (hD : va_D A [(h0, .inr (8, o_Reader I0 h4 h1 h2)), (h1, .inr (1, o_Code I1 a1_0 h3 h5)), (h2, .inr (9, o_Section I2)), (h3, .inl (cA3, n3, .inl f3)), (h4, .inl (cA4, n4, .inl f4)), (h5, .inl (cA5, n5, .inl f5))]) (hS : va_S A s.heap H locs) (hv : v_Reader_readComma_20 I0 I1 I2 n3 f3 n4 f4 n5 f5 x2 s0  Z) : W p l e (headSpec (Cond.code (⟨"NumberDress$Reader", "readComma", "(I)I"⟩ : MethodName) prog_9_method_18_code 3 (some .int) :: zT) { frames := 2, cells := 0, slots := 0, locals := 44 }).room s m args below meth c H locs 0 0 (MQ below (va_Qi Z (zB (dC, dI) zCl [(cA3, .int), (cA4, .char), (cA5, .int)] A (fun u : (Nat → Int32) × (Nat → Int32) × (Nat → Int32) × (Nat → Int32) => [(h0, .inr (8, o_Reader I0 h4 h1 h2)), (h1, .inr (1, o_Code u.1 a1_0 h3 h5)), (h2, .inr (9, o_Section u.2.1)), (h3, .inl (cA3, n3, .inl u.2.2.1)), (h4, .inl (cA4, n4, .inl f4)), (h5, .inl (cA5, n5, .inl u.2.2.2))])) A) args s 0 0 A) (F0 m 20 ls [.int s0]) := by
  obtain ⟨hx, hb, hr, hml, hown, ht, hlocks⟩ := id hc
  unfold v_Reader_readComma_20 at hv
  refine lv_if_eq (tgt := 39) hx hb d_Reader_readComma_20 (by decide) (fun c_1 => ?_) (fun c_1 => ?_)
  · have hv := hv.1 c_1
    exact b_Reader_readComma_39 hc hA hE  (lv_sub hl [0, 1] rfl) hK hP hD hS hv
  · have hv := hv.2 c_1
    refine lv_aload_n hx hb d_Reader_readComma_23 rfl (lv_at hl 0 rfl) ?_
    refine va_get (D := (dC, dI)) (ci := 8) (v := .ref h2) (C := "NumberDress$Reader") (T := T_Reader) (N := 5) hx hb ht zin_Reader hown hK hP 0 rfl rfl 3 (by decide) (ht _ zw_274) (fun _ h9 => h9) rfl d_Reader_readComma_24 ?_
    refine lv_iconst (v := (1 : Int32)) hx hb d_Reader_readComma_27 (by decide) ?_
    refine va_put (D := (dC, dI)) (ci := 9) (v := .int (1 : Int32)) (ty := .boolean) (C := "NumberDress$Section") (T := T_Section) (N := 15) hx hb ht zin_Section ty_Section tyok_Section nm_Section hown hK hP hD hS 2 rfl rfl 6 (by decide) (ht _ zw_185) (fun _ h9 => h9) rfl (by decide +kernel) (by decide) (by decide) (Nat.le_of_ble_eq_true rfl) d_Reader_readComma_28 (fun H locs hP hD hS => ?_)
    have hP : va_P (dC, dI) zCl [(h0, .inr (8, o_Reader I0 h4 h1 h2)), (h1, .inr (1, o_Code I1 a1_0 h3 h5)), (h2, .inr (9, o_Section (zu I2 6 (1 : Int32)))), (h3, .inl (cA3, n3, .inl f3)), (h4, .inl (cA4, n4, .inl f4)), (h5, .inl (cA5, n5, .inl f5))] H := hP
    have hD : va_D A [(h0, .inr (8, o_Reader I0 h4 h1 h2)), (h1, .inr (1, o_Code I1 a1_0 h3 h5)), (h2, .inr (9, o_Section (zu I2 6 (1 : Int32)))), (h3, .inl (cA3, n3, .inl f3)), (h4, .inl (cA4, n4, .inl f4)), (h5, .inl (cA5, n5, .inl f5))] := hD
    refine lv_aload_n hx hb d_Reader_readComma_31 rfl (lv_at hl 0 rfl) ?_
    refine lv_iconst (v := (5 : Int32)) hx hb d_Reader_readComma_32 (by decide) ?_
    refine lv_bipush (v := (44 : Int32)) hx hb d_Reader_readComma_33 (by decide) ?_
    refine z_calli (wc := [(h0, .inr (8, o_Reader I0 h4 h1 h2)), (h1, .inr (1, o_Code I1 a1_0 h3 h5)), (h3, .inl (cA3, n3, .inl f3)), (h5, .inl (cA5, n5, .inl f5))]) (wr := [(h2, .inr (9, o_Section (zu I2 6 (1 : Int32)))), (h4, .inl (cA4, n4, .inl f4))]) [0, 1, 3, 5] [2, 4] (va_runV (As := [.int (5 : Int32), .int (44 : Int32)]) (rest := []) ⟨hx, hb, hml, hown, ht⟩ (m_Reader_addOne l dC dI hv) ⟨(callB_of 2 ht (zG_in zi_Reader_addOne) rfl rfl rfl (ht _ zw_113) (ht _ zw_722) zh_Reader_addOne ⟨Nat.le_of_ble_eq_true rfl, Nat.le_of_ble_eq_true rfl⟩), (ht _ zw_724), (ht _ zw_17)⟩ ⟨zPc_blind, va_recv hK hP (ci := 8) (q0 := 0) rfl rfl, zPc_pre hP hK hD hS hA hE [0, 1, 3, 5] [0, 2] rfl rfl (by decide) rfl⟩ rfl rfl hl.1 rfl (lv_room (Nat.le_of_ble_eq_true rfl)) d_Reader_readComma_35 ⟨Nat.le_of_ble_eq_true rfl, Nat.le_of_ble_eq_true rfl⟩) hP hD hS hA rfl rfl (by decide) (by decide) (fun r u H locs hv hP hD hS => ?_)
    have hP : va_P (dC, dI) zCl [(h0, .inr (8, o_Reader I0 h4 h1 h2)), (h1, .inr (1, o_Code u.1 a1_0 h3 h5)), (h2, .inr (9, o_Section (zu I2 6 (1 : Int32)))), (h3, .inl (cA3, n3, .inl u.2.1)), (h4, .inl (cA4, n4, .inl f4)), (h5, .inl (cA5, n5, .inl u.2.2))] H := hP.sub [2, 3, 0, 4, 1, 5] rfl
    have hD : va_D A [(h0, .inr (8, o_Reader I0 h4 h1 h2)), (h1, .inr (1, o_Code u.1 a1_0 h3 h5)), (h2, .inr (9, o_Section (zu I2 6 (1 : Int32)))), (h3, .inl (cA3, n3, .inl u.2.1)), (h4, .inl (cA4, n4, .inl f4)), (h5, .inl (cA5, n5, .inl u.2.2))] := hD.sub [2, 3, 0, 4, 1, 5] (by decide) rfl
    exact b_Reader_readComma_38 hc hA hE  (lv_sub hl [] rfl) hK hP hD hS hv
set_option maxHeartbeats 4000000 in
set_option maxRecDepth 100000 in
theorem b_Reader_readComma_17 {h0 : Nat} {h1 : Nat} {a1_0 : Nat} {h2 : Nat} {h3 : Nat} {cA3 : ClassId} {h4 : Nat} {cA4 : ClassId} {h5 : Nat} {cA5 : ClassId} {I0 : Nat → Int32} {I1 : Nat → Int32} {I2 : Nat → Int32} {n3 : Nat} {f3 : Nat → Int32} {n4 : Nat} {f4 : Nat → Int32} {n5 : Nat} {f5 : Nat → Int32} {x2 : Int32} {s0 : Int32}  {Z : Int32 → (Nat → Int32) × (Nat → Int32) × (Nat → Int32) × (Nat → Int32) → Prop} {H : Heap} {locs : List Loc} {ls : Array Slot} (hc : zC p s m args meth c prog_9_method_18_code (some .int) 3 "NumberDress$Reader") (hA : ∀ q : Nat, s.heap.size ≤ q → A q) (hE : zE gE A s) (hl : lv_has ls 3 [(0, .ref h0), (2, .int x2)]) (hK : va_K (dC, dI) zCl [(cA3, .int), (cA4, .char), (cA5, .int)] s) (hP : va_P (dC, dI) zCl [(h0, .inr (8, o_Reader I0 h4 h1 h2)), (h1, .inr (1, o_Code I1 a1_0 h3 h5)), (h2, .inr (9, o_Section I2)), (h3, .inl (cA3, n3, .inl f3)), (h4, .inl (cA4, n4, .inl f4)), (h5, .inl (cA5, n5, .inl f5))] H) (hD : va_D A [(h0, .inr (8, o_Reader I0 h4 h1 h2)), (h1, .inr (1, o_Code I1 a1_0 h3 h5)), (h2, .inr (9, o_Section I2)), (h3, .inl (cA3, n3, .inl f3)), (h4, .inl (cA4, n4, .inl f4)), (h5, .inl (cA5, n5, .inl f5))]) (hS : va_S A s.heap H locs) (hv : v_Reader_readComma_17 I0 I1 I2 n3 f3 n4 f4 n5 f5 x2 s0  Z) : W p l e (headSpec (Cond.code (⟨"NumberDress$Reader", "readComma", "(I)I"⟩ : MethodName) prog_9_method_18_code 3 (some .int) :: zT) { frames := 2, cells := 0, slots := 0, locals := 44 }).room s m args below meth c H locs 0 0 (MQ below (va_Qi Z (zB (dC, dI) zCl [(cA3, .int), (cA4, .char), (cA5, .int)] A (fun u : (Nat → Int32) × (Nat → Int32) × (Nat → Int32) × (Nat → Int32) => [(h0, .inr (8, o_Reader I0 h4 h1 h2)), (h1, .inr (1, o_Code u.1 a1_0 h3 h5)), (h2, .inr (9, o_Section u.2.1)), (h3, .inl (cA3, n3, .inl u.2.2.1)), (h4, .inl (cA4, n4, .inl f4)), (h5, .inl (cA5, n5, .inl u.2.2.2))])) A) args s 0 0 A) (F0 m 17 ls [.int s0]) := by
  obtain ⟨hx, hb, hr, hml, hown, ht, hlocks⟩ := id hc
  unfold v_Reader_readComma_17 at hv
  refine z_calli (wc := []) (wr := [(h0, .inr (8, o_Reader I0 h4 h1 h2)), (h1, .inr (1, o_Code I1 a1_0 h3 h5)), (h2, .inr (9, o_Section I2)), (h3, .inl (cA3, n3, .inl f3)), (h4, .inl (cA4, n4, .inl f4)), (h5, .inl (cA5, n5, .inl f5))]) [] [0, 1, 2, 3, 4, 5] (va_runS (As := [.int s0]) (rest := []) ⟨hx, hb, hml, hown, ht⟩ (m_Reader_isPlace l dC dI hv) ⟨(callB_of 1 ht (zG_in zi_Reader_isPlace) rfl rfl rfl (ht _ zw_113) (ht _ zw_678) zh_Reader_isPlace ⟨Nat.le_of_ble_eq_true rfl, Nat.le_of_ble_eq_true rfl⟩), (ht _ zw_679)⟩ ⟨zPc_blind, zPc_pre hP hK hD hS hA hE [] [] rfl rfl (by decide) rfl⟩ rfl rfl hl.1 rfl (lv_room (Nat.le_of_ble_eq_true rfl)) d_Reader_readComma_17 ⟨Nat.le_of_ble_eq_true rfl, Nat.le_of_ble_eq_true rfl⟩) hP hD hS hA rfl rfl (by decide) (by decide) (fun r u H locs hv hP hD hS => ?_)
  have hP : va_P (dC, dI) zCl [(h0, .inr (8, o_Reader I0 h4 h1 h2)), (h1, .inr (1, o_Code I1 a1_0 h3 h5)), (h2, .inr (9, o_Section I2)), (h3, .inl (cA3, n3, .inl f3)), (h4, .inl (cA4, n4, .inl f4)), (h5, .inl (cA5, n5, .inl f5))] H := hP.sub [0, 1, 2, 3, 4, 5] rfl
  have hD : va_D A [(h0, .inr (8, o_Reader I0 h4 h1 h2)), (h1, .inr (1, o_Code I1 a1_0 h3 h5)), (h2, .inr (9, o_Section I2)), (h3, .inl (cA3, n3, .inl f3)), (h4, .inl (cA4, n4, .inl f4)), (h5, .inl (cA5, n5, .inl f5))] := hD.sub [0, 1, 2, 3, 4, 5] (by decide) rfl
  exact b_Reader_readComma_20 hc hA hE  (lv_sub hl [0, 1] rfl) hK hP hD hS hv
set_option maxHeartbeats 4000000 in
set_option maxRecDepth 100000 in
theorem b_Reader_readComma_4 {h0 : Nat} {h1 : Nat} {a1_0 : Nat} {h2 : Nat} {h3 : Nat} {cA3 : ClassId} {h4 : Nat} {cA4 : ClassId} {h5 : Nat} {cA5 : ClassId} {I0 : Nat → Int32} {I1 : Nat → Int32} {I2 : Nat → Int32} {n3 : Nat} {f3 : Nat → Int32} {n4 : Nat} {f4 : Nat → Int32} {n5 : Nat} {f5 : Nat → Int32} {x1 : Int32} {s0 : Int32}  {Z : Int32 → (Nat → Int32) × (Nat → Int32) × (Nat → Int32) × (Nat → Int32) → Prop} {H : Heap} {locs : List Loc} {ls : Array Slot} (hc : zC p s m args meth c prog_9_method_18_code (some .int) 3 "NumberDress$Reader") (hA : ∀ q : Nat, s.heap.size ≤ q → A q) (hE : zE gE A s) (hl : lv_has ls 3 [(0, .ref h0), (1, .int x1)]) (hK : va_K (dC, dI) zCl [(cA3, .int), (cA4, .char), (cA5, .int)] s) (hP : va_P (dC, dI) zCl [(h0, .inr (8, o_Reader I0 h4 h1 h2)), (h1, .inr (1, o_Code I1 a1_0 h3 h5)), (h2, .inr (9, o_Section I2)), (h3, .inl (cA3, n3, .inl f3)), (h4, .inl (cA4, n4, .inl f4)), (h5, .inl (cA5, n5, .inl f5))] H) (hD : va_D A [(h0, .inr (8, o_Reader I0 h4 h1 h2)), (h1, .inr (1, o_Code I1 a1_0 h3 h5)), (h2, .inr (9, o_Section I2)), (h3, .inl (cA3, n3, .inl f3)), (h4, .inl (cA4, n4, .inl f4)), (h5, .inl (cA5, n5, .inl f5))]) (hS : va_S A s.heap H locs) (hv : v_Reader_readComma_4 I0 I1 I2 n3 f3 n4 f4 n5 f5 x1 s0  Z) : W p l e (headSpec (Cond.code (⟨"NumberDress$Reader", "readComma", "(I)I"⟩ : MethodName) prog_9_method_18_code 3 (some .int) :: zT) { frames := 2, cells := 0, slots := 0, locals := 44 }).room s m args below meth c H locs 0 0 (MQ below (va_Qi Z (zB (dC, dI) zCl [(cA3, .int), (cA4, .char), (cA5, .int)] A (fun u : (Nat → Int32) × (Nat → Int32) × (Nat → Int32) × (Nat → Int32) => [(h0, .inr (8, o_Reader I0 h4 h1 h2)), (h1, .inr (1, o_Code u.1 a1_0 h3 h5)), (h2, .inr (9, o_Section u.2.1)), (h3, .inl (cA3, n3, .inl u.2.2.1)), (h4, .inl (cA4, n4, .inl f4)), (h5, .inl (cA5, n5, .inl u.2.2.2))])) A) args s 0 0 A) (F0 m 4 ls [.int s0]) := by
  obtain ⟨hx, hb, hr, hml, hown, ht, hlocks⟩ := id hc
  unfold v_Reader_readComma_4 at hv
  refine lv_istore_n (lv' := [(2, .int s0), (0, .ref h0), (1, .int x1)]) hx hb d_Reader_readComma_4 rfl hl (by decide) rfl (fun ls hl => ?_)
  refine lv_iload_n hx hb d_Reader_readComma_5 rfl (lv_at hl 0 rfl) ?_
  refine lv_iconst (v := (2 : Int32)) hx hb d_Reader_readComma_6 (by decide) ?_
  refine lv_icmp_ne (tgt := 39) hx hb d_Reader_readComma_7 (by decide) (fun c_1 => ?_) (fun c_1 => ?_)
  · have hv := hv.1 c_1
    exact b_Reader_readComma_39 hc hA hE  (lv_sub hl [1, 0] rfl) hK hP hD hS hv
  · have hv := hv.2 c_1
    refine lv_aload_n hx hb d_Reader_readComma_10 rfl (lv_at hl 1 rfl) ?_
    refine lv_iload_n hx hb d_Reader_readComma_11 rfl (lv_at hl 2 rfl) ?_
    refine lv_iconst (v := (1 : Int32)) hx hb d_Reader_readComma_12 (by decide) ?_
    refine lv_iadd hx hb d_Reader_readComma_13 ?_
    refine z_calli (wc := [(h0, .inr (8, o_Reader I0 h4 h1 h2)), (h4, .inl (cA4, n4, .inl f4))]) (wr := [(h1, .inr (1, o_Code I1 a1_0 h3 h5)), (h2, .inr (9, o_Section I2)), (h3, .inl (cA3, n3, .inl f3)), (h5, .inl (cA5, n5, .inl f5))]) [0, 4] [1, 2, 3, 5] (va_runV (As := [.int (x1 + (1 : Int32))]) (rest := []) ⟨hx, hb, hml, hown, ht⟩ (m_Reader_sign l dC dI hv) ⟨(callB_of 1 ht (zG_in zi_Reader_sign) rfl rfl rfl (ht _ zw_113) (ht _ zw_512) zh_Reader_sign ⟨Nat.le_of_ble_eq_true rfl, Nat.le_of_ble_eq_true rfl⟩), (ht _ zw_514), (ht _ zw_1)⟩ ⟨zPc_blind, va_recv hK hP (ci := 8) (q0 := 0) rfl rfl, zPc_pre hP hK hD hS hA hE [0, 4] [1] rfl rfl (by decide) rfl⟩ rfl rfl hl.1 rfl (lv_room (Nat.le_of_ble_eq_true rfl)) d_Reader_readComma_14 ⟨Nat.le_of_ble_eq_true rfl, Nat.le_of_ble_eq_true rfl⟩) hP hD hS hA rfl rfl (by decide) (by decide) (fun r u H locs hv hP hD hS => ?_)
    have hP : va_P (dC, dI) zCl [(h0, .inr (8, o_Reader I0 h4 h1 h2)), (h1, .inr (1, o_Code I1 a1_0 h3 h5)), (h2, .inr (9, o_Section I2)), (h3, .inl (cA3, n3, .inl f3)), (h4, .inl (cA4, n4, .inl f4)), (h5, .inl (cA5, n5, .inl f5))] H := hP.sub [4, 0, 1, 2, 5, 3] rfl
    have hD : va_D A [(h0, .inr (8, o_Reader I0 h4 h1 h2)), (h1, .inr (1, o_Code I1 a1_0 h3 h5)), (h2, .inr (9, o_Section I2)), (h3, .inl (cA3, n3, .inl f3)), (h4, .inl (cA4, n4, .inl f4)), (h5, .inl (cA5, n5, .inl f5))] := hD.sub [4, 0, 1, 2, 5, 3] (by decide) rfl
    exact b_Reader_readComma_17 hc hA hE  (lv_sub hl [1, 0] rfl) hK hP hD hS hv
set_option maxHeartbeats 4000000 in
set_option maxRecDepth 100000 in
theorem b_Reader_readComma_0 {h0 : Nat} {h1 : Nat} {a1_0 : Nat} {h2 : Nat} {h3 : Nat} {cA3 : ClassId} {h4 : Nat} {cA4 : ClassId} {h5 : Nat} {cA5 : ClassId} {I0 : Nat → Int32} {I1 : Nat → Int32} {I2 : Nat → Int32} {n3 : Nat} {f3 : Nat → Int32} {n4 : Nat} {f4 : Nat → Int32} {n5 : Nat} {f5 : Nat → Int32} {x1 : Int32}  {Z : Int32 → (Nat → Int32) × (Nat → Int32) × (Nat → Int32) × (Nat → Int32) → Prop} {H : Heap} {locs : List Loc} {ls : Array Slot} (hc : zC p s m args meth c prog_9_method_18_code (some .int) 3 "NumberDress$Reader") (hA : ∀ q : Nat, s.heap.size ≤ q → A q) (hE : zE gE A s) (hl : lv_has ls 3 [(0, .ref h0), (1, .int x1)]) (hK : va_K (dC, dI) zCl [(cA3, .int), (cA4, .char), (cA5, .int)] s) (hP : va_P (dC, dI) zCl [(h0, .inr (8, o_Reader I0 h4 h1 h2)), (h1, .inr (1, o_Code I1 a1_0 h3 h5)), (h2, .inr (9, o_Section I2)), (h3, .inl (cA3, n3, .inl f3)), (h4, .inl (cA4, n4, .inl f4)), (h5, .inl (cA5, n5, .inl f5))] H) (hD : va_D A [(h0, .inr (8, o_Reader I0 h4 h1 h2)), (h1, .inr (1, o_Code I1 a1_0 h3 h5)), (h2, .inr (9, o_Section I2)), (h3, .inl (cA3, n3, .inl f3)), (h4, .inl (cA4, n4, .inl f4)), (h5, .inl (cA5, n5, .inl f5))]) (hS : va_S A s.heap H locs) (hv : v_Reader_readComma_0 I0 I1 I2 n3 f3 n4 f4 n5 f5 x1  Z) : W p l e (headSpec (Cond.code (⟨"NumberDress$Reader", "readComma", "(I)I"⟩ : MethodName) prog_9_method_18_code 3 (some .int) :: zT) { frames := 2, cells := 0, slots := 0, locals := 44 }).room s m args below meth c H locs 0 0 (MQ below (va_Qi Z (zB (dC, dI) zCl [(cA3, .int), (cA4, .char), (cA5, .int)] A (fun u : (Nat → Int32) × (Nat → Int32) × (Nat → Int32) × (Nat → Int32) => [(h0, .inr (8, o_Reader I0 h4 h1 h2)), (h1, .inr (1, o_Code u.1 a1_0 h3 h5)), (h2, .inr (9, o_Section u.2.1)), (h3, .inl (cA3, n3, .inl u.2.2.1)), (h4, .inl (cA4, n4, .inl f4)), (h5, .inl (cA5, n5, .inl u.2.2.2))])) A) args s 0 0 A) (F0 m 0 ls []) := by
  obtain ⟨hx, hb, hr, hml, hown, ht, hlocks⟩ := id hc
  unfold v_Reader_readComma_0 at hv
  refine lv_aload_n hx hb d_Reader_readComma_0 rfl (lv_at hl 0 rfl) ?_
  refine z_calli (wc := [(h0, .inr (8, o_Reader I0 h4 h1 h2)), (h1, .inr (1, o_Code I1 a1_0 h3 h5)), (h2, .inr (9, o_Section I2)), (h3, .inl (cA3, n3, .inl f3))]) (wr := [(h4, .inl (cA4, n4, .inl f4)), (h5, .inl (cA5, n5, .inl f5))]) [0, 1, 2, 3] [4, 5] (va_runV (As := []) (rest := []) ⟨hx, hb, hml, hown, ht⟩ (m_Reader_kindBefore l dC dI hv) ⟨(callB_of 0 ht (zG_in zi_Reader_kindBefore) rfl rfl rfl (ht _ zw_113) (ht _ zw_734) zh_Reader_kindBefore ⟨Nat.le_of_ble_eq_true rfl, Nat.le_of_ble_eq_true rfl⟩), (ht _ zw_736), (ht _ zw_20)⟩ ⟨zPc_blind, va_recv hK hP (ci := 8) (q0 := 0) rfl rfl, zPc_pre hP hK hD hS hA hE [0, 1, 2, 3] [0] rfl rfl (by decide) rfl⟩ rfl rfl hl.1 rfl (lv_room (Nat.le_of_ble_eq_true rfl)) d_Reader_readComma_1 ⟨Nat.le_of_ble_eq_true rfl, Nat.le_of_ble_eq_true rfl⟩) hP hD hS hA rfl rfl (by decide) (by decide) (fun r u H locs hv hP hD hS => ?_)
  have hP : va_P (dC, dI) zCl [(h0, .inr (8, o_Reader I0 h4 h1 h2)), (h1, .inr (1, o_Code I1 a1_0 h3 h5)), (h2, .inr (9, o_Section I2)), (h3, .inl (cA3, n3, .inl f3)), (h4, .inl (cA4, n4, .inl f4)), (h5, .inl (cA5, n5, .inl f5))] H := hP.sub [2, 3, 4, 5, 0, 1] rfl
  have hD : va_D A [(h0, .inr (8, o_Reader I0 h4 h1 h2)), (h1, .inr (1, o_Code I1 a1_0 h3 h5)), (h2, .inr (9, o_Section I2)), (h3, .inl (cA3, n3, .inl f3)), (h4, .inl (cA4, n4, .inl f4)), (h5, .inl (cA5, n5, .inl f5))] := hD.sub [2, 3, 4, 5, 0, 1] (by decide) rfl
  exact b_Reader_readComma_4 hc hA hE  (lv_sub hl [0, 1] rfl) hK hP hD hS hv
theorem zi_Reader_readComma : Cond.code (⟨"NumberDress$Reader", "readComma", "(I)I"⟩ : MethodName) prog_9_method_18_code 3 (some .int) ∈ zT := zw_733
theorem zh_Reader_readComma : (((⟨"NumberDress$Reader", "readComma", "(I)I"⟩ : MethodName)).cls ≠ "java/lang/invoke/MethodHandle" ∧ ((⟨"NumberDress$Reader", "readComma", "(I)I"⟩ : MethodName)).cls ≠ "java/lang/invoke/VarHandle" ∧ (parseMethodDescriptor ((⟨"NumberDress$Reader", "readComma", "(I)I"⟩ : MethodName)).desc).map (fun d => d.parameters.length) = some 1) := by decide +kernel
set_option maxHeartbeats 4000000 in
set_option maxRecDepth 100000 in
theorem m_Reader_readComma (l : Launch) (dC : Nat → ClassId) (dI : Nat → Nat → Nat) {gE : zG} {h0 : Nat} {h1 : Nat} {a1_0 : Nat} {h2 : Nat} {h3 : Nat} {cA3 : ClassId} {h4 : Nat} {cA4 : ClassId} {h5 : Nat} {cA5 : ClassId} {I0 : Nat → Int32} {I1 : Nat → Int32} {I2 : Nat → Int32} {n3 : Nat} {f3 : Nat → Int32} {n4 : Nat} {f4 : Nat → Int32} {n5 : Nat} {f5 : Nat → Int32} {x1 : Int32} {sz : Nat} {Z : Int32 → (Nat → Int32) × (Nat → Int32) × (Nat → Int32) × (Nat → Int32) → Prop} (hv : v_Reader_readComma_0 I0 I1 I2 n3 f3 n4 f4 n5 f5 x1 Z) : Met l (⟨"NumberDress$Reader", "readComma", "(I)I"⟩ : MethodName) (Cond.code (⟨"NumberDress$Reader", "readComma", "(I)I"⟩ : MethodName) prog_9_method_18_code 3 (some .int) :: zT) { frames := 2, cells := 0, slots := 0, locals := 44 } (zPc gE (dC, dI) zCl [(cA3, .int), (cA4, .char), (cA5, .int)] [.ref h0, .int x1] sz [(h0, .inr (8, o_Reader I0 h4 h1 h2)), (h1, .inr (1, o_Code I1 a1_0 h3 h5)), (h2, .inr (9, o_Section I2)), (h3, .inl (cA3, n3, .inl f3)), (h4, .inl (cA4, n4, .inl f4)), (h5, .inl (cA5, n5, .inl f5))]) (va_Qi Z (zB (dC, dI) zCl [(cA3, .int), (cA4, .char), (cA5, .int)] (va_A [(h0, .inr (8, o_Reader I0 h4 h1 h2)), (h1, .inr (1, o_Code I1 a1_0 h3 h5)), (h2, .inr (9, o_Section I2)), (h3, .inl (cA3, n3, .inl f3)), (h4, .inl (cA4, n4, .inl f4)), (h5, .inl (cA5, n5, .inl f5))] sz) (fun u : (Nat → Int32) × (Nat → Int32) × (Nat → Int32) × (Nat → Int32) => [(h0, .inr (8, o_Reader I0 h4 h1 h2)), (h1, .inr (1, o_Code u.1 a1_0 h3 h5)), (h2, .inr (9, o_Section u.2.1)), (h3, .inl (cA3, n3, .inl u.2.2.1)), (h4, .inl (cA4, n4, .inl f4)), (h5, .inl (cA5, n5, .inl u.2.2.2))])) (va_A [(h0, .inr (8, o_Reader I0 h4 h1 h2)), (h1, .inr (1, o_Code I1 a1_0 h3 h5)), (h2, .inr (9, o_Section I2)), (h3, .inl (cA3, n3, .inl f3)), (h4, .inl (cA4, n4, .inl f4)), (h5, .inl (cA5, n5, .inl f5))] sz)) 0 0 (va_A [(h0, .inr (8, o_Reader I0 h4 h1 h2)), (h1, .inr (1, o_Code I1 a1_0 h3 h5)), (h2, .inr (9, o_Section I2)), (h3, .inl (cA3, n3, .inl f3)), (h4, .inl (cA4, n4, .inl f4)), (h5, .inl (cA5, n5, .inl f5))] sz) := by
  refine Met.ofW (cc := prog_9_method_18_code) (maxL := 3) (ret := (some .int)) (by decide +kernel) rfl ?_
  intro p e s m args below meth c s₁ B hml hp
  obtain ⟨rfl, hsz, hP, hK, hD0, hE⟩ := hp
  have hts := atoms_spec (ws := (Cond.code (⟨"NumberDress$Reader", "readComma", "(I)I"⟩ : MethodName) prog_9_method_18_code 3 (some .int) :: zT)) B.pre
  have hown : s.vm.findClass "NumberDress$Reader" = some m.cls := findClass_of_methodNamed B.named
  have hc : zC p s m _ meth c prog_9_method_18_code (some .int) 3 "NumberDress$Reader" := ⟨B.exec, B.bytes, B.returns, hml, hown, fun w h => hts w (List.mem_cons_of_mem _ h), B.notSynchronized⟩
  subst hsz
  have hD := hD0.self (sz := s.heap.size)
  generalize hAe : va_A [(h0, .inr (8, o_Reader I0 h4 h1 h2)), (h1, .inr (1, o_Code I1 a1_0 h3 h5)), (h2, .inr (9, o_Section I2)), (h3, .inl (cA3, n3, .inl f3)), (h4, .inl (cA4, n4, .inl f4)), (h5, .inl (cA5, n5, .inl f5))] s.heap.size = A at hD hE ⊢
  have hA : ∀ q : Nat, s.heap.size ≤ q → A q := fun q h => by rw [← hAe]; exact Or.inr h
  have hl := lv_entry ([.ref h0, .int x1]) (n := 3) (Nat.le_of_ble_eq_true rfl)
  rw [lg_entry_eq]
  exact b_Reader_readComma_0 hc hA hE hl hK hP hD va_S.rf hv
theorem d_Reader_isDigit_0 : decode prog_9_method_41_code 0 = .ok (.iload_n 0, 1) := by decide +kernel
theorem d_Reader_isDigit_1 : decode prog_9_method_41_code 1 = .ok (.bipush 48, 2) := by decide +kernel
theorem d_Reader_isDigit_3 : decode prog_9_method_41_code 3 = .ok (.if_icmp .lt 13, 3) := by decide +kernel
theorem d_Reader_isDigit_6 : decode prog_9_method_41_code 6 = .ok (.iload_n 0, 1) := by decide +kernel
theorem d_Reader_isDigit_7 : decode prog_9_method_41_code 7 = .ok (.bipush 57, 2) := by decide +kernel
theorem d_Reader_isDigit_9 : decode prog_9_method_41_code 9 = .ok (.if_icmp .gt 7, 3) := by decide +kernel
theorem d_Reader_isDigit_12 : decode prog_9_method_41_code 12 = .ok (.iconst 1, 1) := by decide +kernel
theorem d_Reader_isDigit_13 : decode prog_9_method_41_code 13 = .ok (.goto 4, 3) := by decide +kernel
theorem d_Reader_isDigit_16 : decode prog_9_method_41_code 16 = .ok (.iconst 0, 1) := by decide +kernel
theorem d_Reader_isDigit_17 : decode prog_9_method_41_code 17 = .ok (.ireturn, 1) := by decide +kernel
set_option maxHeartbeats 4000000 in
set_option maxRecDepth 100000 in
theorem b_Reader_isDigit_0  {x0 : Int32}  {Z : Int32 → Unit → Prop} {H : Heap} {locs : List Loc} {ls : Array Slot} (hc : zC p s m args meth c prog_9_method_41_code (some .boolean) 1 "NumberDress$Reader") (hA : ∀ q : Nat, s.heap.size ≤ q → A q) (hE : zE gE A s) (hl : lv_has ls 1 [(0, .int x0)]) (hK : va_K (dC, dI) zCl [] s) (hP : va_P (dC, dI) zCl [] H) (hD : va_D A []) (hS : va_S A s.heap H locs) (hv : v_Reader_isDigit_0 x0  Z) : W p l e (headSpec (Cond.code (⟨"NumberDress$Reader", "isDigit", "(C)Z"⟩ : MethodName) prog_9_method_41_code 1 (some .boolean) :: zT) { frames := 0, cells := 0, slots := 0, locals := 0 }).room s m args below meth c H locs 0 0 (MQ below (va_Qi Z (zB (dC, dI) zCl [] A (fun u : Unit => [])) A) args s 0 0 A) (F0 m 0 ls []) := by
  obtain ⟨hx, hb, hr, hml, hown, ht, hlocks⟩ := id hc
  unfold v_Reader_isDigit_0 at hv
  refine lv_iload_n hx hb d_Reader_isDigit_0 rfl (lv_at hl 0 rfl) ?_
  refine lv_bipush (v := (48 : Int32)) hx hb d_Reader_isDigit_1 (by decide) ?_
  refine lv_icmp_lt (tgt := 16) hx hb d_Reader_isDigit_3 (by decide) (fun c_1 => ?_) (fun c_1 => ?_)
  · have hv := hv.1 c_1
    refine lv_iconst (v := (0 : Int32)) hx hb d_Reader_isDigit_16 (by decide) ?_
    exact W.zret (v := (0 : Int32)) hx hb hr (by decide) (fun t ht hW => ⟨⟨_, (), rfl, hv, ⟨by rw [ht]; exact hP, va_K.moved hW.alike hK, hD⟩⟩, hS.F ht⟩) hS.2.2 d_Reader_isDigit_17
  · have hv := hv.2 c_1
    refine lv_iload_n hx hb d_Reader_isDigit_6 rfl (lv_at hl 0 rfl) ?_
    refine lv_bipush (v := (57 : Int32)) hx hb d_Reader_isDigit_7 (by decide) ?_
    refine lv_icmp_gt (tgt := 16) hx hb d_Reader_isDigit_9 (by decide) (fun c_2 => ?_) (fun c_2 => ?_)
    · have hv := hv.1 c_2
      refine lv_iconst (v := (0 : Int32)) hx hb d_Reader_isDigit_16 (by decide) ?_
      exact W.zret (v := (0 : Int32)) hx hb hr (by decide) (fun t ht hW => ⟨⟨_, (), rfl, hv, ⟨by rw [ht]; exact hP, va_K.moved hW.alike hK, hD⟩⟩, hS.F ht⟩) hS.2.2 d_Reader_isDigit_17
    · have hv := hv.2 c_2
      refine lv_iconst (v := (1 : Int32)) hx hb d_Reader_isDigit_12 (by decide) ?_
      refine lv_goto (tgt := 17) hx hb d_Reader_isDigit_13 (by decide) ?_
      exact W.zret (v := (1 : Int32)) hx hb hr (by decide) (fun t ht hW => ⟨⟨_, (), rfl, hv, ⟨by rw [ht]; exact hP, va_K.moved hW.alike hK, hD⟩⟩, hS.F ht⟩) hS.2.2 d_Reader_isDigit_17
theorem zi_Reader_isDigit : Cond.code (⟨"NumberDress$Reader", "isDigit", "(C)Z"⟩ : MethodName) prog_9_method_41_code 1 (some .boolean) ∈ zT := zw_764
theorem zh_Reader_isDigit : (((⟨"NumberDress$Reader", "isDigit", "(C)Z"⟩ : MethodName)).cls ≠ "java/lang/invoke/MethodHandle" ∧ ((⟨"NumberDress$Reader", "isDigit", "(C)Z"⟩ : MethodName)).cls ≠ "java/lang/invoke/VarHandle" ∧ (parseMethodDescriptor ((⟨"NumberDress$Reader", "isDigit", "(C)Z"⟩ : MethodName)).desc).map (fun d => d.parameters.length) = some 1) := by decide +kernel
set_option maxHeartbeats 4000000 in
set_option maxRecDepth 100000 in
theorem m_Reader_isDigit (l : Launch) (dC : Nat → ClassId) (dI : Nat → Nat → Nat) {gE : zG}  {x0 : Int32} {sz : Nat} {Z : Int32 → Unit → Prop} (hv : v_Reader_isDigit_0 x0 Z) : Met l (⟨"NumberDress$Reader", "isDigit", "(C)Z"⟩ : MethodName) (Cond.code (⟨"NumberDress$Reader", "isDigit", "(C)Z"⟩ : MethodName) prog_9_method_41_code 1 (some .boolean) :: zT) { frames := 0, cells := 0, slots := 0, locals := 0 } (zPc gE (dC, dI) zCl [] [.int x0] sz []) (va_Qi Z (zB (dC, dI) zCl [] (va_A [] sz) (fun u : Unit => [])) (va_A [] sz)) 0 0 (va_A [] sz) := by
  refine Met.ofW (cc := prog_9_method_41_code) (maxL := 1) (ret := (some .boolean)) (by decide +kernel) rfl ?_
  intro p e s m args below meth c s₁ B hml hp
  obtain ⟨rfl, hsz, hP, hK, hD0, hE⟩ := hp
  have hts := atoms_spec (ws := (Cond.code (⟨"NumberDress$Reader", "isDigit", "(C)Z"⟩ : MethodName) prog_9_method_41_code 1 (some .boolean) :: zT)) B.pre
  have hown : s.vm.findClass "NumberDress$Reader" = some m.cls := findClass_of_methodNamed B.named
  have hc : zC p s m _ meth c prog_9_method_41_code (some .boolean) 1 "NumberDress$Reader" := ⟨B.exec, B.bytes, B.returns, hml, hown, fun w h => hts w (List.mem_cons_of_mem _ h), B.notSynchronized⟩
  subst hsz
  have hD := hD0.self (sz := s.heap.size)
  generalize hAe : va_A [] s.heap.size = A at hD hE ⊢
  have hA : ∀ q : Nat, s.heap.size ≤ q → A q := fun q h => by rw [← hAe]; exact Or.inr h
  have hl := lv_entry ([.int x0]) (n := 1) (Nat.le_of_ble_eq_true rfl)
  rw [lg_entry_eq]
  exact b_Reader_isDigit_0 hc hA hE hl hK hP hD va_S.rf hv
theorem d_Reader_digitsFrom_0 : decode prog_9_method_23_code 0 = .ok (.iconst 0, 1) := by decide +kernel
theorem d_Reader_digitsFrom_1 : decode prog_9_method_23_code 1 = .ok (.istore_n 2, 1) := by decide +kernel
theorem d_Reader_digitsFrom_2 : decode prog_9_method_23_code 2 = .ok (.iload_n 2, 1) := by decide +kernel
theorem d_Reader_digitsFrom_3 : decode prog_9_method_23_code 3 = .ok (.iconst 3, 1) := by decide +kernel
theorem d_Reader_digitsFrom_4 : decode prog_9_method_23_code 4 = .ok (.if_icmp .ge 32, 3) := by decide +kernel
theorem d_Reader_digitsFrom_7 : decode prog_9_method_23_code 7 = .ok (.aload_n 0, 1) := by decide +kernel
theorem d_Reader_digitsFrom_8 : decode prog_9_method_23_code 8 = .ok (.iload_n 1, 1) := by decide +kernel
theorem d_Reader_digitsFrom_9 : decode prog_9_method_23_code 9 = .ok (.iload_n 2, 1) := by decide +kernel
theorem d_Reader_digitsFrom_10 : decode prog_9_method_23_code 10 = .ok (.iadd, 1) := by decide +kernel
theorem d_Reader_digitsFrom_11 : decode prog_9_method_23_code 11 = .ok (.invokevirtual 86, 3) := by decide +kernel
theorem d_Reader_digitsFrom_14 : decode prog_9_method_23_code 14 = .ok (.invokestatic 221, 3) := by decide +kernel
theorem d_Reader_digitsFrom_17 : decode prog_9_method_23_code 17 = .ok (.ifCond .eq 19, 3) := by decide +kernel
theorem d_Reader_digitsFrom_20 : decode prog_9_method_23_code 20 = .ok (.aload_n 0, 1) := by decide +kernel
theorem d_Reader_digitsFrom_21 : decode prog_9_method_23_code 21 = .ok (.iload_n 1, 1) := by decide +kernel
theorem d_Reader_digitsFrom_22 : decode prog_9_method_23_code 22 = .ok (.invokevirtual 86, 3) := by decide +kernel
theorem d_Reader_digitsFrom_25 : decode prog_9_method_23_code 25 = .ok (.bipush 48, 2) := by decide +kernel
theorem d_Reader_digitsFrom_27 : decode prog_9_method_23_code 27 = .ok (.if_icmp .eq 9, 3) := by decide +kernel
theorem d_Reader_digitsFrom_30 : decode prog_9_method_23_code 30 = .ok (.iinc 2 1, 3) := by decide +kernel
theorem d_Reader_digitsFrom_33 : decode prog_9_method_23_code 33 = .ok (.goto (-31), 3) := by decide +kernel
theorem d_Reader_digitsFrom_36 : decode prog_9_method_23_code 36 = .ok (.iload_n 2, 1) := by decide +kernel
theorem d_Reader_digitsFrom_37 : decode prog_9_method_23_code 37 = .ok (.ireturn, 1) := by decide +kernel
set_option maxHeartbeats 4000000 in
set_option maxRecDepth 100000 in
theorem b_Reader_digitsFrom_25 {h0 : Nat} {a0_2 : Nat} {a0_3 : Nat} {h1 : Nat} {cA1 : ClassId} {I0 : Nat → Int32} {n1 : Nat} {f1 : Nat → Int32} {x1 : Int32} {x2 : Int32} {s0 : Int32} {k2 : Int32 → Prop} {Z : Int32 → Unit → Prop} {H : Heap} {locs : List Loc} {ls : Array Slot} (hc : zC p s m args meth c prog_9_method_23_code (some .int) 3 "NumberDress$Reader") (hA : ∀ q : Nat, s.heap.size ≤ q → A q) (hE : zE gE A s) (hk2 : ∀ (x2 : Int32) (H : Heap) (locs : List Loc) (ls : Array Slot), lv_has ls 3 [(0, .ref h0), (1, .int x1), (2, .int x2)] → va_K (dC, dI) zCl [(cA1, .char)] s → va_P (dC, dI) zCl [(h0, .inr (8, o_Reader I0 h1 a0_2 a0_3)), (h1, .inl (cA1, n1, .inl f1))] H → va_D A [(h0, .inr (8, o_Reader I0 h1 a0_2 a0_3)), (h1, .inl (cA1, n1, .inl f1))] → va_S A s.heap H locs → k2 x2 → W p l e (headSpec (Cond.code (⟨"NumberDress$Reader", "digitsFrom", "(I)I"⟩ : MethodName) prog_9_method_23_code 3 (some .int) :: zT) { frames := 1, cells := 0, slots := 0, locals := 21 }).room s m args below meth c H locs 0 0 (MQ below (va_Qi Z (zB (dC, dI) zCl [(cA1, .char)] A (fun u : Unit => [(h0, .inr (8, o_Reader I0 h1 a0_2 a0_3)), (h1, .inl (cA1, n1, .inl f1))])) A) args s 0 0 A) (F0 m 2 ls [])) (hl : lv_has ls 3 [(0, .ref h0), (1, .int x1), (2, .int x2)]) (hK : va_K (dC, dI) zCl [(cA1, .char)] s) (hP : va_P (dC, dI) zCl [(h0, .inr (8, o_Reader I0 h1 a0_2 a0_3)), (h1, .inl (cA1, n1, .inl f1))] H) (hD : va_D A [(h0, .inr (8, o_Reader I0 h1 a0_2 a0_3)), (h1, .inl (cA1, n1, .inl f1))]) (hS : va_S A s.heap H locs) (hv : v_Reader_digitsFrom_25 I0 n1 f1 x1 x2 s0 k2 Z) : W p l e (headSpec (Cond.code (⟨"NumberDress$Reader", "digitsFrom", "(I)I"⟩ : MethodName) prog_9_method_23_code 3 (some .int) :: zT) { frames := 1, cells := 0, slots := 0, locals := 21 }).room s m args below meth c H locs 0 0 (MQ below (va_Qi Z (zB (dC, dI) zCl [(cA1, .char)] A (fun u : Unit => [(h0, .inr (8, o_Reader I0 h1 a0_2 a0_3)), (h1, .inl (cA1, n1, .inl f1))])) A) args s 0 0 A) (F0 m 25 ls [.int s0]) := by
  obtain ⟨hx, hb, hr, hml, hown, ht, hlocks⟩ := id hc
  unfold v_Reader_digitsFrom_25 at hv
  refine lv_bipush (v := (48 : Int32)) hx hb d_Reader_digitsFrom_25 (by decide) ?_
  refine lv_icmp_eq (tgt := 36) hx hb d_Reader_digitsFrom_27 (by decide) (fun c_1 => ?_) (fun c_1 => ?_)
  · have hv := hv.1 c_1
    refine lv_iload_n hx hb d_Reader_digitsFrom_36 rfl (lv_at hl 2 rfl) ?_
    exact W.iret (v := x2) hx hb hr (fun t ht hW => ⟨⟨_, (), rfl, hv, ⟨by rw [ht]; exact hP, va_K.moved hW.alike hK, hD⟩⟩, hS.F ht⟩) hS.2.2 d_Reader_digitsFrom_37
  · have hv := hv.2 c_1
    refine lv_iinc (v := (x2 + (1 : Int32))) (lv' := [(2, .int (x2 + (1 : Int32))), (0, .ref h0), (1, .int x1)]) hx hb d_Reader_digitsFrom_30 hl (k := 2) rfl rfl (by decide) rfl (fun ls hl => ?_)
    refine lv_goto (tgt := 2) hx hb d_Reader_digitsFrom_33 (by decide) ?_
    exact hk2 (x2 + (1 : Int32)) _ _ _ (lv_sub hl [1, 2, 0] rfl) hK hP hD hS hv
set_option maxHeartbeats 4000000 in
set_option maxRecDepth 100000 in
theorem b_Reader_digitsFrom_17 {h0 : Nat} {a0_2 : Nat} {a0_3 : Nat} {h1 : Nat} {cA1 : ClassId} {I0 : Nat → Int32} {n1 : Nat} {f1 : Nat → Int32} {x1 : Int32} {x2 : Int32} {s0 : Int32} {k2 : Int32 → Prop} {Z : Int32 → Unit → Prop} {H : Heap} {locs : List Loc} {ls : Array Slot} (hc : zC p s m args meth c prog_9_method_23_code (some .int) 3 "NumberDress$Reader") (hA : ∀ q : Nat, s.heap.size ≤ q → A q) (hE : zE gE A s) (hk2 : ∀ (x2 : Int32) (H : Heap) (locs : List Loc) (ls : Array Slot), lv_has ls 3 [(0, .ref h0), (1, .int x1), (2, .int x2)] → va_K (dC, dI) zCl [(cA1, .char)] s → va_P (dC, dI) zCl [(h0, .inr (8, o_Reader I0 h1 a0_2 a0_3)), (h1, .inl (cA1, n1, .inl f1))] H → va_D A [(h0, .inr (8, o_Reader I0 h1 a0_2 a0_3)), (h1, .inl (cA1, n1, .inl f1))] → va_S A s.heap H locs → k2 x2 → W p l e (headSpec (Cond.code (⟨"NumberDress$Reader", "digitsFrom", "(I)I"⟩ : MethodName) prog_9_method_23_code 3 (some .int) :: zT) { frames := 1, cells := 0, slots := 0, locals := 21 }).room s m args below meth c H locs 0 0 (MQ below (va_Qi Z (zB (dC, dI) zCl [(cA1, .char)] A (fun u : Unit => [(h0, .inr (8, o_Reader I0 h1 a0_2 a0_3)), (h1, .inl (cA1, n1, .inl f1))])) A) args s 0 0 A) (F0 m 2 ls [])) (hl : lv_has ls 3 [(0, .ref h0), (1, .int x1), (2, .int x2)]) (hK : va_K (dC, dI) zCl [(cA1, .char)] s) (hP : va_P (dC, dI) zCl [(h0, .inr (8, o_Reader I0 h1 a0_2 a0_3)), (h1, .inl (cA1, n1, .inl f1))] H) (hD : va_D A [(h0, .inr (8, o_Reader I0 h1 a0_2 a0_3)), (h1, .inl (cA1, n1, .inl f1))]) (hS : va_S A s.heap H locs) (hv : v_Reader_digitsFrom_17 I0 n1 f1 x1 x2 s0 k2 Z) : W p l e (headSpec (Cond.code (⟨"NumberDress$Reader", "digitsFrom", "(I)I"⟩ : MethodName) prog_9_method_23_code 3 (some .int) :: zT) { frames := 1, cells := 0, slots := 0, locals := 21 }).room s m args below meth c H locs 0 0 (MQ below (va_Qi Z (zB (dC, dI) zCl [(cA1, .char)] A (fun u : Unit => [(h0, .inr (8, o_Reader I0 h1 a0_2 a0_3)), (h1, .inl (cA1, n1, .inl f1))])) A) args s 0 0 A) (F0 m 17 ls [.int s0]) := by
  obtain ⟨hx, hb, hr, hml, hown, ht, hlocks⟩ := id hc
  unfold v_Reader_digitsFrom_17 at hv
  refine lv_if_eq (tgt := 36) hx hb d_Reader_digitsFrom_17 (by decide) (fun c_1 => ?_) (fun c_1 => ?_)
  · have hv := hv.1 c_1
    refine lv_iload_n hx hb d_Reader_digitsFrom_36 rfl (lv_at hl 2 rfl) ?_
    exact W.iret (v := x2) hx hb hr (fun t ht hW => ⟨⟨_, (), rfl, hv, ⟨by rw [ht]; exact hP, va_K.moved hW.alike hK, hD⟩⟩, hS.F ht⟩) hS.2.2 d_Reader_digitsFrom_37
  · have hv := hv.2 c_1
    refine lv_aload_n hx hb d_Reader_digitsFrom_20 rfl (lv_at hl 0 rfl) ?_
    refine lv_iload_n hx hb d_Reader_digitsFrom_21 rfl (lv_at hl 1 rfl) ?_
    refine z_calli (wc := [(h0, .inr (8, o_Reader I0 h1 a0_2 a0_3)), (h1, .inl (cA1, n1, .inl f1))]) (wr := []) [0, 1] [] (va_runV (As := [.int x1]) (rest := []) ⟨hx, hb, hml, hown, ht⟩ (m_Reader_sign l dC dI hv) ⟨(callB_of 1 ht (zG_in zi_Reader_sign) rfl rfl rfl (ht _ zw_113) (ht _ zw_512) zh_Reader_sign ⟨Nat.le_of_ble_eq_true rfl, Nat.le_of_ble_eq_true rfl⟩), (ht _ zw_514), (ht _ zw_1)⟩ ⟨zPc_blind, va_recv hK hP (ci := 8) (q0 := 0) rfl rfl, zPc_pre hP hK hD hS hA hE [0, 1] [0] rfl rfl (by decide) rfl⟩ rfl rfl hl.1 rfl (lv_room (Nat.le_of_ble_eq_true rfl)) d_Reader_digitsFrom_22 ⟨Nat.le_of_ble_eq_true rfl, Nat.le_of_ble_eq_true rfl⟩) hP hD hS hA rfl rfl (by decide) (by decide) (fun r u H locs hv hP hD hS => ?_)
    have hP : va_P (dC, dI) zCl [(h0, .inr (8, o_Reader I0 h1 a0_2 a0_3)), (h1, .inl (cA1, n1, .inl f1))] H := hP.sub [0, 1] rfl
    have hD : va_D A [(h0, .inr (8, o_Reader I0 h1 a0_2 a0_3)), (h1, .inl (cA1, n1, .inl f1))] := hD.sub [0, 1] (by decide) rfl
    exact b_Reader_digitsFrom_25 hc hA hE hk2 (lv_sub hl [0, 1, 2] rfl) hK hP hD hS hv
set_option maxHeartbeats 4000000 in
set_option maxRecDepth 100000 in
theorem b_Reader_digitsFrom_14 {h0 : Nat} {a0_2 : Nat} {a0_3 : Nat} {h1 : Nat} {cA1 : ClassId} {I0 : Nat → Int32} {n1 : Nat} {f1 : Nat → Int32} {x1 : Int32} {x2 : Int32} {s0 : Int32} {k2 : Int32 → Prop} {Z : Int32 → Unit → Prop} {H : Heap} {locs : List Loc} {ls : Array Slot} (hc : zC p s m args meth c prog_9_method_23_code (some .int) 3 "NumberDress$Reader") (hA : ∀ q : Nat, s.heap.size ≤ q → A q) (hE : zE gE A s) (hk2 : ∀ (x2 : Int32) (H : Heap) (locs : List Loc) (ls : Array Slot), lv_has ls 3 [(0, .ref h0), (1, .int x1), (2, .int x2)] → va_K (dC, dI) zCl [(cA1, .char)] s → va_P (dC, dI) zCl [(h0, .inr (8, o_Reader I0 h1 a0_2 a0_3)), (h1, .inl (cA1, n1, .inl f1))] H → va_D A [(h0, .inr (8, o_Reader I0 h1 a0_2 a0_3)), (h1, .inl (cA1, n1, .inl f1))] → va_S A s.heap H locs → k2 x2 → W p l e (headSpec (Cond.code (⟨"NumberDress$Reader", "digitsFrom", "(I)I"⟩ : MethodName) prog_9_method_23_code 3 (some .int) :: zT) { frames := 1, cells := 0, slots := 0, locals := 21 }).room s m args below meth c H locs 0 0 (MQ below (va_Qi Z (zB (dC, dI) zCl [(cA1, .char)] A (fun u : Unit => [(h0, .inr (8, o_Reader I0 h1 a0_2 a0_3)), (h1, .inl (cA1, n1, .inl f1))])) A) args s 0 0 A) (F0 m 2 ls [])) (hl : lv_has ls 3 [(0, .ref h0), (1, .int x1), (2, .int x2)]) (hK : va_K (dC, dI) zCl [(cA1, .char)] s) (hP : va_P (dC, dI) zCl [(h0, .inr (8, o_Reader I0 h1 a0_2 a0_3)), (h1, .inl (cA1, n1, .inl f1))] H) (hD : va_D A [(h0, .inr (8, o_Reader I0 h1 a0_2 a0_3)), (h1, .inl (cA1, n1, .inl f1))]) (hS : va_S A s.heap H locs) (hv : v_Reader_digitsFrom_14 I0 n1 f1 x1 x2 s0 k2 Z) : W p l e (headSpec (Cond.code (⟨"NumberDress$Reader", "digitsFrom", "(I)I"⟩ : MethodName) prog_9_method_23_code 3 (some .int) :: zT) { frames := 1, cells := 0, slots := 0, locals := 21 }).room s m args below meth c H locs 0 0 (MQ below (va_Qi Z (zB (dC, dI) zCl [(cA1, .char)] A (fun u : Unit => [(h0, .inr (8, o_Reader I0 h1 a0_2 a0_3)), (h1, .inl (cA1, n1, .inl f1))])) A) args s 0 0 A) (F0 m 14 ls [.int s0]) := by
  obtain ⟨hx, hb, hr, hml, hown, ht, hlocks⟩ := id hc
  unfold v_Reader_digitsFrom_14 at hv
  refine z_calli (wc := []) (wr := [(h0, .inr (8, o_Reader I0 h1 a0_2 a0_3)), (h1, .inl (cA1, n1, .inl f1))]) [] [0, 1] (va_runS (As := [.int s0]) (rest := []) ⟨hx, hb, hml, hown, ht⟩ (m_Reader_isDigit l dC dI hv) ⟨(callB_of 1 ht (zG_in zi_Reader_isDigit) rfl rfl rfl (ht _ zw_113) (ht _ zw_762) zh_Reader_isDigit ⟨Nat.le_of_ble_eq_true rfl, Nat.le_of_ble_eq_true rfl⟩), (ht _ zw_763)⟩ ⟨zPc_blind, zPc_pre hP hK hD hS hA hE [] [] rfl rfl (by decide) rfl⟩ rfl rfl hl.1 rfl (lv_room (Nat.le_of_ble_eq_true rfl)) d_Reader_digitsFrom_14 ⟨Nat.le_of_ble_eq_true rfl, Nat.le_of_ble_eq_true rfl⟩) hP hD hS hA rfl rfl (by decide) (by decide) (fun r u H locs hv hP hD hS => ?_)
  have hP : va_P (dC, dI) zCl [(h0, .inr (8, o_Reader I0 h1 a0_2 a0_3)), (h1, .inl (cA1, n1, .inl f1))] H := hP.sub [0, 1] rfl
  have hD : va_D A [(h0, .inr (8, o_Reader I0 h1 a0_2 a0_3)), (h1, .inl (cA1, n1, .inl f1))] := hD.sub [0, 1] (by decide) rfl
  exact b_Reader_digitsFrom_17 hc hA hE hk2 (lv_sub hl [0, 1, 2] rfl) hK hP hD hS hv
set_option maxHeartbeats 4000000 in
set_option maxRecDepth 100000 in
theorem b_Reader_digitsFrom_2 {h0 : Nat} {a0_2 : Nat} {a0_3 : Nat} {h1 : Nat} {cA1 : ClassId} {I0 : Nat → Int32} {n1 : Nat} {f1 : Nat → Int32} {x1 : Int32}  {Z : Int32 → Unit → Prop} (hc : zC p s m args meth c prog_9_method_23_code (some .int) 3 "NumberDress$Reader") (hA : ∀ q : Nat, s.heap.size ≤ q → A q) (hE : zE gE A s) : ∀ (N : Nat) (x2 : Int32) (H : Heap) (locs : List Loc) (ls : Array Slot), lv_has ls 3 [(0, .ref h0), (1, .int x1), (2, .int x2)] → va_K (dC, dI) zCl [(cA1, .char)] s → va_P (dC, dI) zCl [(h0, .inr (8, o_Reader I0 h1 a0_2 a0_3)), (h1, .inl (cA1, n1, .inl f1))] H → va_D A [(h0, .inr (8, o_Reader I0 h1 a0_2 a0_3)), (h1, .inl (cA1, n1, .inl f1))] → va_S A s.heap H locs → v_Reader_digitsFrom_2 I0 n1 f1 x1  Z N x2 → W p l e (headSpec (Cond.code (⟨"NumberDress$Reader", "digitsFrom", "(I)I"⟩ : MethodName) prog_9_method_23_code 3 (some .int) :: zT) { frames := 1, cells := 0, slots := 0, locals := 21 }).room s m args below meth c H locs 0 0 (MQ below (va_Qi Z (zB (dC, dI) zCl [(cA1, .char)] A (fun u : Unit => [(h0, .inr (8, o_Reader I0 h1 a0_2 a0_3)), (h1, .inl (cA1, n1, .inl f1))])) A) args s 0 0 A) (F0 m 2 ls []) := by
  obtain ⟨hx, hb, hr, hml, hown, ht, hlocks⟩ := id hc
  intro N
  induction N with
  | zero => intro x2 H locs ls hl hK hP hD hS hv; exact hv.elim
  | succ N hk2 =>
    intro x2 H locs ls hl hK hP hD hS hv
    unfold v_Reader_digitsFrom_2 at hv
    refine lv_iload_n hx hb d_Reader_digitsFrom_2 rfl (lv_at hl 2 rfl) ?_
    refine lv_iconst (v := (3 : Int32)) hx hb d_Reader_digitsFrom_3 (by decide) ?_
    refine lv_icmp_ge (tgt := 36) hx hb d_Reader_digitsFrom_4 (by decide) (fun c_1 => ?_) (fun c_1 => ?_)
    · have hv := hv.1 c_1
      refine lv_iload_n hx hb d_Reader_digitsFrom_36 rfl (lv_at hl 2 rfl) ?_
      exact W.iret (v := x2) hx hb hr (fun t ht hW => ⟨⟨_, (), rfl, hv, ⟨by rw [ht]; exact hP, va_K.moved hW.alike hK, hD⟩⟩, hS.F ht⟩) hS.2.2 d_Reader_digitsFrom_37
    · have hv := hv.2 c_1
      refine lv_aload_n hx hb d_Reader_digitsFrom_7 rfl (lv_at hl 0 rfl) ?_
      refine lv_iload_n hx hb d_Reader_digitsFrom_8 rfl (lv_at hl 1 rfl) ?_
      refine lv_iload_n hx hb d_Reader_digitsFrom_9 rfl (lv_at hl 2 rfl) ?_
      refine lv_iadd hx hb d_Reader_digitsFrom_10 ?_
      refine z_calli (wc := [(h0, .inr (8, o_Reader I0 h1 a0_2 a0_3)), (h1, .inl (cA1, n1, .inl f1))]) (wr := []) [0, 1] [] (va_runV (As := [.int (x1 + x2)]) (rest := []) ⟨hx, hb, hml, hown, ht⟩ (m_Reader_sign l dC dI hv) ⟨(callB_of 1 ht (zG_in zi_Reader_sign) rfl rfl rfl (ht _ zw_113) (ht _ zw_512) zh_Reader_sign ⟨Nat.le_of_ble_eq_true rfl, Nat.le_of_ble_eq_true rfl⟩), (ht _ zw_514), (ht _ zw_1)⟩ ⟨zPc_blind, va_recv hK hP (ci := 8) (q0 := 0) rfl rfl, zPc_pre hP hK hD hS hA hE [0, 1] [0] rfl rfl (by decide) rfl⟩ rfl rfl hl.1 rfl (lv_room (Nat.le_of_ble_eq_true rfl)) d_Reader_digitsFrom_11 ⟨Nat.le_of_ble_eq_true rfl, Nat.le_of_ble_eq_true rfl⟩) hP hD hS hA rfl rfl (by decide) (by decide) (fun r u H locs hv hP hD hS => ?_)
      have hP : va_P (dC, dI) zCl [(h0, .inr (8, o_Reader I0 h1 a0_2 a0_3)), (h1, .inl (cA1, n1, .inl f1))] H := hP.sub [0, 1] rfl
      have hD : va_D A [(h0, .inr (8, o_Reader I0 h1 a0_2 a0_3)), (h1, .inl (cA1, n1, .inl f1))] := hD.sub [0, 1] (by decide) rfl
      exact b_Reader_digitsFrom_14 hc hA hE hk2 (lv_sub hl [0, 1, 2] rfl) hK hP hD hS hv
set_option maxHeartbeats 4000000 in
set_option maxRecDepth 100000 in
theorem b_Reader_digitsFrom_0 {h0 : Nat} {a0_2 : Nat} {a0_3 : Nat} {h1 : Nat} {cA1 : ClassId} {I0 : Nat → Int32} {n1 : Nat} {f1 : Nat → Int32} {x1 : Int32}  {Z : Int32 → Unit → Prop} {H : Heap} {locs : List Loc} {ls : Array Slot} (hc : zC p s m args meth c prog_9_method_23_code (some .int) 3 "NumberDress$Reader") (hA : ∀ q : Nat, s.heap.size ≤ q → A q) (hE : zE gE A s) (hl : lv_has ls 3 [(0, .ref h0), (1, .int x1)]) (hK : va_K (dC, dI) zCl [(cA1, .char)] s) (hP : va_P (dC, dI) zCl [(h0, .inr (8, o_Reader I0 h1 a0_2 a0_3)), (h1, .inl (cA1, n1, .inl f1))] H) (hD : va_D A [(h0, .inr (8, o_Reader I0 h1 a0_2 a0_3)), (h1, .inl (cA1, n1, .inl f1))]) (hS : va_S A s.heap H locs) (hv : v_Reader_digitsFrom_0 I0 n1 f1 x1  Z) : W p l e (headSpec (Cond.code (⟨"NumberDress$Reader", "digitsFrom", "(I)I"⟩ : MethodName) prog_9_method_23_code 3 (some .int) :: zT) { frames := 1, cells := 0, slots := 0, locals := 21 }).room s m args below meth c H locs 0 0 (MQ below (va_Qi Z (zB (dC, dI) zCl [(cA1, .char)] A (fun u : Unit => [(h0, .inr (8, o_Reader I0 h1 a0_2 a0_3)), (h1, .inl (cA1, n1, .inl f1))])) A) args s 0 0 A) (F0 m 0 ls []) := by
  obtain ⟨hx, hb, hr, hml, hown, ht, hlocks⟩ := id hc
  unfold v_Reader_digitsFrom_0 at hv
  refine lv_iconst (v := (0 : Int32)) hx hb d_Reader_digitsFrom_0 (by decide) ?_
  refine lv_istore_n (lv' := [(2, .int (0 : Int32)), (0, .ref h0), (1, .int x1)]) hx hb d_Reader_digitsFrom_1 rfl hl (by decide) rfl (fun ls hl => ?_)
  obtain ⟨Nx, hv⟩ := hv
  exact b_Reader_digitsFrom_2 hc hA hE  Nx (0 : Int32) _ _ _ (lv_sub hl [1, 2, 0] rfl) hK hP hD hS hv
theorem zi_Reader_digitsFrom : Cond.code (⟨"NumberDress$Reader", "digitsFrom", "(I)I"⟩ : MethodName) prog_9_method_23_code 3 (some .int) ∈ zT := zw_761
theorem zh_Reader_digitsFrom : (((⟨"NumberDress$Reader", "digitsFrom", "(I)I"⟩ : MethodName)).cls ≠ "java/lang/invoke/MethodHandle" ∧ ((⟨"NumberDress$Reader", "digitsFrom", "(I)I"⟩ : MethodName)).cls ≠ "java/lang/invoke/VarHandle" ∧ (parseMethodDescriptor ((⟨"NumberDress$Reader", "digitsFrom", "(I)I"⟩ : MethodName)).desc).map (fun d => d.parameters.length) = some 1) := by decide +kernel
set_option maxHeartbeats 4000000 in
set_option maxRecDepth 100000 in
theorem m_Reader_digitsFrom (l : Launch) (dC : Nat → ClassId) (dI : Nat → Nat → Nat) {gE : zG} {h0 : Nat} {a0_2 : Nat} {a0_3 : Nat} {h1 : Nat} {cA1 : ClassId} {I0 : Nat → Int32} {n1 : Nat} {f1 : Nat → Int32} {x1 : Int32} {sz : Nat} {Z : Int32 → Unit → Prop} (hv : v_Reader_digitsFrom_0 I0 n1 f1 x1 Z) : Met l (⟨"NumberDress$Reader", "digitsFrom", "(I)I"⟩ : MethodName) (Cond.code (⟨"NumberDress$Reader", "digitsFrom", "(I)I"⟩ : MethodName) prog_9_method_23_code 3 (some .int) :: zT) { frames := 1, cells := 0, slots := 0, locals := 21 } (zPc gE (dC, dI) zCl [(cA1, .char)] [.ref h0, .int x1] sz [(h0, .inr (8, o_Reader I0 h1 a0_2 a0_3)), (h1, .inl (cA1, n1, .inl f1))]) (va_Qi Z (zB (dC, dI) zCl [(cA1, .char)] (va_A [(h0, .inr (8, o_Reader I0 h1 a0_2 a0_3)), (h1, .inl (cA1, n1, .inl f1))] sz) (fun u : Unit => [(h0, .inr (8, o_Reader I0 h1 a0_2 a0_3)), (h1, .inl (cA1, n1, .inl f1))])) (va_A [(h0, .inr (8, o_Reader I0 h1 a0_2 a0_3)), (h1, .inl (cA1, n1, .inl f1))] sz)) 0 0 (va_A [(h0, .inr (8, o_Reader I0 h1 a0_2 a0_3)), (h1, .inl (cA1, n1, .inl f1))] sz) := by
  refine Met.ofW (cc := prog_9_method_23_code) (maxL := 3) (ret := (some .int)) (by decide +kernel) rfl ?_
  intro p e s m args below meth c s₁ B hml hp
  obtain ⟨rfl, hsz, hP, hK, hD0, hE⟩ := hp
  have hts := atoms_spec (ws := (Cond.code (⟨"NumberDress$Reader", "digitsFrom", "(I)I"⟩ : MethodName) prog_9_method_23_code 3 (some .int) :: zT)) B.pre
  have hown : s.vm.findClass "NumberDress$Reader" = some m.cls := findClass_of_methodNamed B.named
  have hc : zC p s m _ meth c prog_9_method_23_code (some .int) 3 "NumberDress$Reader" := ⟨B.exec, B.bytes, B.returns, hml, hown, fun w h => hts w (List.mem_cons_of_mem _ h), B.notSynchronized⟩
  subst hsz
  have hD := hD0.self (sz := s.heap.size)
  generalize hAe : va_A [(h0, .inr (8, o_Reader I0 h1 a0_2 a0_3)), (h1, .inl (cA1, n1, .inl f1))] s.heap.size = A at hD hE ⊢
  have hA : ∀ q : Nat, s.heap.size ≤ q → A q := fun q h => by rw [← hAe]; exact Or.inr h
  have hl := lv_entry ([.ref h0, .int x1]) (n := 3) (Nat.le_of_ble_eq_true rfl)
  rw [lg_entry_eq]
  exact b_Reader_digitsFrom_0 hc hA hE hl hK hP hD va_S.rf hv
theorem d_Reader_makeNumerator_0 : decode prog_9_method_21_code 0 = .ok (.aload_n 0, 1) := by decide +kernel
theorem d_Reader_makeNumerator_1 : decode prog_9_method_21_code 1 = .ok (.getfield 18, 3) := by decide +kernel
theorem d_Reader_makeNumerator_4 : decode prog_9_method_21_code 4 = .ok (.getfield 77, 3) := by decide +kernel
theorem d_Reader_makeNumerator_7 : decode prog_9_method_21_code 7 = .ok (.iconst 1, 1) := by decide +kernel
theorem d_Reader_makeNumerator_8 : decode prog_9_method_21_code 8 = .ok (.isub, 1) := by decide +kernel
theorem d_Reader_makeNumerator_9 : decode prog_9_method_21_code 9 = .ok (.istore_n 1, 1) := by decide +kernel
theorem d_Reader_makeNumerator_10 : decode prog_9_method_21_code 10 = .ok (.iload_n 1, 1) := by decide +kernel
theorem d_Reader_makeNumerator_11 : decode prog_9_method_21_code 11 = .ok (.aload_n 0, 1) := by decide +kernel
theorem d_Reader_makeNumerator_12 : decode prog_9_method_21_code 12 = .ok (.getfield 25, 3) := by decide +kernel
theorem d_Reader_makeNumerator_15 : decode prog_9_method_21_code 15 = .ok (.getfield 210, 3) := by decide +kernel
theorem d_Reader_makeNumerator_18 : decode prog_9_method_21_code 18 = .ok (.if_icmp .lt 57, 3) := by decide +kernel
theorem d_Reader_makeNumerator_21 : decode prog_9_method_21_code 21 = .ok (.aload_n 0, 1) := by decide +kernel
theorem d_Reader_makeNumerator_22 : decode prog_9_method_21_code 22 = .ok (.getfield 18, 3) := by decide +kernel
theorem d_Reader_makeNumerator_25 : decode prog_9_method_21_code 25 = .ok (.iload_n 1, 1) := by decide +kernel
theorem d_Reader_makeNumerator_26 : decode prog_9_method_21_code 26 = .ok (.invokevirtual 213, 3) := by decide +kernel
theorem d_Reader_makeNumerator_29 : decode prog_9_method_21_code 29 = .ok (.iconst 2, 1) := by decide +kernel
theorem d_Reader_makeNumerator_30 : decode prog_9_method_21_code 30 = .ok (.if_icmp .ne 45, 3) := by decide +kernel
theorem d_Reader_makeNumerator_33 : decode prog_9_method_21_code 33 = .ok (.aload_n 0, 1) := by decide +kernel
theorem d_Reader_makeNumerator_34 : decode prog_9_method_21_code 34 = .ok (.getfield 18, 3) := by decide +kernel
theorem d_Reader_makeNumerator_37 : decode prog_9_method_21_code 37 = .ok (.iload_n 1, 1) := by decide +kernel
theorem d_Reader_makeNumerator_38 : decode prog_9_method_21_code 38 = .ok (.bipush 9, 2) := by decide +kernel
theorem d_Reader_makeNumerator_40 : decode prog_9_method_21_code 40 = .ok (.invokevirtual 215, 3) := by decide +kernel
theorem d_Reader_makeNumerator_43 : decode prog_9_method_21_code 43 = .ok (.aload_n 0, 1) := by decide +kernel
theorem d_Reader_makeNumerator_44 : decode prog_9_method_21_code 44 = .ok (.getfield 25, 3) := by decide +kernel
theorem d_Reader_makeNumerator_47 : decode prog_9_method_21_code 47 = .ok (.dup, 1) := by decide +kernel
theorem d_Reader_makeNumerator_48 : decode prog_9_method_21_code 48 = .ok (.getfield 218, 3) := by decide +kernel
theorem d_Reader_makeNumerator_51 : decode prog_9_method_21_code 51 = .ok (.iconst 1, 1) := by decide +kernel
theorem d_Reader_makeNumerator_52 : decode prog_9_method_21_code 52 = .ok (.iadd, 1) := by decide +kernel
theorem d_Reader_makeNumerator_53 : decode prog_9_method_21_code 53 = .ok (.putfield 218, 3) := by decide +kernel
theorem d_Reader_makeNumerator_56 : decode prog_9_method_21_code 56 = .ok (.aload_n 0, 1) := by decide +kernel
theorem d_Reader_makeNumerator_57 : decode prog_9_method_21_code 57 = .ok (.getfield 25, 3) := by decide +kernel
theorem d_Reader_makeNumerator_60 : decode prog_9_method_21_code 60 = .ok (.dup, 1) := by decide +kernel
theorem d_Reader_makeNumerator_61 : decode prog_9_method_21_code 61 = .ok (.getfield 180, 3) := by decide +kernel
theorem d_Reader_makeNumerator_64 : decode prog_9_method_21_code 64 = .ok (.iconst 1, 1) := by decide +kernel
theorem d_Reader_makeNumerator_65 : decode prog_9_method_21_code 65 = .ok (.isub, 1) := by decide +kernel
theorem d_Reader_makeNumerator_66 : decode prog_9_method_21_code 66 = .ok (.putfield 180, 3) := by decide +kernel
theorem d_Reader_makeNumerator_69 : decode prog_9_method_21_code 69 = .ok (.iinc 1 (-1), 3) := by decide +kernel
theorem d_Reader_makeNumerator_72 : decode prog_9_method_21_code 72 = .ok (.goto (-62), 3) := by decide +kernel
theorem d_Reader_makeNumerator_75 : decode prog_9_method_21_code 75 = .ok (.return_, 1) := by decide +kernel
set_option maxHeartbeats 4000000 in
set_option maxRecDepth 100000 in
theorem b_Reader_makeNumerator_43 {h0 : Nat} {a0_0 : Nat} {h1 : Nat} {a1_0 : Nat} {a1_3 : Nat} {h2 : Nat} {h3 : Nat} {cA3 : ClassId} {I0 : Nat → Int32} {I1 : Nat → Int32} {I2 : Nat → Int32} {n3 : Nat} {f3 : Nat → Int32} {x1 : Int32} {k10 : (Nat → Int32) → (Nat → Int32) → Int32 → Prop} {Z : (Nat → Int32) × (Nat → Int32) → Prop} {H : Heap} {locs : List Loc} {ls : Array Slot} (hc : zC p s m args meth c prog_9_method_21_code none 2 "NumberDress$Reader") (hA : ∀ q : Nat, s.heap.size ≤ q → A q) (hE : zE gE A s) (hk10 : ∀ (I2 : Nat → Int32) (f3 : Nat → Int32) (x1 : Int32) (H : Heap) (locs : List Loc) (ls : Array Slot), lv_has ls 2 [(0, .ref h0), (1, .int x1)] → va_K (dC, dI) zCl [(cA3, .int)] s → va_P (dC, dI) zCl [(h0, .inr (8, o_Reader I0 a0_0 h1 h2)), (h1, .inr (1, o_Code I1 a1_0 h3 a1_3)), (h2, .inr (9, o_Section I2)), (h3, .inl (cA3, n3, .inl f3))] H → va_D A [(h0, .inr (8, o_Reader I0 a0_0 h1 h2)), (h1, .inr (1, o_Code I1 a1_0 h3 a1_3)), (h2, .inr (9, o_Section I2)), (h3, .inl (cA3, n3, .inl f3))] → va_S A s.heap H locs → k10 I2 f3 x1 → W p l e (headSpec (Cond.code (⟨"NumberDress$Reader", "makeNumerator", "()V"⟩ : MethodName) prog_9_method_21_code 2 none :: zT) { frames := 1, cells := 0, slots := 0, locals := 22 }).room s m args below meth c H locs 0 0 (MQ below (va_Qv Z (zB (dC, dI) zCl [(cA3, .int)] A (fun u : (Nat → Int32) × (Nat → Int32) => [(h0, .inr (8, o_Reader I0 a0_0 h1 h2)), (h1, .inr (1, o_Code I1 a1_0 h3 a1_3)), (h2, .inr (9, o_Section u.1)), (h3, .inl (cA3, n3, .inl u.2))])) A) args s 0 0 A) (F0 m 10 ls [])) (hl : lv_has ls 2 [(0, .ref h0), (1, .int x1)]) (hK : va_K (dC, dI) zCl [(cA3, .int)] s) (hP : va_P (dC, dI) zCl [(h0, .inr (8, o_Reader I0 a0_0 h1 h2)), (h1, .inr (1, o_Code I1 a1_0 h3 a1_3)), (h2, .inr (9, o_Section I2)), (h3, .inl (cA3, n3, .inl f3))] H) (hD : va_D A [(h0, .inr (8, o_Reader I0 a0_0 h1 h2)), (h1, .inr (1, o_Code I1 a1_0 h3 a1_3)), (h2, .inr (9, o_Section I2)), (h3, .inl (cA3, n3, .inl f3))]) (hS : va_S A s.heap H locs) (hv : v_Reader_makeNumerator_43 I0 I1 I2 n3 f3 x1 k10 Z) : W p l e (headSpec (Cond.code (⟨"NumberDress$Reader", "makeNumerator", "()V"⟩ : MethodName) prog_9_method_21_code 2 none :: zT) { frames := 1, cells := 0, slots := 0, locals := 22 }).room s m args below meth c H locs 0 0 (MQ below (va_Qv Z (zB (dC, dI) zCl [(cA3, .int)] A (fun u : (Nat → Int32) × (Nat → Int32) => [(h0, .inr (8, o_Reader I0 a0_0 h1 h2)), (h1, .inr (1, o_Code I1 a1_0 h3 a1_3)), (h2, .inr (9, o_Section u.1)), (h3, .inl (cA3, n3, .inl u.2))])) A) args s 0 0 A) (F0 m 43 ls []) := by
  obtain ⟨hx, hb, hr, hml, hown, ht, hlocks⟩ := id hc
  unfold v_Reader_makeNumerator_43 at hv
  refine lv_aload_n hx hb d_Reader_makeNumerator_43 rfl (lv_at hl 0 rfl) ?_
  refine va_get (D := (dC, dI)) (ci := 8) (v := .ref h2) (C := "NumberDress$Reader") (T := T_Reader) (N := 5) hx hb ht zin_Reader hown hK hP 0 rfl rfl 3 (by decide) (ht _ zw_274) (fun _ h9 => h9) rfl d_Reader_makeNumerator_44 ?_
  refine lv_dup hx hb d_Reader_makeNumerator_47 rfl ?_
  refine va_get (D := (dC, dI)) (ci := 9) (v := .int (I2 10)) (C := "NumberDress$Section") (T := T_Section) (N := 15) hx hb ht zin_Section hown hK hP 2 rfl rfl 10 (by decide) (ht _ zw_197) (fun _ h9 => h9) rfl d_Reader_makeNumerator_48 ?_
  refine lv_iconst (v := (1 : Int32)) hx hb d_Reader_makeNumerator_51 (by decide) ?_
  refine lv_iadd hx hb d_Reader_makeNumerator_52 ?_
  refine va_put (D := (dC, dI)) (ci := 9) (v := .int ((I2 10) + (1 : Int32))) (ty := .int) (C := "NumberDress$Section") (T := T_Section) (N := 15) hx hb ht zin_Section ty_Section tyok_Section nm_Section hown hK hP hD hS 2 rfl rfl 10 (by decide) (ht _ zw_197) (fun _ h9 => h9) rfl (by decide +kernel) rfl rfl (Nat.le_of_ble_eq_true rfl) d_Reader_makeNumerator_53 (fun H locs hP hD hS => ?_)
  have hP : va_P (dC, dI) zCl [(h0, .inr (8, o_Reader I0 a0_0 h1 h2)), (h1, .inr (1, o_Code I1 a1_0 h3 a1_3)), (h2, .inr (9, o_Section (zu I2 10 ((I2 10) + (1 : Int32))))), (h3, .inl (cA3, n3, .inl f3))] H := hP
  have hD : va_D A [(h0, .inr (8, o_Reader I0 a0_0 h1 h2)), (h1, .inr (1, o_Code I1 a1_0 h3 a1_3)), (h2, .inr (9, o_Section (zu I2 10 ((I2 10) + (1 : Int32))))), (h3, .inl (cA3, n3, .inl f3))] := hD
  refine lv_aload_n hx hb d_Reader_makeNumerator_56 rfl (lv_at hl 0 rfl) ?_
  refine va_get (D := (dC, dI)) (ci := 8) (v := .ref h2) (C := "NumberDress$Reader") (T := T_Reader) (N := 5) hx hb ht zin_Reader hown hK hP 0 rfl rfl 3 (by decide) (ht _ zw_274) (fun _ h9 => h9) rfl d_Reader_makeNumerator_57 ?_
  refine lv_dup hx hb d_Reader_makeNumerator_60 rfl ?_
  refine va_get (D := (dC, dI)) (ci := 9) (v := .int (I2 3)) (C := "NumberDress$Section") (T := T_Section) (N := 15) hx hb ht zin_Section hown hK hP 2 rfl rfl 3 (by decide) (ht _ zw_177) (fun _ h9 => h9) rfl d_Reader_makeNumerator_61 ?_
  refine lv_iconst (v := (1 : Int32)) hx hb d_Reader_makeNumerator_64 (by decide) ?_
  refine lv_isub hx hb d_Reader_makeNumerator_65 ?_
  refine va_put (D := (dC, dI)) (ci := 9) (v := .int ((I2 3) - (1 : Int32))) (ty := .int) (C := "NumberDress$Section") (T := T_Section) (N := 15) hx hb ht zin_Section ty_Section tyok_Section nm_Section hown hK hP hD hS 2 rfl rfl 3 (by decide) (ht _ zw_177) (fun _ h9 => h9) rfl (by decide +kernel) rfl rfl (Nat.le_of_ble_eq_true rfl) d_Reader_makeNumerator_66 (fun H locs hP hD hS => ?_)
  have hP : va_P (dC, dI) zCl [(h0, .inr (8, o_Reader I0 a0_0 h1 h2)), (h1, .inr (1, o_Code I1 a1_0 h3 a1_3)), (h2, .inr (9, o_Section (zu (zu I2 3 ((I2 3) - (1 : Int32))) 10 ((I2 10) + (1 : Int32))))), (h3, .inl (cA3, n3, .inl f3))] H := hP
  have hD : va_D A [(h0, .inr (8, o_Reader I0 a0_0 h1 h2)), (h1, .inr (1, o_Code I1 a1_0 h3 a1_3)), (h2, .inr (9, o_Section (zu (zu I2 3 ((I2 3) - (1 : Int32))) 10 ((I2 10) + (1 : Int32))))), (h3, .inl (cA3, n3, .inl f3))] := hD
  refine lv_iinc (v := (x1 + (-1 : Int32))) (lv' := [(1, .int (x1 + (-1 : Int32))), (0, .ref h0)]) hx hb d_Reader_makeNumerator_69 hl (k := 1) rfl rfl (by decide) rfl (fun ls hl => ?_)
  refine lv_goto (tgt := 10) hx hb d_Reader_makeNumerator_72 (by decide) ?_
  exact hk10 (zu (zu I2 3 ((I2 3) - (1 : Int32))) 10 ((I2 10) + (1 : Int32))) f3 (x1 + (-1 : Int32)) _ _ _ (lv_sub hl [1, 0] rfl) hK hP hD hS hv
set_option maxHeartbeats 4000000 in
set_option maxRecDepth 100000 in
theorem b_Reader_makeNumerator_29 {h0 : Nat} {a0_0 : Nat} {h1 : Nat} {a1_0 : Nat} {a1_3 : Nat} {h2 : Nat} {h3 : Nat} {cA3 : ClassId} {I0 : Nat → Int32} {I1 : Nat → Int32} {I2 : Nat → Int32} {n3 : Nat} {f3 : Nat → Int32} {x1 : Int32} {s0 : Int32} {k10 : (Nat → Int32) → (Nat → Int32) → Int32 → Prop} {Z : (Nat → Int32) × (Nat → Int32) → Prop} {H : Heap} {locs : List Loc} {ls : Array Slot} (hc : zC p s m args meth c prog_9_method_21_code none 2 "NumberDress$Reader") (hA : ∀ q : Nat, s.heap.size ≤ q → A q) (hE : zE gE A s) (hk10 : ∀ (I2 : Nat → Int32) (f3 : Nat → Int32) (x1 : Int32) (H : Heap) (locs : List Loc) (ls : Array Slot), lv_has ls 2 [(0, .ref h0), (1, .int x1)] → va_K (dC, dI) zCl [(cA3, .int)] s → va_P (dC, dI) zCl [(h0, .inr (8, o_Reader I0 a0_0 h1 h2)), (h1, .inr (1, o_Code I1 a1_0 h3 a1_3)), (h2, .inr (9, o_Section I2)), (h3, .inl (cA3, n3, .inl f3))] H → va_D A [(h0, .inr (8, o_Reader I0 a0_0 h1 h2)), (h1, .inr (1, o_Code I1 a1_0 h3 a1_3)), (h2, .inr (9, o_Section I2)), (h3, .inl (cA3, n3, .inl f3))] → va_S A s.heap H locs → k10 I2 f3 x1 → W p l e (headSpec (Cond.code (⟨"NumberDress$Reader", "makeNumerator", "()V"⟩ : MethodName) prog_9_method_21_code 2 none :: zT) { frames := 1, cells := 0, slots := 0, locals := 22 }).room s m args below meth c H locs 0 0 (MQ below (va_Qv Z (zB (dC, dI) zCl [(cA3, .int)] A (fun u : (Nat → Int32) × (Nat → Int32) => [(h0, .inr (8, o_Reader I0 a0_0 h1 h2)), (h1, .inr (1, o_Code I1 a1_0 h3 a1_3)), (h2, .inr (9, o_Section u.1)), (h3, .inl (cA3, n3, .inl u.2))])) A) args s 0 0 A) (F0 m 10 ls [])) (hl : lv_has ls 2 [(0, .ref h0), (1, .int x1)]) (hK : va_K (dC, dI) zCl [(cA3, .int)] s) (hP : va_P (dC, dI) zCl [(h0, .inr (8, o_Reader I0 a0_0 h1 h2)), (h1, .inr (1, o_Code I1 a1_0 h3 a1_3)), (h2, .inr (9, o_Section I2)), (h3, .inl (cA3, n3, .inl f3))] H) (hD : va_D A [(h0, .inr (8, o_Reader I0 a0_0 h1 h2)), (h1, .inr (1, o_Code I1 a1_0 h3 a1_3)), (h2, .inr (9, o_Section I2)), (h3, .inl (cA3, n3, .inl f3))]) (hS : va_S A s.heap H locs) (hv : v_Reader_makeNumerator_29 I0 I1 I2 n3 f3 x1 s0 k10 Z) : W p l e (headSpec (Cond.code (⟨"NumberDress$Reader", "makeNumerator", "()V"⟩ : MethodName) prog_9_method_21_code 2 none :: zT) { frames := 1, cells := 0, slots := 0, locals := 22 }).room s m args below meth c H locs 0 0 (MQ below (va_Qv Z (zB (dC, dI) zCl [(cA3, .int)] A (fun u : (Nat → Int32) × (Nat → Int32) => [(h0, .inr (8, o_Reader I0 a0_0 h1 h2)), (h1, .inr (1, o_Code I1 a1_0 h3 a1_3)), (h2, .inr (9, o_Section u.1)), (h3, .inl (cA3, n3, .inl u.2))])) A) args s 0 0 A) (F0 m 29 ls [.int s0]) := by
  obtain ⟨hx, hb, hr, hml, hown, ht, hlocks⟩ := id hc
  unfold v_Reader_makeNumerator_29 at hv
  refine lv_iconst (v := (2 : Int32)) hx hb d_Reader_makeNumerator_29 (by decide) ?_
  refine lv_icmp_ne (tgt := 75) hx hb d_Reader_makeNumerator_30 (by decide) (fun c_1 => ?_) (fun c_1 => ?_)
  · have hv := hv.1 c_1
    exact W.vret hx hb hr (fun t ht hW => ⟨⟨(I2, f3), rfl, hv, ⟨by rw [ht]; exact hP, va_K.moved hW.alike hK, hD⟩⟩, hS.F ht⟩) hS.2.2 d_Reader_makeNumerator_75
  · have hv := hv.2 c_1
    refine lv_aload_n hx hb d_Reader_makeNumerator_33 rfl (lv_at hl 0 rfl) ?_
    refine va_get (D := (dC, dI)) (ci := 8) (v := .ref h1) (C := "NumberDress$Reader") (T := T_Reader) (N := 5) hx hb ht zin_Reader hown hK hP 0 rfl rfl 2 (by decide) (ht _ zw_273) (fun _ h9 => h9) rfl d_Reader_makeNumerator_34 ?_
    refine lv_iload_n hx hb d_Reader_makeNumerator_37 rfl (lv_at hl 1 rfl) ?_
    refine lv_bipush (v := (9 : Int32)) hx hb d_Reader_makeNumerator_38 (by decide) ?_
    refine z_callv (wc := [(h1, .inr (1, o_Code I1 a1_0 h3 a1_3)), (h3, .inl (cA3, n3, .inl f3))]) (wr := [(h0, .inr (8, o_Reader I0 a0_0 h1 h2)), (h2, .inr (9, o_Section I2))]) [1, 3] [0, 2] (va_runV (As := [.int x1, .int (9 : Int32)]) (rest := []) ⟨hx, hb, hml, hown, ht⟩ (m_Code_change l dC dI hv) ⟨(callB_of 2 ht (zG_in zi_Code_change) rfl rfl rfl (ht _ zw_111) (ht _ zw_769) zh_Code_change ⟨Nat.le_of_ble_eq_true rfl, Nat.le_of_ble_eq_true rfl⟩), (ht _ zw_770), (ht _ zw_771)⟩ ⟨zPc_blind, va_recv hK hP (ci := 1) (q0 := 1) rfl rfl, zPc_pre hP hK hD hS hA hE [1, 3] [0] rfl rfl (by decide) rfl⟩ rfl rfl hl.1 rfl (lv_room (Nat.le_of_ble_eq_true rfl)) d_Reader_makeNumerator_40 ⟨Nat.le_of_ble_eq_true rfl, Nat.le_of_ble_eq_true rfl⟩) hP hD hS hA rfl rfl (by decide) (by decide) (fun u H locs hv hP hD hS => ?_)
    have hP : va_P (dC, dI) zCl [(h0, .inr (8, o_Reader I0 a0_0 h1 h2)), (h1, .inr (1, o_Code I1 a1_0 h3 a1_3)), (h2, .inr (9, o_Section I2)), (h3, .inl (cA3, n3, .inl u))] H := hP.sub [0, 2, 1, 3] rfl
    have hD : va_D A [(h0, .inr (8, o_Reader I0 a0_0 h1 h2)), (h1, .inr (1, o_Code I1 a1_0 h3 a1_3)), (h2, .inr (9, o_Section I2)), (h3, .inl (cA3, n3, .inl u))] := hD.sub [0, 2, 1, 3] (by decide) rfl
    exact b_Reader_makeNumerator_43 hc hA hE hk10 (lv_sub hl [0, 1] rfl) hK hP hD hS hv
set_option maxHeartbeats 4000000 in
set_option maxRecDepth 100000 in
theorem b_Reader_makeNumerator_10 {h0 : Nat} {a0_0 : Nat} {h1 : Nat} {a1_0 : Nat} {a1_3 : Nat} {h2 : Nat} {h3 : Nat} {cA3 : ClassId} {I0 : Nat → Int32} {I1 : Nat → Int32} {n3 : Nat}  {Z : (Nat → Int32) × (Nat → Int32) → Prop} (hc : zC p s m args meth c prog_9_method_21_code none 2 "NumberDress$Reader") (hA : ∀ q : Nat, s.heap.size ≤ q → A q) (hE : zE gE A s) : ∀ (N : Nat) (I2 : Nat → Int32) (f3 : Nat → Int32) (x1 : Int32) (H : Heap) (locs : List Loc) (ls : Array Slot), lv_has ls 2 [(0, .ref h0), (1, .int x1)] → va_K (dC, dI) zCl [(cA3, .int)] s → va_P (dC, dI) zCl [(h0, .inr (8, o_Reader I0 a0_0 h1 h2)), (h1, .inr (1, o_Code I1 a1_0 h3 a1_3)), (h2, .inr (9, o_Section I2)), (h3, .inl (cA3, n3, .inl f3))] H → va_D A [(h0, .inr (8, o_Reader I0 a0_0 h1 h2)), (h1, .inr (1, o_Code I1 a1_0 h3 a1_3)), (h2, .inr (9, o_Section I2)), (h3, .inl (cA3, n3, .inl f3))] → va_S A s.heap H locs → v_Reader_makeNumerator_10 I0 I1 n3  Z N I2 f3 x1 → W p l e (headSpec (Cond.code (⟨"NumberDress$Reader", "makeNumerator", "()V"⟩ : MethodName) prog_9_method_21_code 2 none :: zT) { frames := 1, cells := 0, slots := 0, locals := 22 }).room s m args below meth c H locs 0 0 (MQ below (va_Qv Z (zB (dC, dI) zCl [(cA3, .int)] A (fun u : (Nat → Int32) × (Nat → Int32) => [(h0, .inr (8, o_Reader I0 a0_0 h1 h2)), (h1, .inr (1, o_Code I1 a1_0 h3 a1_3)), (h2, .inr (9, o_Section u.1)), (h3, .inl (cA3, n3, .inl u.2))])) A) args s 0 0 A) (F0 m 10 ls []) := by
  obtain ⟨hx, hb, hr, hml, hown, ht, hlocks⟩ := id hc
  intro N
  induction N with
  | zero => intro I2 f3 x1 H locs ls hl hK hP hD hS hv; exact hv.elim
  | succ N hk10 =>
    intro I2 f3 x1 H locs ls hl hK hP hD hS hv
    unfold v_Reader_makeNumerator_10 at hv
    refine lv_iload_n hx hb d_Reader_makeNumerator_10 rfl (lv_at hl 1 rfl) ?_
    refine lv_aload_n hx hb d_Reader_makeNumerator_11 rfl (lv_at hl 0 rfl) ?_
    refine va_get (D := (dC, dI)) (ci := 8) (v := .ref h2) (C := "NumberDress$Reader") (T := T_Reader) (N := 5) hx hb ht zin_Reader hown hK hP 0 rfl rfl 3 (by decide) (ht _ zw_274) (fun _ h9 => h9) rfl d_Reader_makeNumerator_12 ?_
    refine va_get (D := (dC, dI)) (ci := 9) (v := .int (I2 1)) (C := "NumberDress$Section") (T := T_Section) (N := 15) hx hb ht zin_Section hown hK hP 2 rfl rfl 1 (by decide) (ht _ zw_167) (fun _ h9 => h9) rfl d_Reader_makeNumerator_15 ?_
    refine lv_icmp_lt (tgt := 75) hx hb d_Reader_makeNumerator_18 (by decide) (fun c_1 => ?_) (fun c_1 => ?_)
    · have hv := hv.1 c_1
      exact W.vret hx hb hr (fun t ht hW => ⟨⟨(I2, f3), rfl, hv, ⟨by rw [ht]; exact hP, va_K.moved hW.alike hK, hD⟩⟩, hS.F ht⟩) hS.2.2 d_Reader_makeNumerator_75
    · have hv := hv.2 c_1
      refine lv_aload_n hx hb d_Reader_makeNumerator_21 rfl (lv_at hl 0 rfl) ?_
      refine va_get (D := (dC, dI)) (ci := 8) (v := .ref h1) (C := "NumberDress$Reader") (T := T_Reader) (N := 5) hx hb ht zin_Reader hown hK hP 0 rfl rfl 2 (by decide) (ht _ zw_273) (fun _ h9 => h9) rfl d_Reader_makeNumerator_22 ?_
      refine lv_iload_n hx hb d_Reader_makeNumerator_25 rfl (lv_at hl 1 rfl) ?_
      refine z_calli (wc := [(h1, .inr (1, o_Code I1 a1_0 h3 a1_3)), (h3, .inl (cA3, n3, .inl f3))]) (wr := [(h0, .inr (8, o_Reader I0 a0_0 h1 h2)), (h2, .inr (9, o_Section I2))]) [1, 3] [0, 2] (va_runV (As := [.int x1]) (rest := []) ⟨hx, hb, hml, hown, ht⟩ (m_Code_kind l dC dI hv) ⟨(callB_of 1 ht (zG_in zi_Code_kind) rfl rfl rfl (ht _ zw_111) (ht _ zw_738) zh_Code_kind ⟨Nat.le_of_ble_eq_true rfl, Nat.le_of_ble_eq_true rfl⟩), (ht _ zw_739), (ht _ zw_740)⟩ ⟨zPc_blind, va_recv hK hP (ci := 1) (q0 := 1) rfl rfl, zPc_pre hP hK hD hS hA hE [1, 3] [0] rfl rfl (by decide) rfl⟩ rfl rfl hl.1 rfl (lv_room (Nat.le_of_ble_eq_true rfl)) d_Reader_makeNumerator_26 ⟨Nat.le_of_ble_eq_true rfl, Nat.le_of_ble_eq_true rfl⟩) hP hD hS hA rfl rfl (by decide) (by decide) (fun r u H locs hv hP hD hS => ?_)
      have hP : va_P (dC, dI) zCl [(h0, .inr (8, o_Reader I0 a0_0 h1 h2)), (h1, .inr (1, o_Code I1 a1_0 h3 a1_3)), (h2, .inr (9, o_Section I2)), (h3, .inl (cA3, n3, .inl f3))] H := hP.sub [0, 2, 1, 3] rfl
      have hD : va_D A [(h0, .inr (8, o_Reader I0 a0_0 h1 h2)), (h1, .inr (1, o_Code I1 a1_0 h3 a1_3)), (h2, .inr (9, o_Section I2)), (h3, .inl (cA3, n3, .inl f3))] := hD.sub [0, 2, 1, 3] (by decide) rfl
      exact b_Reader_makeNumerator_29 hc hA hE hk10 (lv_sub hl [0, 1] rfl) hK hP hD hS hv
set_option maxHeartbeats 4000000 in
set_option maxRecDepth 100000 in
theorem b_Reader_makeNumerator_0 {h0 : Nat} {a0_0 : Nat} {h1 : Nat} {a1_0 : Nat} {a1_3 : Nat} {h2 : Nat} {h3 : Nat} {cA3 : ClassId} {I0 : Nat → Int32} {I1 : Nat → Int32} {I2 : Nat → Int32} {n3 : Nat} {f3 : Nat → Int32}  {Z : (Nat → Int32) × (Nat → Int32) → Prop} {H : Heap} {locs : List Loc} {ls : Array Slot} (hc : zC p s m args meth c prog_9_method_21_code none 2 "NumberDress$Reader") (hA : ∀ q : Nat, s.heap.size ≤ q → A q) (hE : zE gE A s) (hl : lv_has ls 2 [(0, .ref h0)]) (hK : va_K (dC, dI) zCl [(cA3, .int)] s) (hP : va_P (dC, dI) zCl [(h0, .inr (8, o_Reader I0 a0_0 h1 h2)), (h1, .inr (1, o_Code I1 a1_0 h3 a1_3)), (h2, .inr (9, o_Section I2)), (h3, .inl (cA3, n3, .inl f3))] H) (hD : va_D A [(h0, .inr (8, o_Reader I0 a0_0 h1 h2)), (h1, .inr (1, o_Code I1 a1_0 h3 a1_3)), (h2, .inr (9, o_Section I2)), (h3, .inl (cA3, n3, .inl f3))]) (hS : va_S A s.heap H locs) (hv : v_Reader_makeNumerator_0 I0 I1 I2 n3 f3  Z) : W p l e (headSpec (Cond.code (⟨"NumberDress$Reader", "makeNumerator", "()V"⟩ : MethodName) prog_9_method_21_code 2 none :: zT) { frames := 1, cells := 0, slots := 0, locals := 22 }).room s m args below meth c H locs 0 0 (MQ below (va_Qv Z (zB (dC, dI) zCl [(cA3, .int)] A (fun u : (Nat → Int32) × (Nat → Int32) => [(h0, .inr (8, o_Reader I0 a0_0 h1 h2)), (h1, .inr (1, o_Code I1 a1_0 h3 a1_3)), (h2, .inr (9, o_Section u.1)), (h3, .inl (cA3, n3, .inl u.2))])) A) args s 0 0 A) (F0 m 0 ls []) := by
  obtain ⟨hx, hb, hr, hml, hown, ht, hlocks⟩ := id hc
  unfold v_Reader_makeNumerator_0 at hv
  refine lv_aload_n hx hb d_Reader_makeNumerator_0 rfl (lv_at hl 0 rfl) ?_
  refine va_get (D := (dC, dI)) (ci := 8) (v := .ref h1) (C := "NumberDress$Reader") (T := T_Reader) (N := 5) hx hb ht zin_Reader hown hK hP 0 rfl rfl 2 (by decide) (ht _ zw_273) (fun _ h9 => h9) rfl d_Reader_makeNumerator_1 ?_
  refine va_get (D := (dC, dI)) (ci := 1) (v := .int (I1 4)) (C := "NumberDress$Code") (T := T_Code) (N := 5) hx hb ht zin_Code hown hK hP 1 rfl rfl 4 (by decide) (ht _ zw_249) (fun _ h9 => h9) rfl d_Reader_makeNumerator_4 ?_
  refine lv_iconst (v := (1 : Int32)) hx hb d_Reader_makeNumerator_7 (by decide) ?_
  refine lv_isub hx hb d_Reader_makeNumerator_8 ?_
  refine lv_istore_n (lv' := [(1, .int ((I1 4) - (1 : Int32))), (0, .ref h0)]) hx hb d_Reader_makeNumerator_9 rfl hl (by decide) rfl (fun ls hl => ?_)
  obtain ⟨Nx, hv⟩ := hv
  exact b_Reader_makeNumerator_10 hc hA hE  Nx I2 f3 ((I1 4) - (1 : Int32)) _ _ _ (lv_sub hl [1, 0] rfl) hK hP hD hS hv
theorem zi_Reader_makeNumerator : Cond.code (⟨"NumberDress$Reader", "makeNumerator", "()V"⟩ : MethodName) prog_9_method_21_code 2 none ∈ zT := zw_768
theorem zh_Reader_makeNumerator : (((⟨"NumberDress$Reader", "makeNumerator", "()V"⟩ : MethodName)).cls ≠ "java/lang/invoke/MethodHandle" ∧ ((⟨"NumberDress$Reader", "makeNumerator", "()V"⟩ : MethodName)).cls ≠ "java/lang/invoke/VarHandle" ∧ (parseMethodDescriptor ((⟨"NumberDress$Reader", "makeNumerator", "()V"⟩ : MethodName)).desc).map (fun d => d.parameters.length) = some 0) := by decide +kernel
set_option maxHeartbeats 4000000 in
set_option maxRecDepth 100000 in
theorem m_Reader_makeNumerator (l : Launch) (dC : Nat → ClassId) (dI : Nat → Nat → Nat) {gE : zG} {h0 : Nat} {a0_0 : Nat} {h1 : Nat} {a1_0 : Nat} {a1_3 : Nat} {h2 : Nat} {h3 : Nat} {cA3 : ClassId} {I0 : Nat → Int32} {I1 : Nat → Int32} {I2 : Nat → Int32} {n3 : Nat} {f3 : Nat → Int32} {sz : Nat} {Z : (Nat → Int32) × (Nat → Int32) → Prop} (hv : v_Reader_makeNumerator_0 I0 I1 I2 n3 f3 Z) : Met l (⟨"NumberDress$Reader", "makeNumerator", "()V"⟩ : MethodName) (Cond.code (⟨"NumberDress$Reader", "makeNumerator", "()V"⟩ : MethodName) prog_9_method_21_code 2 none :: zT) { frames := 1, cells := 0, slots := 0, locals := 22 } (zPc gE (dC, dI) zCl [(cA3, .int)] [.ref h0] sz [(h0, .inr (8, o_Reader I0 a0_0 h1 h2)), (h1, .inr (1, o_Code I1 a1_0 h3 a1_3)), (h2, .inr (9, o_Section I2)), (h3, .inl (cA3, n3, .inl f3))]) (va_Qv Z (zB (dC, dI) zCl [(cA3, .int)] (va_A [(h0, .inr (8, o_Reader I0 a0_0 h1 h2)), (h1, .inr (1, o_Code I1 a1_0 h3 a1_3)), (h2, .inr (9, o_Section I2)), (h3, .inl (cA3, n3, .inl f3))] sz) (fun u : (Nat → Int32) × (Nat → Int32) => [(h0, .inr (8, o_Reader I0 a0_0 h1 h2)), (h1, .inr (1, o_Code I1 a1_0 h3 a1_3)), (h2, .inr (9, o_Section u.1)), (h3, .inl (cA3, n3, .inl u.2))])) (va_A [(h0, .inr (8, o_Reader I0 a0_0 h1 h2)), (h1, .inr (1, o_Code I1 a1_0 h3 a1_3)), (h2, .inr (9, o_Section I2)), (h3, .inl (cA3, n3, .inl f3))] sz)) 0 0 (va_A [(h0, .inr (8, o_Reader I0 a0_0 h1 h2)), (h1, .inr (1, o_Code I1 a1_0 h3 a1_3)), (h2, .inr (9, o_Section I2)), (h3, .inl (cA3, n3, .inl f3))] sz) := by
  refine Met.ofW (cc := prog_9_method_21_code) (maxL := 2) (ret := none) (by decide +kernel) rfl ?_
  intro p e s m args below meth c s₁ B hml hp
  obtain ⟨rfl, hsz, hP, hK, hD0, hE⟩ := hp
  have hts := atoms_spec (ws := (Cond.code (⟨"NumberDress$Reader", "makeNumerator", "()V"⟩ : MethodName) prog_9_method_21_code 2 none :: zT)) B.pre
  have hown : s.vm.findClass "NumberDress$Reader" = some m.cls := findClass_of_methodNamed B.named
  have hc : zC p s m _ meth c prog_9_method_21_code none 2 "NumberDress$Reader" := ⟨B.exec, B.bytes, B.returns, hml, hown, fun w h => hts w (List.mem_cons_of_mem _ h), B.notSynchronized⟩
  subst hsz
  have hD := hD0.self (sz := s.heap.size)
  generalize hAe : va_A [(h0, .inr (8, o_Reader I0 a0_0 h1 h2)), (h1, .inr (1, o_Code I1 a1_0 h3 a1_3)), (h2, .inr (9, o_Section I2)), (h3, .inl (cA3, n3, .inl f3))] s.heap.size = A at hD hE ⊢
  have hA : ∀ q : Nat, s.heap.size ≤ q → A q := fun q h => by rw [← hAe]; exact Or.inr h
  have hl := lv_entry ([.ref h0]) (n := 2) (Nat.le_of_ble_eq_true rfl)
  rw [lg_entry_eq]
  exact b_Reader_makeNumerator_0 hc hA hE hl hK hP hD va_S.rf hv
theorem d_Reader_placesFrom_0 : decode prog_9_method_22_code 0 = .ok (.iconst 0, 1) := by decide +kernel
theorem d_Reader_placesFrom_1 : decode prog_9_method_22_code 1 = .ok (.istore_n 2, 1) := by decide +kernel
theorem d_Reader_placesFrom_2 : decode prog_9_method_22_code 2 = .ok (.iload_n 2, 1) := by decide +kernel
theorem d_Reader_placesFrom_3 : decode prog_9_method_22_code 3 = .ok (.iconst 3, 1) := by decide +kernel
theorem d_Reader_placesFrom_4 : decode prog_9_method_22_code 4 = .ok (.if_icmp .ge 22, 3) := by decide +kernel
theorem d_Reader_placesFrom_7 : decode prog_9_method_22_code 7 = .ok (.aload_n 0, 1) := by decide +kernel
theorem d_Reader_placesFrom_8 : decode prog_9_method_22_code 8 = .ok (.iload_n 1, 1) := by decide +kernel
theorem d_Reader_placesFrom_9 : decode prog_9_method_22_code 9 = .ok (.iload_n 2, 1) := by decide +kernel
theorem d_Reader_placesFrom_10 : decode prog_9_method_22_code 10 = .ok (.iadd, 1) := by decide +kernel
theorem d_Reader_placesFrom_11 : decode prog_9_method_22_code 11 = .ok (.invokevirtual 86, 3) := by decide +kernel
theorem d_Reader_placesFrom_14 : decode prog_9_method_22_code 14 = .ok (.invokestatic 102, 3) := by decide +kernel
theorem d_Reader_placesFrom_17 : decode prog_9_method_22_code 17 = .ok (.ifCond .eq 9, 3) := by decide +kernel
theorem d_Reader_placesFrom_20 : decode prog_9_method_22_code 20 = .ok (.iinc 2 1, 3) := by decide +kernel
theorem d_Reader_placesFrom_23 : decode prog_9_method_22_code 23 = .ok (.goto (-21), 3) := by decide +kernel
theorem d_Reader_placesFrom_26 : decode prog_9_method_22_code 26 = .ok (.iload_n 2, 1) := by decide +kernel
theorem d_Reader_placesFrom_27 : decode prog_9_method_22_code 27 = .ok (.ireturn, 1) := by decide +kernel
set_option maxHeartbeats 4000000 in
set_option maxRecDepth 100000 in
theorem b_Reader_placesFrom_17 {h0 : Nat} {a0_2 : Nat} {a0_3 : Nat} {h1 : Nat} {cA1 : ClassId} {I0 : Nat → Int32} {n1 : Nat} {f1 : Nat → Int32} {x1 : Int32} {x2 : Int32} {s0 : Int32} {k2 : Int32 → Prop} {Z : Int32 → Unit → Prop} {H : Heap} {locs : List Loc} {ls : Array Slot} (hc : zC p s m args meth c prog_9_method_22_code (some .int) 3 "NumberDress$Reader") (hA : ∀ q : Nat, s.heap.size ≤ q → A q) (hE : zE gE A s) (hk2 : ∀ (x2 : Int32) (H : Heap) (locs : List Loc) (ls : Array Slot), lv_has ls 3 [(0, .ref h0), (1, .int x1), (2, .int x2)] → va_K (dC, dI) zCl [(cA1, .char)] s → va_P (dC, dI) zCl [(h0, .inr (8, o_Reader I0 h1 a0_2 a0_3)), (h1, .inl (cA1, n1, .inl f1))] H → va_D A [(h0, .inr (8, o_Reader I0 h1 a0_2 a0_3)), (h1, .inl (cA1, n1, .inl f1))] → va_S A s.heap H locs → k2 x2 → W p l e (headSpec (Cond.code (⟨"NumberDress$Reader", "placesFrom", "(I)I"⟩ : MethodName) prog_9_method_22_code 3 (some .int) :: zT) { frames := 1, cells := 0, slots := 0, locals := 21 }).room s m args below meth c H locs 0 0 (MQ below (va_Qi Z (zB (dC, dI) zCl [(cA1, .char)] A (fun u : Unit => [(h0, .inr (8, o_Reader I0 h1 a0_2 a0_3)), (h1, .inl (cA1, n1, .inl f1))])) A) args s 0 0 A) (F0 m 2 ls [])) (hl : lv_has ls 3 [(0, .ref h0), (1, .int x1), (2, .int x2)]) (hK : va_K (dC, dI) zCl [(cA1, .char)] s) (hP : va_P (dC, dI) zCl [(h0, .inr (8, o_Reader I0 h1 a0_2 a0_3)), (h1, .inl (cA1, n1, .inl f1))] H) (hD : va_D A [(h0, .inr (8, o_Reader I0 h1 a0_2 a0_3)), (h1, .inl (cA1, n1, .inl f1))]) (hS : va_S A s.heap H locs) (hv : v_Reader_placesFrom_17 I0 n1 f1 x1 x2 s0 k2 Z) : W p l e (headSpec (Cond.code (⟨"NumberDress$Reader", "placesFrom", "(I)I"⟩ : MethodName) prog_9_method_22_code 3 (some .int) :: zT) { frames := 1, cells := 0, slots := 0, locals := 21 }).room s m args below meth c H locs 0 0 (MQ below (va_Qi Z (zB (dC, dI) zCl [(cA1, .char)] A (fun u : Unit => [(h0, .inr (8, o_Reader I0 h1 a0_2 a0_3)), (h1, .inl (cA1, n1, .inl f1))])) A) args s 0 0 A) (F0 m 17 ls [.int s0]) := by
  obtain ⟨hx, hb, hr, hml, hown, ht, hlocks⟩ := id hc
  unfold v_Reader_placesFrom_17 at hv
  refine lv_if_eq (tgt := 26) hx hb d_Reader_placesFrom_17 (by decide) (fun c_1 => ?_) (fun c_1 => ?_)
  · have hv := hv.1 c_1
    refine lv_iload_n hx hb d_Reader_placesFrom_26 rfl (lv_at hl 2 rfl) ?_
    exact W.iret (v := x2) hx hb hr (fun t ht hW => ⟨⟨_, (), rfl, hv, ⟨by rw [ht]; exact hP, va_K.moved hW.alike hK, hD⟩⟩, hS.F ht⟩) hS.2.2 d_Reader_placesFrom_27
  · have hv := hv.2 c_1
    refine lv_iinc (v := (x2 + (1 : Int32))) (lv' := [(2, .int (x2 + (1 : Int32))), (0, .ref h0), (1, .int x1)]) hx hb d_Reader_placesFrom_20 hl (k := 2) rfl rfl (by decide) rfl (fun ls hl => ?_)
    refine lv_goto (tgt := 2) hx hb d_Reader_placesFrom_23 (by decide) ?_
    exact hk2 (x2 + (1 : Int32)) _ _ _ (lv_sub hl [1, 2, 0] rfl) hK hP hD hS hv
set_option maxHeartbeats 4000000 in
set_option maxRecDepth 100000 in
theorem b_Reader_placesFrom_14 {h0 : Nat} {a0_2 : Nat} {a0_3 : Nat} {h1 : Nat} {cA1 : ClassId} {I0 : Nat → Int32} {n1 : Nat} {f1 : Nat → Int32} {x1 : Int32} {x2 : Int32} {s0 : Int32} {k2 : Int32 → Prop} {Z : Int32 → Unit → Prop} {H : Heap} {locs : List Loc} {ls : Array Slot} (hc : zC p s m args meth c prog_9_method_22_code (some .int) 3 "NumberDress$Reader") (hA : ∀ q : Nat, s.heap.size ≤ q → A q) (hE : zE gE A s) (hk2 : ∀ (x2 : Int32) (H : Heap) (locs : List Loc) (ls : Array Slot), lv_has ls 3 [(0, .ref h0), (1, .int x1), (2, .int x2)] → va_K (dC, dI) zCl [(cA1, .char)] s → va_P (dC, dI) zCl [(h0, .inr (8, o_Reader I0 h1 a0_2 a0_3)), (h1, .inl (cA1, n1, .inl f1))] H → va_D A [(h0, .inr (8, o_Reader I0 h1 a0_2 a0_3)), (h1, .inl (cA1, n1, .inl f1))] → va_S A s.heap H locs → k2 x2 → W p l e (headSpec (Cond.code (⟨"NumberDress$Reader", "placesFrom", "(I)I"⟩ : MethodName) prog_9_method_22_code 3 (some .int) :: zT) { frames := 1, cells := 0, slots := 0, locals := 21 }).room s m args below meth c H locs 0 0 (MQ below (va_Qi Z (zB (dC, dI) zCl [(cA1, .char)] A (fun u : Unit => [(h0, .inr (8, o_Reader I0 h1 a0_2 a0_3)), (h1, .inl (cA1, n1, .inl f1))])) A) args s 0 0 A) (F0 m 2 ls [])) (hl : lv_has ls 3 [(0, .ref h0), (1, .int x1), (2, .int x2)]) (hK : va_K (dC, dI) zCl [(cA1, .char)] s) (hP : va_P (dC, dI) zCl [(h0, .inr (8, o_Reader I0 h1 a0_2 a0_3)), (h1, .inl (cA1, n1, .inl f1))] H) (hD : va_D A [(h0, .inr (8, o_Reader I0 h1 a0_2 a0_3)), (h1, .inl (cA1, n1, .inl f1))]) (hS : va_S A s.heap H locs) (hv : v_Reader_placesFrom_14 I0 n1 f1 x1 x2 s0 k2 Z) : W p l e (headSpec (Cond.code (⟨"NumberDress$Reader", "placesFrom", "(I)I"⟩ : MethodName) prog_9_method_22_code 3 (some .int) :: zT) { frames := 1, cells := 0, slots := 0, locals := 21 }).room s m args below meth c H locs 0 0 (MQ below (va_Qi Z (zB (dC, dI) zCl [(cA1, .char)] A (fun u : Unit => [(h0, .inr (8, o_Reader I0 h1 a0_2 a0_3)), (h1, .inl (cA1, n1, .inl f1))])) A) args s 0 0 A) (F0 m 14 ls [.int s0]) := by
  obtain ⟨hx, hb, hr, hml, hown, ht, hlocks⟩ := id hc
  unfold v_Reader_placesFrom_14 at hv
  refine z_calli (wc := []) (wr := [(h0, .inr (8, o_Reader I0 h1 a0_2 a0_3)), (h1, .inl (cA1, n1, .inl f1))]) [] [0, 1] (va_runS (As := [.int s0]) (rest := []) ⟨hx, hb, hml, hown, ht⟩ (m_Reader_isPlace l dC dI hv) ⟨(callB_of 1 ht (zG_in zi_Reader_isPlace) rfl rfl rfl (ht _ zw_113) (ht _ zw_678) zh_Reader_isPlace ⟨Nat.le_of_ble_eq_true rfl, Nat.le_of_ble_eq_true rfl⟩), (ht _ zw_679)⟩ ⟨zPc_blind, zPc_pre hP hK hD hS hA hE [] [] rfl rfl (by decide) rfl⟩ rfl rfl hl.1 rfl (lv_room (Nat.le_of_ble_eq_true rfl)) d_Reader_placesFrom_14 ⟨Nat.le_of_ble_eq_true rfl, Nat.le_of_ble_eq_true rfl⟩) hP hD hS hA rfl rfl (by decide) (by decide) (fun r u H locs hv hP hD hS => ?_)
  have hP : va_P (dC, dI) zCl [(h0, .inr (8, o_Reader I0 h1 a0_2 a0_3)), (h1, .inl (cA1, n1, .inl f1))] H := hP.sub [0, 1] rfl
  have hD : va_D A [(h0, .inr (8, o_Reader I0 h1 a0_2 a0_3)), (h1, .inl (cA1, n1, .inl f1))] := hD.sub [0, 1] (by decide) rfl
  exact b_Reader_placesFrom_17 hc hA hE hk2 (lv_sub hl [0, 1, 2] rfl) hK hP hD hS hv
set_option maxHeartbeats 4000000 in
set_option maxRecDepth 100000 in
theorem b_Reader_placesFrom_2 {h0 : Nat} {a0_2 : Nat} {a0_3 : Nat} {h1 : Nat} {cA1 : ClassId} {I0 : Nat → Int32} {n1 : Nat} {f1 : Nat → Int32} {x1 : Int32}  {Z : Int32 → Unit → Prop} (hc : zC p s m args meth c prog_9_method_22_code (some .int) 3 "NumberDress$Reader") (hA : ∀ q : Nat, s.heap.size ≤ q → A q) (hE : zE gE A s) : ∀ (N : Nat) (x2 : Int32) (H : Heap) (locs : List Loc) (ls : Array Slot), lv_has ls 3 [(0, .ref h0), (1, .int x1), (2, .int x2)] → va_K (dC, dI) zCl [(cA1, .char)] s → va_P (dC, dI) zCl [(h0, .inr (8, o_Reader I0 h1 a0_2 a0_3)), (h1, .inl (cA1, n1, .inl f1))] H → va_D A [(h0, .inr (8, o_Reader I0 h1 a0_2 a0_3)), (h1, .inl (cA1, n1, .inl f1))] → va_S A s.heap H locs → v_Reader_placesFrom_2 I0 n1 f1 x1  Z N x2 → W p l e (headSpec (Cond.code (⟨"NumberDress$Reader", "placesFrom", "(I)I"⟩ : MethodName) prog_9_method_22_code 3 (some .int) :: zT) { frames := 1, cells := 0, slots := 0, locals := 21 }).room s m args below meth c H locs 0 0 (MQ below (va_Qi Z (zB (dC, dI) zCl [(cA1, .char)] A (fun u : Unit => [(h0, .inr (8, o_Reader I0 h1 a0_2 a0_3)), (h1, .inl (cA1, n1, .inl f1))])) A) args s 0 0 A) (F0 m 2 ls []) := by
  obtain ⟨hx, hb, hr, hml, hown, ht, hlocks⟩ := id hc
  intro N
  induction N with
  | zero => intro x2 H locs ls hl hK hP hD hS hv; exact hv.elim
  | succ N hk2 =>
    intro x2 H locs ls hl hK hP hD hS hv
    unfold v_Reader_placesFrom_2 at hv
    refine lv_iload_n hx hb d_Reader_placesFrom_2 rfl (lv_at hl 2 rfl) ?_
    refine lv_iconst (v := (3 : Int32)) hx hb d_Reader_placesFrom_3 (by decide) ?_
    refine lv_icmp_ge (tgt := 26) hx hb d_Reader_placesFrom_4 (by decide) (fun c_1 => ?_) (fun c_1 => ?_)
    · have hv := hv.1 c_1
      refine lv_iload_n hx hb d_Reader_placesFrom_26 rfl (lv_at hl 2 rfl) ?_
      exact W.iret (v := x2) hx hb hr (fun t ht hW => ⟨⟨_, (), rfl, hv, ⟨by rw [ht]; exact hP, va_K.moved hW.alike hK, hD⟩⟩, hS.F ht⟩) hS.2.2 d_Reader_placesFrom_27
    · have hv := hv.2 c_1
      refine lv_aload_n hx hb d_Reader_placesFrom_7 rfl (lv_at hl 0 rfl) ?_
      refine lv_iload_n hx hb d_Reader_placesFrom_8 rfl (lv_at hl 1 rfl) ?_
      refine lv_iload_n hx hb d_Reader_placesFrom_9 rfl (lv_at hl 2 rfl) ?_
      refine lv_iadd hx hb d_Reader_placesFrom_10 ?_
      refine z_calli (wc := [(h0, .inr (8, o_Reader I0 h1 a0_2 a0_3)), (h1, .inl (cA1, n1, .inl f1))]) (wr := []) [0, 1] [] (va_runV (As := [.int (x1 + x2)]) (rest := []) ⟨hx, hb, hml, hown, ht⟩ (m_Reader_sign l dC dI hv) ⟨(callB_of 1 ht (zG_in zi_Reader_sign) rfl rfl rfl (ht _ zw_113) (ht _ zw_512) zh_Reader_sign ⟨Nat.le_of_ble_eq_true rfl, Nat.le_of_ble_eq_true rfl⟩), (ht _ zw_514), (ht _ zw_1)⟩ ⟨zPc_blind, va_recv hK hP (ci := 8) (q0 := 0) rfl rfl, zPc_pre hP hK hD hS hA hE [0, 1] [0] rfl rfl (by decide) rfl⟩ rfl rfl hl.1 rfl (lv_room (Nat.le_of_ble_eq_true rfl)) d_Reader_placesFrom_11 ⟨Nat.le_of_ble_eq_true rfl, Nat.le_of_ble_eq_true rfl⟩) hP hD hS hA rfl rfl (by decide) (by decide) (fun r u H locs hv hP hD hS => ?_)
      have hP : va_P (dC, dI) zCl [(h0, .inr (8, o_Reader I0 h1 a0_2 a0_3)), (h1, .inl (cA1, n1, .inl f1))] H := hP.sub [0, 1] rfl
      have hD : va_D A [(h0, .inr (8, o_Reader I0 h1 a0_2 a0_3)), (h1, .inl (cA1, n1, .inl f1))] := hD.sub [0, 1] (by decide) rfl
      exact b_Reader_placesFrom_14 hc hA hE hk2 (lv_sub hl [0, 1, 2] rfl) hK hP hD hS hv
set_option maxHeartbeats 4000000 in
set_option maxRecDepth 100000 in
theorem b_Reader_placesFrom_0 {h0 : Nat} {a0_2 : Nat} {a0_3 : Nat} {h1 : Nat} {cA1 : ClassId} {I0 : Nat → Int32} {n1 : Nat} {f1 : Nat → Int32} {x1 : Int32}  {Z : Int32 → Unit → Prop} {H : Heap} {locs : List Loc} {ls : Array Slot} (hc : zC p s m args meth c prog_9_method_22_code (some .int) 3 "NumberDress$Reader") (hA : ∀ q : Nat, s.heap.size ≤ q → A q) (hE : zE gE A s) (hl : lv_has ls 3 [(0, .ref h0), (1, .int x1)]) (hK : va_K (dC, dI) zCl [(cA1, .char)] s) (hP : va_P (dC, dI) zCl [(h0, .inr (8, o_Reader I0 h1 a0_2 a0_3)), (h1, .inl (cA1, n1, .inl f1))] H) (hD : va_D A [(h0, .inr (8, o_Reader I0 h1 a0_2 a0_3)), (h1, .inl (cA1, n1, .inl f1))]) (hS : va_S A s.heap H locs) (hv : v_Reader_placesFrom_0 I0 n1 f1 x1  Z) : W p l e (headSpec (Cond.code (⟨"NumberDress$Reader", "placesFrom", "(I)I"⟩ : MethodName) prog_9_method_22_code 3 (some .int) :: zT) { frames := 1, cells := 0, slots := 0, locals := 21 }).room s m args below meth c H locs 0 0 (MQ below (va_Qi Z (zB (dC, dI) zCl [(cA1, .char)] A (fun u : Unit => [(h0, .inr (8, o_Reader I0 h1 a0_2 a0_3)), (h1, .inl (cA1, n1, .inl f1))])) A) args s 0 0 A) (F0 m 0 ls []) := by
  obtain ⟨hx, hb, hr, hml, hown, ht, hlocks⟩ := id hc
  unfold v_Reader_placesFrom_0 at hv
  refine lv_iconst (v := (0 : Int32)) hx hb d_Reader_placesFrom_0 (by decide) ?_
  refine lv_istore_n (lv' := [(2, .int (0 : Int32)), (0, .ref h0), (1, .int x1)]) hx hb d_Reader_placesFrom_1 rfl hl (by decide) rfl (fun ls hl => ?_)
  obtain ⟨Nx, hv⟩ := hv
  exact b_Reader_placesFrom_2 hc hA hE  Nx (0 : Int32) _ _ _ (lv_sub hl [1, 2, 0] rfl) hK hP hD hS hv
theorem zi_Reader_placesFrom : Cond.code (⟨"NumberDress$Reader", "placesFrom", "(I)I"⟩ : MethodName) prog_9_method_22_code 3 (some .int) ∈ zT := zw_749
theorem zh_Reader_placesFrom : (((⟨"NumberDress$Reader", "placesFrom", "(I)I"⟩ : MethodName)).cls ≠ "java/lang/invoke/MethodHandle" ∧ ((⟨"NumberDress$Reader", "placesFrom", "(I)I"⟩ : MethodName)).cls ≠ "java/lang/invoke/VarHandle" ∧ (parseMethodDescriptor ((⟨"NumberDress$Reader", "placesFrom", "(I)I"⟩ : MethodName)).desc).map (fun d => d.parameters.length) = some 1) := by decide +kernel
set_option maxHeartbeats 4000000 in
set_option maxRecDepth 100000 in
theorem m_Reader_placesFrom (l : Launch) (dC : Nat → ClassId) (dI : Nat → Nat → Nat) {gE : zG} {h0 : Nat} {a0_2 : Nat} {a0_3 : Nat} {h1 : Nat} {cA1 : ClassId} {I0 : Nat → Int32} {n1 : Nat} {f1 : Nat → Int32} {x1 : Int32} {sz : Nat} {Z : Int32 → Unit → Prop} (hv : v_Reader_placesFrom_0 I0 n1 f1 x1 Z) : Met l (⟨"NumberDress$Reader", "placesFrom", "(I)I"⟩ : MethodName) (Cond.code (⟨"NumberDress$Reader", "placesFrom", "(I)I"⟩ : MethodName) prog_9_method_22_code 3 (some .int) :: zT) { frames := 1, cells := 0, slots := 0, locals := 21 } (zPc gE (dC, dI) zCl [(cA1, .char)] [.ref h0, .int x1] sz [(h0, .inr (8, o_Reader I0 h1 a0_2 a0_3)), (h1, .inl (cA1, n1, .inl f1))]) (va_Qi Z (zB (dC, dI) zCl [(cA1, .char)] (va_A [(h0, .inr (8, o_Reader I0 h1 a0_2 a0_3)), (h1, .inl (cA1, n1, .inl f1))] sz) (fun u : Unit => [(h0, .inr (8, o_Reader I0 h1 a0_2 a0_3)), (h1, .inl (cA1, n1, .inl f1))])) (va_A [(h0, .inr (8, o_Reader I0 h1 a0_2 a0_3)), (h1, .inl (cA1, n1, .inl f1))] sz)) 0 0 (va_A [(h0, .inr (8, o_Reader I0 h1 a0_2 a0_3)), (h1, .inl (cA1, n1, .inl f1))] sz) := by
  refine Met.ofW (cc := prog_9_method_22_code) (maxL := 3) (ret := (some .int)) (by decide +kernel) rfl ?_
  intro p e s m args below meth c s₁ B hml hp
  obtain ⟨rfl, hsz, hP, hK, hD0, hE⟩ := hp
  have hts := atoms_spec (ws := (Cond.code (⟨"NumberDress$Reader", "placesFrom", "(I)I"⟩ : MethodName) prog_9_method_22_code 3 (some .int) :: zT)) B.pre
  have hown : s.vm.findClass "NumberDress$Reader" = some m.cls := findClass_of_methodNamed B.named
  have hc : zC p s m _ meth c prog_9_method_22_code (some .int) 3 "NumberDress$Reader" := ⟨B.exec, B.bytes, B.returns, hml, hown, fun w h => hts w (List.mem_cons_of_mem _ h), B.notSynchronized⟩
  subst hsz
  have hD := hD0.self (sz := s.heap.size)
  generalize hAe : va_A [(h0, .inr (8, o_Reader I0 h1 a0_2 a0_3)), (h1, .inl (cA1, n1, .inl f1))] s.heap.size = A at hD hE ⊢
  have hA : ∀ q : Nat, s.heap.size ≤ q → A q := fun q h => by rw [← hAe]; exact Or.inr h
  have hl := lv_entry ([.ref h0, .int x1]) (n := 3) (Nat.le_of_ble_eq_true rfl)
  rw [lg_entry_eq]
  exact b_Reader_placesFrom_0 hc hA hE hl hK hP hD va_S.rf hv
theorem d_Section_hasCommaOrPercent_0 : decode prog_10_method_4_code 0 = .ok (.aload_n 0, 1) := by decide +kernel
theorem d_Section_hasCommaOrPercent_1 : decode prog_10_method_4_code 1 = .ok (.getfield 31, 3) := by decide +kernel
theorem d_Section_hasCommaOrPercent_4 : decode prog_10_method_4_code 4 = .ok (.ifCond .ne 17, 3) := by decide +kernel
theorem d_Section_hasCommaOrPercent_7 : decode prog_10_method_4_code 7 = .ok (.aload_n 0, 1) := by decide +kernel
theorem d_Section_hasCommaOrPercent_8 : decode prog_10_method_4_code 8 = .ok (.getfield 34, 3) := by decide +kernel
theorem d_Section_hasCommaOrPercent_11 : decode prog_10_method_4_code 11 = .ok (.ifCond .gt 10, 3) := by decide +kernel
theorem d_Section_hasCommaOrPercent_14 : decode prog_10_method_4_code 14 = .ok (.aload_n 0, 1) := by decide +kernel
theorem d_Section_hasCommaOrPercent_15 : decode prog_10_method_4_code 15 = .ok (.getfield 37, 3) := by decide +kernel
theorem d_Section_hasCommaOrPercent_18 : decode prog_10_method_4_code 18 = .ok (.ifCond .le 7, 3) := by decide +kernel
theorem d_Section_hasCommaOrPercent_21 : decode prog_10_method_4_code 21 = .ok (.iconst 1, 1) := by decide +kernel
theorem d_Section_hasCommaOrPercent_22 : decode prog_10_method_4_code 22 = .ok (.goto 4, 3) := by decide +kernel
theorem d_Section_hasCommaOrPercent_25 : decode prog_10_method_4_code 25 = .ok (.iconst 0, 1) := by decide +kernel
theorem d_Section_hasCommaOrPercent_26 : decode prog_10_method_4_code 26 = .ok (.ireturn, 1) := by decide +kernel
set_option maxHeartbeats 4000000 in
set_option maxRecDepth 100000 in
theorem b_Section_hasCommaOrPercent_0 {h0 : Nat} {I0 : Nat → Int32}  {Z : Int32 → Unit → Prop} {H : Heap} {locs : List Loc} {ls : Array Slot} (hc : zC p s m args meth c prog_10_method_4_code (some .boolean) 1 "NumberDress$Section") (hA : ∀ q : Nat, s.heap.size ≤ q → A q) (hE : zE gE A s) (hl : lv_has ls 1 [(0, .ref h0)]) (hK : va_K (dC, dI) zCl [] s) (hP : va_P (dC, dI) zCl [(h0, .inr (9, o_Section I0))] H) (hD : va_D A [(h0, .inr (9, o_Section I0))]) (hS : va_S A s.heap H locs) (hv : v_Section_hasCommaOrPercent_0 I0  Z) : W p l e (headSpec (Cond.code (⟨"NumberDress$Section", "hasCommaOrPercent", "()Z"⟩ : MethodName) prog_10_method_4_code 1 (some .boolean) :: zT) { frames := 0, cells := 0, slots := 0, locals := 0 }).room s m args below meth c H locs 0 0 (MQ below (va_Qi Z (zB (dC, dI) zCl [] A (fun u : Unit => [(h0, .inr (9, o_Section I0))])) A) args s 0 0 A) (F0 m 0 ls []) := by
  obtain ⟨hx, hb, hr, hml, hown, ht, hlocks⟩ := id hc
  unfold v_Section_hasCommaOrPercent_0 at hv
  refine lv_aload_n hx hb d_Section_hasCommaOrPercent_0 rfl (lv_at hl 0 rfl) ?_
  refine va_get (D := (dC, dI)) (ci := 9) (v := .int (I0 6)) (C := "NumberDress$Section") (T := T_Section) (N := 15) hx hb ht zin_Section hown hK hP 0 rfl rfl 6 (by decide) (ht _ zw_183) (fun _ h9 => h9) rfl d_Section_hasCommaOrPercent_1 ?_
  refine lv_if_ne (tgt := 21) hx hb d_Section_hasCommaOrPercent_4 (by decide) (fun c_1 => ?_) (fun c_1 => ?_)
  · have hv := hv.1 c_1
    refine lv_iconst (v := (1 : Int32)) hx hb d_Section_hasCommaOrPercent_21 (by decide) ?_
    refine lv_goto (tgt := 26) hx hb d_Section_hasCommaOrPercent_22 (by decide) ?_
    exact W.zret (v := (1 : Int32)) hx hb hr (by decide) (fun t ht hW => ⟨⟨_, (), rfl, hv, ⟨by rw [ht]; exact hP, va_K.moved hW.alike hK, hD⟩⟩, hS.F ht⟩) hS.2.2 d_Section_hasCommaOrPercent_26
  · have hv := hv.2 c_1
    refine lv_aload_n hx hb d_Section_hasCommaOrPercent_7 rfl (lv_at hl 0 rfl) ?_
    refine va_get (D := (dC, dI)) (ci := 9) (v := .int (I0 7)) (C := "NumberDress$Section") (T := T_Section) (N := 15) hx hb ht zin_Section hown hK hP 0 rfl rfl 7 (by decide) (ht _ zw_187) (fun _ h9 => h9) rfl d_Section_hasCommaOrPercent_8 ?_
    refine lv_if_gt (tgt := 21) hx hb d_Section_hasCommaOrPercent_11 (by decide) (fun c_2 => ?_) (fun c_2 => ?_)
    · have hv := hv.1 c_2
      refine lv_iconst (v := (1 : Int32)) hx hb d_Section_hasCommaOrPercent_21 (by decide) ?_
      refine lv_goto (tgt := 26) hx hb d_Section_hasCommaOrPercent_22 (by decide) ?_
      exact W.zret (v := (1 : Int32)) hx hb hr (by decide) (fun t ht hW => ⟨⟨_, (), rfl, hv, ⟨by rw [ht]; exact hP, va_K.moved hW.alike hK, hD⟩⟩, hS.F ht⟩) hS.2.2 d_Section_hasCommaOrPercent_26
    · have hv := hv.2 c_2
      refine lv_aload_n hx hb d_Section_hasCommaOrPercent_14 rfl (lv_at hl 0 rfl) ?_
      refine va_get (D := (dC, dI)) (ci := 9) (v := .int (I0 8)) (C := "NumberDress$Section") (T := T_Section) (N := 15) hx hb ht zin_Section hown hK hP 0 rfl rfl 8 (by decide) (ht _ zw_190) (fun _ h9 => h9) rfl d_Section_hasCommaOrPercent_15 ?_
      refine lv_if_le (tgt := 25) hx hb d_Section_hasCommaOrPercent_18 (by decide) (fun c_3 => ?_) (fun c_3 => ?_)
      · have hv := hv.1 c_3
        refine lv_iconst (v := (0 : Int32)) hx hb d_Section_hasCommaOrPercent_25 (by decide) ?_
        exact W.zret (v := (0 : Int32)) hx hb hr (by decide) (fun t ht hW => ⟨⟨_, (), rfl, hv, ⟨by rw [ht]; exact hP, va_K.moved hW.alike hK, hD⟩⟩, hS.F ht⟩) hS.2.2 d_Section_hasCommaOrPercent_26
      · have hv := hv.2 c_3
        refine lv_iconst (v := (1 : Int32)) hx hb d_Section_hasCommaOrPercent_21 (by decide) ?_
        refine lv_goto (tgt := 26) hx hb d_Section_hasCommaOrPercent_22 (by decide) ?_
        exact W.zret (v := (1 : Int32)) hx hb hr (by decide) (fun t ht hW => ⟨⟨_, (), rfl, hv, ⟨by rw [ht]; exact hP, va_K.moved hW.alike hK, hD⟩⟩, hS.F ht⟩) hS.2.2 d_Section_hasCommaOrPercent_26
theorem zi_Section_hasCommaOrPercent : Cond.code (⟨"NumberDress$Section", "hasCommaOrPercent", "()Z"⟩ : MethodName) prog_10_method_4_code 1 (some .boolean) ∈ zT := zw_753
theorem zh_Section_hasCommaOrPercent : (((⟨"NumberDress$Section", "hasCommaOrPercent", "()Z"⟩ : MethodName)).cls ≠ "java/lang/invoke/MethodHandle" ∧ ((⟨"NumberDress$Section", "hasCommaOrPercent", "()Z"⟩ : MethodName)).cls ≠ "java/lang/invoke/VarHandle" ∧ (parseMethodDescriptor ((⟨"NumberDress$Section", "hasCommaOrPercent", "()Z"⟩ : MethodName)).desc).map (fun d => d.parameters.length) = some 0) := by decide +kernel
set_option maxHeartbeats 4000000 in
set_option maxRecDepth 100000 in
theorem m_Section_hasCommaOrPercent (l : Launch) (dC : Nat → ClassId) (dI : Nat → Nat → Nat) {gE : zG} {h0 : Nat} {I0 : Nat → Int32} {sz : Nat} {Z : Int32 → Unit → Prop} (hv : v_Section_hasCommaOrPercent_0 I0 Z) : Met l (⟨"NumberDress$Section", "hasCommaOrPercent", "()Z"⟩ : MethodName) (Cond.code (⟨"NumberDress$Section", "hasCommaOrPercent", "()Z"⟩ : MethodName) prog_10_method_4_code 1 (some .boolean) :: zT) { frames := 0, cells := 0, slots := 0, locals := 0 } (zPc gE (dC, dI) zCl [] [.ref h0] sz [(h0, .inr (9, o_Section I0))]) (va_Qi Z (zB (dC, dI) zCl [] (va_A [(h0, .inr (9, o_Section I0))] sz) (fun u : Unit => [(h0, .inr (9, o_Section I0))])) (va_A [(h0, .inr (9, o_Section I0))] sz)) 0 0 (va_A [(h0, .inr (9, o_Section I0))] sz) := by
  refine Met.ofW (cc := prog_10_method_4_code) (maxL := 1) (ret := (some .boolean)) (by decide +kernel) rfl ?_
  intro p e s m args below meth c s₁ B hml hp
  obtain ⟨rfl, hsz, hP, hK, hD0, hE⟩ := hp
  have hts := atoms_spec (ws := (Cond.code (⟨"NumberDress$Section", "hasCommaOrPercent", "()Z"⟩ : MethodName) prog_10_method_4_code 1 (some .boolean) :: zT)) B.pre
  have hown : s.vm.findClass "NumberDress$Section" = some m.cls := findClass_of_methodNamed B.named
  have hc : zC p s m _ meth c prog_10_method_4_code (some .boolean) 1 "NumberDress$Section" := ⟨B.exec, B.bytes, B.returns, hml, hown, fun w h => hts w (List.mem_cons_of_mem _ h), B.notSynchronized⟩
  subst hsz
  have hD := hD0.self (sz := s.heap.size)
  generalize hAe : va_A [(h0, .inr (9, o_Section I0))] s.heap.size = A at hD hE ⊢
  have hA : ∀ q : Nat, s.heap.size ≤ q → A q := fun q h => by rw [← hAe]; exact Or.inr h
  have hl := lv_entry ([.ref h0]) (n := 1) (Nat.le_of_ble_eq_true rfl)
  rw [lg_entry_eq]
  exact b_Section_hasCommaOrPercent_0 hc hA hE hl hK hP hD va_S.rf hv
theorem d_Reader_readFraction_0 : decode prog_9_method_20_code 0 = .ok (.aload_n 0, 1) := by decide +kernel
theorem d_Reader_readFraction_1 : decode prog_9_method_20_code 1 = .ok (.iload_n 1, 1) := by decide +kernel
theorem d_Reader_readFraction_2 : decode prog_9_method_20_code 2 = .ok (.iconst 1, 1) := by decide +kernel
theorem d_Reader_readFraction_3 : decode prog_9_method_20_code 3 = .ok (.iadd, 1) := by decide +kernel
theorem d_Reader_readFraction_4 : decode prog_9_method_20_code 4 = .ok (.invokevirtual 189, 3) := by decide +kernel
theorem d_Reader_readFraction_7 : decode prog_9_method_20_code 7 = .ok (.istore_n 2, 1) := by decide +kernel
theorem d_Reader_readFraction_8 : decode prog_9_method_20_code 8 = .ok (.aload_n 0, 1) := by decide +kernel
theorem d_Reader_readFraction_9 : decode prog_9_method_20_code 9 = .ok (.iload_n 1, 1) := by decide +kernel
theorem d_Reader_readFraction_10 : decode prog_9_method_20_code 10 = .ok (.iconst 1, 1) := by decide +kernel
theorem d_Reader_readFraction_11 : decode prog_9_method_20_code 11 = .ok (.iadd, 1) := by decide +kernel
theorem d_Reader_readFraction_12 : decode prog_9_method_20_code 12 = .ok (.invokevirtual 198, 3) := by decide +kernel
theorem d_Reader_readFraction_15 : decode prog_9_method_20_code 15 = .ok (.istore_n 3, 1) := by decide +kernel
theorem d_Reader_readFraction_16 : decode prog_9_method_20_code 16 = .ok (.aload_n 0, 1) := by decide +kernel
theorem d_Reader_readFraction_17 : decode prog_9_method_20_code 17 = .ok (.invokevirtual 183, 3) := by decide +kernel
theorem d_Reader_readFraction_20 : decode prog_9_method_20_code 20 = .ok (.iconst 2, 1) := by decide +kernel
theorem d_Reader_readFraction_21 : decode prog_9_method_20_code 21 = .ok (.if_icmp .ne 27, 3) := by decide +kernel
theorem d_Reader_readFraction_24 : decode prog_9_method_20_code 24 = .ok (.aload_n 0, 1) := by decide +kernel
theorem d_Reader_readFraction_25 : decode prog_9_method_20_code 25 = .ok (.getfield 25, 3) := by decide +kernel
theorem d_Reader_readFraction_28 : decode prog_9_method_20_code 28 = .ok (.invokevirtual 192, 3) := by decide +kernel
theorem d_Reader_readFraction_31 : decode prog_9_method_20_code 31 = .ok (.ifCond .ne 17, 3) := by decide +kernel
theorem d_Reader_readFraction_34 : decode prog_9_method_20_code 34 = .ok (.aload_n 0, 1) := by decide +kernel
theorem d_Reader_readFraction_35 : decode prog_9_method_20_code 35 = .ok (.getfield 25, 3) := by decide +kernel
theorem d_Reader_readFraction_38 : decode prog_9_method_20_code 38 = .ok (.getfield 170, 3) := by decide +kernel
theorem d_Reader_readFraction_41 : decode prog_9_method_20_code 41 = .ok (.ifCond .ne 7, 3) := by decide +kernel
theorem d_Reader_readFraction_44 : decode prog_9_method_20_code 44 = .ok (.iconst 1, 1) := by decide +kernel
theorem d_Reader_readFraction_45 : decode prog_9_method_20_code 45 = .ok (.goto 4, 3) := by decide +kernel
theorem d_Reader_readFraction_48 : decode prog_9_method_20_code 48 = .ok (.iconst 0, 1) := by decide +kernel
theorem d_Reader_readFraction_49 : decode prog_9_method_20_code 49 = .ok (.istore 4, 2) := by decide +kernel
theorem d_Reader_readFraction_51 : decode prog_9_method_20_code 51 = .ok (.iload 4, 2) := by decide +kernel
theorem d_Reader_readFraction_53 : decode prog_9_method_20_code 53 = .ok (.ifCond .eq 9, 3) := by decide +kernel
theorem d_Reader_readFraction_56 : decode prog_9_method_20_code 56 = .ok (.iload_n 2, 1) := by decide +kernel
theorem d_Reader_readFraction_57 : decode prog_9_method_20_code 57 = .ok (.iload_n 3, 1) := by decide +kernel
theorem d_Reader_readFraction_58 : decode prog_9_method_20_code 58 = .ok (.iadd, 1) := by decide +kernel
theorem d_Reader_readFraction_59 : decode prog_9_method_20_code 59 = .ok (.ifCond .ne 5, 3) := by decide +kernel
theorem d_Reader_readFraction_62 : decode prog_9_method_20_code 62 = .ok (.iconst 0, 1) := by decide +kernel
theorem d_Reader_readFraction_63 : decode prog_9_method_20_code 63 = .ok (.ireturn, 1) := by decide +kernel
theorem d_Reader_readFraction_64 : decode prog_9_method_20_code 64 = .ok (.aload_n 0, 1) := by decide +kernel
theorem d_Reader_readFraction_65 : decode prog_9_method_20_code 65 = .ok (.getfield 25, 3) := by decide +kernel
theorem d_Reader_readFraction_68 : decode prog_9_method_20_code 68 = .ok (.iconst 4, 1) := by decide +kernel
theorem d_Reader_readFraction_69 : decode prog_9_method_20_code 69 = .ok (.putfield 50, 3) := by decide +kernel
theorem d_Reader_readFraction_72 : decode prog_9_method_20_code 72 = .ok (.aload_n 0, 1) := by decide +kernel
theorem d_Reader_readFraction_73 : decode prog_9_method_20_code 73 = .ok (.invokevirtual 201, 3) := by decide +kernel
theorem d_Reader_readFraction_76 : decode prog_9_method_20_code 76 = .ok (.aload_n 0, 1) := by decide +kernel
theorem d_Reader_readFraction_77 : decode prog_9_method_20_code 77 = .ok (.getfield 18, 3) := by decide +kernel
theorem d_Reader_readFraction_80 : decode prog_9_method_20_code 80 = .ok (.bipush 10, 2) := by decide +kernel
theorem d_Reader_readFraction_82 : decode prog_9_method_20_code 82 = .ok (.bipush 47, 2) := by decide +kernel
theorem d_Reader_readFraction_84 : decode prog_9_method_20_code 84 = .ok (.invokevirtual 139, 3) := by decide +kernel
theorem d_Reader_readFraction_87 : decode prog_9_method_20_code 87 = .ok (.iconst 0, 1) := by decide +kernel
theorem d_Reader_readFraction_88 : decode prog_9_method_20_code 88 = .ok (.istore 5, 2) := by decide +kernel
theorem d_Reader_readFraction_90 : decode prog_9_method_20_code 90 = .ok (.iload 5, 2) := by decide +kernel
theorem d_Reader_readFraction_92 : decode prog_9_method_20_code 92 = .ok (.iload_n 2, 1) := by decide +kernel
theorem d_Reader_readFraction_93 : decode prog_9_method_20_code 93 = .ok (.if_icmp .ge 28, 3) := by decide +kernel
theorem d_Reader_readFraction_96 : decode prog_9_method_20_code 96 = .ok (.aload_n 0, 1) := by decide +kernel
theorem d_Reader_readFraction_97 : decode prog_9_method_20_code 97 = .ok (.getfield 18, 3) := by decide +kernel
theorem d_Reader_readFraction_100 : decode prog_9_method_20_code 100 = .ok (.bipush 11, 2) := by decide +kernel
theorem d_Reader_readFraction_102 : decode prog_9_method_20_code 102 = .ok (.aload_n 0, 1) := by decide +kernel
theorem d_Reader_readFraction_103 : decode prog_9_method_20_code 103 = .ok (.iload_n 1, 1) := by decide +kernel
theorem d_Reader_readFraction_104 : decode prog_9_method_20_code 104 = .ok (.iconst 1, 1) := by decide +kernel
theorem d_Reader_readFraction_105 : decode prog_9_method_20_code 105 = .ok (.iadd, 1) := by decide +kernel
theorem d_Reader_readFraction_106 : decode prog_9_method_20_code 106 = .ok (.iload 5, 2) := by decide +kernel
theorem d_Reader_readFraction_108 : decode prog_9_method_20_code 108 = .ok (.iadd, 1) := by decide +kernel
theorem d_Reader_readFraction_109 : decode prog_9_method_20_code 109 = .ok (.invokevirtual 86, 3) := by decide +kernel
theorem d_Reader_readFraction_112 : decode prog_9_method_20_code 112 = .ok (.invokevirtual 139, 3) := by decide +kernel
theorem d_Reader_readFraction_115 : decode prog_9_method_20_code 115 = .ok (.iinc 5 1, 3) := by decide +kernel
theorem d_Reader_readFraction_118 : decode prog_9_method_20_code 118 = .ok (.goto (-28), 3) := by decide +kernel
theorem d_Reader_readFraction_121 : decode prog_9_method_20_code 121 = .ok (.iconst 0, 1) := by decide +kernel
theorem d_Reader_readFraction_122 : decode prog_9_method_20_code 122 = .ok (.istore 5, 2) := by decide +kernel
theorem d_Reader_readFraction_124 : decode prog_9_method_20_code 124 = .ok (.iload 5, 2) := by decide +kernel
theorem d_Reader_readFraction_126 : decode prog_9_method_20_code 126 = .ok (.iload_n 3, 1) := by decide +kernel
theorem d_Reader_readFraction_127 : decode prog_9_method_20_code 127 = .ok (.if_icmp .ge 59, 3) := by decide +kernel
theorem d_Reader_readFraction_130 : decode prog_9_method_20_code 130 = .ok (.aload_n 0, 1) := by decide +kernel
theorem d_Reader_readFraction_131 : decode prog_9_method_20_code 131 = .ok (.getfield 18, 3) := by decide +kernel
theorem d_Reader_readFraction_134 : decode prog_9_method_20_code 134 = .ok (.bipush 12, 2) := by decide +kernel
theorem d_Reader_readFraction_136 : decode prog_9_method_20_code 136 = .ok (.aload_n 0, 1) := by decide +kernel
theorem d_Reader_readFraction_137 : decode prog_9_method_20_code 137 = .ok (.iload_n 1, 1) := by decide +kernel
theorem d_Reader_readFraction_138 : decode prog_9_method_20_code 138 = .ok (.iconst 1, 1) := by decide +kernel
theorem d_Reader_readFraction_139 : decode prog_9_method_20_code 139 = .ok (.iadd, 1) := by decide +kernel
theorem d_Reader_readFraction_140 : decode prog_9_method_20_code 140 = .ok (.iload 5, 2) := by decide +kernel
theorem d_Reader_readFraction_142 : decode prog_9_method_20_code 142 = .ok (.iadd, 1) := by decide +kernel
theorem d_Reader_readFraction_143 : decode prog_9_method_20_code 143 = .ok (.invokevirtual 86, 3) := by decide +kernel
theorem d_Reader_readFraction_146 : decode prog_9_method_20_code 146 = .ok (.invokevirtual 139, 3) := by decide +kernel
theorem d_Reader_readFraction_149 : decode prog_9_method_20_code 149 = .ok (.aload_n 0, 1) := by decide +kernel
theorem d_Reader_readFraction_150 : decode prog_9_method_20_code 150 = .ok (.getfield 25, 3) := by decide +kernel
theorem d_Reader_readFraction_153 : decode prog_9_method_20_code 153 = .ok (.aload_n 0, 1) := by decide +kernel
theorem d_Reader_readFraction_154 : decode prog_9_method_20_code 154 = .ok (.getfield 25, 3) := by decide +kernel
theorem d_Reader_readFraction_157 : decode prog_9_method_20_code 157 = .ok (.getfield 204, 3) := by decide +kernel
theorem d_Reader_readFraction_160 : decode prog_9_method_20_code 160 = .ok (.bipush 10, 2) := by decide +kernel
theorem d_Reader_readFraction_162 : decode prog_9_method_20_code 162 = .ok (.imul, 1) := by decide +kernel
theorem d_Reader_readFraction_163 : decode prog_9_method_20_code 163 = .ok (.aload_n 0, 1) := by decide +kernel
theorem d_Reader_readFraction_164 : decode prog_9_method_20_code 164 = .ok (.iload_n 1, 1) := by decide +kernel
theorem d_Reader_readFraction_165 : decode prog_9_method_20_code 165 = .ok (.iconst 1, 1) := by decide +kernel
theorem d_Reader_readFraction_166 : decode prog_9_method_20_code 166 = .ok (.iadd, 1) := by decide +kernel
theorem d_Reader_readFraction_167 : decode prog_9_method_20_code 167 = .ok (.iload 5, 2) := by decide +kernel
theorem d_Reader_readFraction_169 : decode prog_9_method_20_code 169 = .ok (.iadd, 1) := by decide +kernel
theorem d_Reader_readFraction_170 : decode prog_9_method_20_code 170 = .ok (.invokevirtual 86, 3) := by decide +kernel
theorem d_Reader_readFraction_173 : decode prog_9_method_20_code 173 = .ok (.bipush 48, 2) := by decide +kernel
theorem d_Reader_readFraction_175 : decode prog_9_method_20_code 175 = .ok (.isub, 1) := by decide +kernel
theorem d_Reader_readFraction_176 : decode prog_9_method_20_code 176 = .ok (.iadd, 1) := by decide +kernel
theorem d_Reader_readFraction_177 : decode prog_9_method_20_code 177 = .ok (.putfield 204, 3) := by decide +kernel
theorem d_Reader_readFraction_180 : decode prog_9_method_20_code 180 = .ok (.iinc 5 1, 3) := by decide +kernel
theorem d_Reader_readFraction_183 : decode prog_9_method_20_code 183 = .ok (.goto (-59), 3) := by decide +kernel
theorem d_Reader_readFraction_186 : decode prog_9_method_20_code 186 = .ok (.aload_n 0, 1) := by decide +kernel
theorem d_Reader_readFraction_187 : decode prog_9_method_20_code 187 = .ok (.getfield 25, 3) := by decide +kernel
theorem d_Reader_readFraction_190 : decode prog_9_method_20_code 190 = .ok (.iload_n 2, 1) := by decide +kernel
theorem d_Reader_readFraction_191 : decode prog_9_method_20_code 191 = .ok (.putfield 207, 3) := by decide +kernel
theorem d_Reader_readFraction_194 : decode prog_9_method_20_code 194 = .ok (.iconst 1, 1) := by decide +kernel
theorem d_Reader_readFraction_195 : decode prog_9_method_20_code 195 = .ok (.iload_n 2, 1) := by decide +kernel
theorem d_Reader_readFraction_196 : decode prog_9_method_20_code 196 = .ok (.iadd, 1) := by decide +kernel
theorem d_Reader_readFraction_197 : decode prog_9_method_20_code 197 = .ok (.iload_n 3, 1) := by decide +kernel
theorem d_Reader_readFraction_198 : decode prog_9_method_20_code 198 = .ok (.iadd, 1) := by decide +kernel
theorem d_Reader_readFraction_199 : decode prog_9_method_20_code 199 = .ok (.ireturn, 1) := by decide +kernel
set_option maxHeartbeats 4000000 in
set_option maxRecDepth 100000 in
theorem b_Reader_readFraction_115 {h0 : Nat} {h1 : Nat} {cA1 : ClassId} {h2 : Nat} {a2_0 : Nat} {h3 : Nat} {h4 : Nat} {cA4 : ClassId} {h5 : Nat} {cA5 : ClassId} {I0 : Nat → Int32} {n1 : Nat} {f1 : Nat → Int32} {I2 : Nat → Int32} {I3 : Nat → Int32} {n4 : Nat} {f4 : Nat → Int32} {n5 : Nat} {f5 : Nat → Int32} {x1 : Int32} {x2 : Int32} {x3 : Int32} {x5 : Int32} {k90 : (Nat → Int32) → (Nat → Int32) → (Nat → Int32) → Int32 → Prop} {Z : Int32 → (Nat → Int32) × (Nat → Int32) × (Nat → Int32) × (Nat → Int32) → Prop} {H : Heap} {locs : List Loc} {ls : Array Slot} (hc : zC p s m args meth c prog_9_method_20_code (some .int) 6 "NumberDress$Reader") (hA : ∀ q : Nat, s.heap.size ≤ q → A q) (hE : zE gE A s) (hk90 : ∀ (I2 : Nat → Int32) (f4 : Nat → Int32) (f5 : Nat → Int32) (x5 : Int32) (H : Heap) (locs : List Loc) (ls : Array Slot), lv_has ls 6 [(0, .ref h0), (1, .int x1), (2, .int x2), (3, .int x3), (5, .int x5)] → va_K (dC, dI) zCl [(cA1, .char), (cA4, .int), (cA5, .int)] s → va_P (dC, dI) zCl [(h0, .inr (8, o_Reader I0 h1 h2 h3)), (h1, .inl (cA1, n1, .inl f1)), (h2, .inr (1, o_Code I2 a2_0 h4 h5)), (h3, .inr (9, o_Section I3)), (h4, .inl (cA4, n4, .inl f4)), (h5, .inl (cA5, n5, .inl f5))] H → va_D A [(h0, .inr (8, o_Reader I0 h1 h2 h3)), (h1, .inl (cA1, n1, .inl f1)), (h2, .inr (1, o_Code I2 a2_0 h4 h5)), (h3, .inr (9, o_Section I3)), (h4, .inl (cA4, n4, .inl f4)), (h5, .inl (cA5, n5, .inl f5))] → va_S A s.heap H locs → k90 I2 f4 f5 x5 → W p l e (headSpec (Cond.code (⟨"NumberDress$Reader", "readFraction", "(I)I"⟩ : MethodName) prog_9_method_20_code 6 (some .int) :: zT) { frames := 2, cells := 0, slots := 0, locals := 43 }).room s m args below meth c H locs 0 0 (MQ below (va_Qi Z (zB (dC, dI) zCl [(cA1, .char), (cA4, .int), (cA5, .int)] A (fun u : (Nat → Int32) × (Nat → Int32) × (Nat → Int32) × (Nat → Int32) => [(h0, .inr (8, o_Reader I0 h1 h2 h3)), (h1, .inl (cA1, n1, .inl f1)), (h2, .inr (1, o_Code u.1 a2_0 h4 h5)), (h3, .inr (9, o_Section u.2.1)), (h4, .inl (cA4, n4, .inl u.2.2.1)), (h5, .inl (cA5, n5, .inl u.2.2.2))])) A) args s 0 0 A) (F0 m 90 ls [])) (hl : lv_has ls 6 [(0, .ref h0), (1, .int x1), (2, .int x2), (3, .int x3), (5, .int x5)]) (hK : va_K (dC, dI) zCl [(cA1, .char), (cA4, .int), (cA5, .int)] s) (hP : va_P (dC, dI) zCl [(h0, .inr (8, o_Reader I0 h1 h2 h3)), (h1, .inl (cA1, n1, .inl f1)), (h2, .inr (1, o_Code I2 a2_0 h4 h5)), (h3, .inr (9, o_Section I3)), (h4, .inl (cA4, n4, .inl f4)), (h5, .inl (cA5, n5, .inl f5))] H) (hD : va_D A [(h0, .inr (8, o_Reader I0 h1 h2 h3)), (h1, .inl (cA1, n1, .inl f1)), (h2, .inr (1, o_Code I2 a2_0 h4 h5)), (h3, .inr (9, o_Section I3)), (h4, .inl (cA4, n4, .inl f4)), (h5, .inl (cA5, n5, .inl f5))]) (hS : va_S A s.heap H locs) (hv : v_Reader_readFraction_115 I0 n1 f1 I2 I3 n4 f4 n5 f5 x1 x2 x3 x5 k90 Z) : W p l e (headSpec (Cond.code (⟨"NumberDress$Reader", "readFraction", "(I)I"⟩ : MethodName) prog_9_method_20_code 6 (some .int) :: zT) { frames := 2, cells := 0, slots := 0, locals := 43 }).room s m args below meth c H locs 0 0 (MQ below (va_Qi Z (zB (dC, dI) zCl [(cA1, .char), (cA4, .int), (cA5, .int)] A (fun u : (Nat → Int32) × (Nat → Int32) × (Nat → Int32) × (Nat → Int32) => [(h0, .inr (8, o_Reader I0 h1 h2 h3)), (h1, .inl (cA1, n1, .inl f1)), (h2, .inr (1, o_Code u.1 a2_0 h4 h5)), (h3, .inr (9, o_Section u.2.1)), (h4, .inl (cA4, n4, .inl u.2.2.1)), (h5, .inl (cA5, n5, .inl u.2.2.2))])) A) args s 0 0 A) (F0 m 115 ls []) := by
  obtain ⟨hx, hb, hr, hml, hown, ht, hlocks⟩ := id hc
  unfold v_Reader_readFraction_115 at hv
  refine lv_iinc (v := (x5 + (1 : Int32))) (lv' := [(5, .int (x5 + (1 : Int32))), (0, .ref h0), (1, .int x1), (2, .int x2), (3, .int x3)]) hx hb d_Reader_readFraction_115 hl (k := 4) rfl rfl (by decide) rfl (fun ls hl => ?_)
  refine lv_goto (tgt := 90) hx hb d_Reader_readFraction_118 (by decide) ?_
  exact hk90 I2 f4 f5 (x5 + (1 : Int32)) _ _ _ (lv_sub hl [1, 2, 3, 4, 0] rfl) hK hP hD hS hv
set_option maxHeartbeats 4000000 in
set_option maxRecDepth 100000 in
theorem b_Reader_readFraction_112 {h0 : Nat} {h1 : Nat} {cA1 : ClassId} {h2 : Nat} {a2_0 : Nat} {h3 : Nat} {h4 : Nat} {cA4 : ClassId} {h5 : Nat} {cA5 : ClassId} {I0 : Nat → Int32} {n1 : Nat} {f1 : Nat → Int32} {I2 : Nat → Int32} {I3 : Nat → Int32} {n4 : Nat} {f4 : Nat → Int32} {n5 : Nat} {f5 : Nat → Int32} {x1 : Int32} {x2 : Int32} {x3 : Int32} {x5 : Int32} {s1 : Int32} {s2 : Int32} {k90 : (Nat → Int32) → (Nat → Int32) → (Nat → Int32) → Int32 → Prop} {Z : Int32 → (Nat → Int32) × (Nat → Int32) × (Nat → Int32) × (Nat → Int32) → Prop} {H : Heap} {locs : List Loc} {ls : Array Slot} (hc : zC p s m args meth c prog_9_method_20_code (some .int) 6 "NumberDress$Reader") (hA : ∀ q : Nat, s.heap.size ≤ q → A q) (hE : zE gE A s) (hk90 : ∀ (I2 : Nat → Int32) (f4 : Nat → Int32) (f5 : Nat → Int32) (x5 : Int32) (H : Heap) (locs : List Loc) (ls : Array Slot), lv_has ls 6 [(0, .ref h0), (1, .int x1), (2, .int x2), (3, .int x3), (5, .int x5)] → va_K (dC, dI) zCl [(cA1, .char), (cA4, .int), (cA5, .int)] s → va_P (dC, dI) zCl [(h0, .inr (8, o_Reader I0 h1 h2 h3)), (h1, .inl (cA1, n1, .inl f1)), (h2, .inr (1, o_Code I2 a2_0 h4 h5)), (h3, .inr (9, o_Section I3)), (h4, .inl (cA4, n4, .inl f4)), (h5, .inl (cA5, n5, .inl f5))] H → va_D A [(h0, .inr (8, o_Reader I0 h1 h2 h3)), (h1, .inl (cA1, n1, .inl f1)), (h2, .inr (1, o_Code I2 a2_0 h4 h5)), (h3, .inr (9, o_Section I3)), (h4, .inl (cA4, n4, .inl f4)), (h5, .inl (cA5, n5, .inl f5))] → va_S A s.heap H locs → k90 I2 f4 f5 x5 → W p l e (headSpec (Cond.code (⟨"NumberDress$Reader", "readFraction", "(I)I"⟩ : MethodName) prog_9_method_20_code 6 (some .int) :: zT) { frames := 2, cells := 0, slots := 0, locals := 43 }).room s m args below meth c H locs 0 0 (MQ below (va_Qi Z (zB (dC, dI) zCl [(cA1, .char), (cA4, .int), (cA5, .int)] A (fun u : (Nat → Int32) × (Nat → Int32) × (Nat → Int32) × (Nat → Int32) => [(h0, .inr (8, o_Reader I0 h1 h2 h3)), (h1, .inl (cA1, n1, .inl f1)), (h2, .inr (1, o_Code u.1 a2_0 h4 h5)), (h3, .inr (9, o_Section u.2.1)), (h4, .inl (cA4, n4, .inl u.2.2.1)), (h5, .inl (cA5, n5, .inl u.2.2.2))])) A) args s 0 0 A) (F0 m 90 ls [])) (hl : lv_has ls 6 [(0, .ref h0), (1, .int x1), (2, .int x2), (3, .int x3), (5, .int x5)]) (hK : va_K (dC, dI) zCl [(cA1, .char), (cA4, .int), (cA5, .int)] s) (hP : va_P (dC, dI) zCl [(h0, .inr (8, o_Reader I0 h1 h2 h3)), (h1, .inl (cA1, n1, .inl f1)), (h2, .inr (1, o_Code I2 a2_0 h4 h5)), (h3, .inr (9, o_Section I3)), (h4, .inl (cA4, n4, .inl f4)), (h5, .inl (cA5, n5, .inl f5))] H) (hD : va_D A [(h0, .inr (8, o_Reader I0 h1 h2 h3)), (h1, .inl (cA1, n1, .inl f1)), (h2, .inr (1, o_Code I2 a2_0 h4 h5)), (h3, .inr (9, o_Section I3)), (h4, .inl (cA4, n4, .inl f4)), (h5, .inl (cA5, n5, .inl f5))]) (hS : va_S A s.heap H locs) (hv : v_Reader_readFraction_112 I0 n1 f1 I2 I3 n4 f4 n5 f5 x1 x2 x3 x5 s1 s2 k90 Z) : W p l e (headSpec (Cond.code (⟨"NumberDress$Reader", "readFraction", "(I)I"⟩ : MethodName) prog_9_method_20_code 6 (some .int) :: zT) { frames := 2, cells := 0, slots := 0, locals := 43 }).room s m args below meth c H locs 0 0 (MQ below (va_Qi Z (zB (dC, dI) zCl [(cA1, .char), (cA4, .int), (cA5, .int)] A (fun u : (Nat → Int32) × (Nat → Int32) × (Nat → Int32) × (Nat → Int32) => [(h0, .inr (8, o_Reader I0 h1 h2 h3)), (h1, .inl (cA1, n1, .inl f1)), (h2, .inr (1, o_Code u.1 a2_0 h4 h5)), (h3, .inr (9, o_Section u.2.1)), (h4, .inl (cA4, n4, .inl u.2.2.1)), (h5, .inl (cA5, n5, .inl u.2.2.2))])) A) args s 0 0 A) (F0 m 112 ls [.int s2, .int s1, .ref h2]) := by
  obtain ⟨hx, hb, hr, hml, hown, ht, hlocks⟩ := id hc
  unfold v_Reader_readFraction_112 at hv
  refine z_callv (wc := [(h2, .inr (1, o_Code I2 a2_0 h4 h5)), (h4, .inl (cA4, n4, .inl f4)), (h5, .inl (cA5, n5, .inl f5))]) (wr := [(h0, .inr (8, o_Reader I0 h1 h2 h3)), (h1, .inl (cA1, n1, .inl f1)), (h3, .inr (9, o_Section I3))]) [2, 4, 5] [0, 1, 3] (va_runV (As := [.int s1, .int s2]) (rest := []) ⟨hx, hb, hml, hown, ht⟩ (m_Code_add l dC dI hv) ⟨(callB_of 2 ht (zG_in zi_Code_add) rfl rfl rfl (ht _ zw_111) (ht _ zw_710) zh_Code_add ⟨Nat.le_of_ble_eq_true rfl, Nat.le_of_ble_eq_true rfl⟩), (ht _ zw_711), (ht _ zw_712)⟩ ⟨zPc_blind, va_recv hK hP (ci := 1) (q0 := 2) rfl rfl, zPc_pre hP hK hD hS hA hE [2, 4, 5] [1, 2] rfl rfl (by decide) rfl⟩ rfl rfl hl.1 rfl (lv_room (Nat.le_of_ble_eq_true rfl)) d_Reader_readFraction_112 ⟨Nat.le_of_ble_eq_true rfl, Nat.le_of_ble_eq_true rfl⟩) hP hD hS hA rfl rfl (by decide) (by decide) (fun u H locs hv hP hD hS => ?_)
  have hP : va_P (dC, dI) zCl [(h0, .inr (8, o_Reader I0 h1 h2 h3)), (h1, .inl (cA1, n1, .inl f1)), (h2, .inr (1, o_Code u.1 a2_0 h4 h5)), (h3, .inr (9, o_Section I3)), (h4, .inl (cA4, n4, .inl u.2.1)), (h5, .inl (cA5, n5, .inl u.2.2))] H := hP.sub [0, 1, 3, 2, 4, 5] rfl
  have hD : va_D A [(h0, .inr (8, o_Reader I0 h1 h2 h3)), (h1, .inl (cA1, n1, .inl f1)), (h2, .inr (1, o_Code u.1 a2_0 h4 h5)), (h3, .inr (9, o_Section I3)), (h4, .inl (cA4, n4, .inl u.2.1)), (h5, .inl (cA5, n5, .inl u.2.2))] := hD.sub [0, 1, 3, 2, 4, 5] (by decide) rfl
  exact b_Reader_readFraction_115 hc hA hE hk90 (lv_sub hl [0, 1, 2, 3, 4] rfl) hK hP hD hS hv
set_option maxHeartbeats 4000000 in
set_option maxRecDepth 100000 in
theorem b_Reader_readFraction_173 {h0 : Nat} {h1 : Nat} {cA1 : ClassId} {h2 : Nat} {a2_0 : Nat} {h3 : Nat} {h4 : Nat} {cA4 : ClassId} {h5 : Nat} {cA5 : ClassId} {I0 : Nat → Int32} {n1 : Nat} {f1 : Nat → Int32} {I2 : Nat → Int32} {I3 : Nat → Int32} {n4 : Nat} {f4 : Nat → Int32} {n5 : Nat} {f5 : Nat → Int32} {x1 : Int32} {x2 : Int32} {x3 : Int32} {x5 : Int32} {s1 : Int32} {s2 : Int32} {k124 : (Nat → Int32) → (Nat → Int32) → (Nat → Int32) → (Nat → Int32) → Int32 → Prop} {Z : Int32 → (Nat → Int32) × (Nat → Int32) × (Nat → Int32) × (Nat → Int32) → Prop} {H : Heap} {locs : List Loc} {ls : Array Slot} (hc : zC p s m args meth c prog_9_method_20_code (some .int) 6 "NumberDress$Reader") (hA : ∀ q : Nat, s.heap.size ≤ q → A q) (hE : zE gE A s) (hk124 : ∀ (I2 : Nat → Int32) (I3 : Nat → Int32) (f4 : Nat → Int32) (f5 : Nat → Int32) (x5 : Int32) (H : Heap) (locs : List Loc) (ls : Array Slot), lv_has ls 6 [(0, .ref h0), (1, .int x1), (2, .int x2), (3, .int x3), (5, .int x5)] → va_K (dC, dI) zCl [(cA1, .char), (cA4, .int), (cA5, .int)] s → va_P (dC, dI) zCl [(h0, .inr (8, o_Reader I0 h1 h2 h3)), (h1, .inl (cA1, n1, .inl f1)), (h2, .inr (1, o_Code I2 a2_0 h4 h5)), (h3, .inr (9, o_Section I3)), (h4, .inl (cA4, n4, .inl f4)), (h5, .inl (cA5, n5, .inl f5))] H → va_D A [(h0, .inr (8, o_Reader I0 h1 h2 h3)), (h1, .inl (cA1, n1, .inl f1)), (h2, .inr (1, o_Code I2 a2_0 h4 h5)), (h3, .inr (9, o_Section I3)), (h4, .inl (cA4, n4, .inl f4)), (h5, .inl (cA5, n5, .inl f5))] → va_S A s.heap H locs → k124 I2 I3 f4 f5 x5 → W p l e (headSpec (Cond.code (⟨"NumberDress$Reader", "readFraction", "(I)I"⟩ : MethodName) prog_9_method_20_code 6 (some .int) :: zT) { frames := 2, cells := 0, slots := 0, locals := 43 }).room s m args below meth c H locs 0 0 (MQ below (va_Qi Z (zB (dC, dI) zCl [(cA1, .char), (cA4, .int), (cA5, .int)] A (fun u : (Nat → Int32) × (Nat → Int32) × (Nat → Int32) × (Nat → Int32) => [(h0, .inr (8, o_Reader I0 h1 h2 h3)), (h1, .inl (cA1, n1, .inl f1)), (h2, .inr (1, o_Code u.1 a2_0 h4 h5)), (h3, .inr (9, o_Section u.2.1)), (h4, .inl (cA4, n4, .inl u.2.2.1)), (h5, .inl (cA5, n5, .inl u.2.2.2))])) A) args s 0 0 A) (F0 m 124 ls [])) (hl : lv_has ls 6 [(0, .ref h0), (1, .int x1), (2, .int x2), (3, .int x3), (5, .int x5)]) (hK : va_K (dC, dI) zCl [(cA1, .char), (cA4, .int), (cA5, .int)] s) (hP : va_P (dC, dI) zCl [(h0, .inr (8, o_Reader I0 h1 h2 h3)), (h1, .inl (cA1, n1, .inl f1)), (h2, .inr (1, o_Code I2 a2_0 h4 h5)), (h3, .inr (9, o_Section I3)), (h4, .inl (cA4, n4, .inl f4)), (h5, .inl (cA5, n5, .inl f5))] H) (hD : va_D A [(h0, .inr (8, o_Reader I0 h1 h2 h3)), (h1, .inl (cA1, n1, .inl f1)), (h2, .inr (1, o_Code I2 a2_0 h4 h5)), (h3, .inr (9, o_Section I3)), (h4, .inl (cA4, n4, .inl f4)), (h5, .inl (cA5, n5, .inl f5))]) (hS : va_S A s.heap H locs) (hv : v_Reader_readFraction_173 I0 n1 f1 I2 I3 n4 f4 n5 f5 x1 x2 x3 x5 s1 s2 k124 Z) : W p l e (headSpec (Cond.code (⟨"NumberDress$Reader", "readFraction", "(I)I"⟩ : MethodName) prog_9_method_20_code 6 (some .int) :: zT) { frames := 2, cells := 0, slots := 0, locals := 43 }).room s m args below meth c H locs 0 0 (MQ below (va_Qi Z (zB (dC, dI) zCl [(cA1, .char), (cA4, .int), (cA5, .int)] A (fun u : (Nat → Int32) × (Nat → Int32) × (Nat → Int32) × (Nat → Int32) => [(h0, .inr (8, o_Reader I0 h1 h2 h3)), (h1, .inl (cA1, n1, .inl f1)), (h2, .inr (1, o_Code u.1 a2_0 h4 h5)), (h3, .inr (9, o_Section u.2.1)), (h4, .inl (cA4, n4, .inl u.2.2.1)), (h5, .inl (cA5, n5, .inl u.2.2.2))])) A) args s 0 0 A) (F0 m 173 ls [.int s2, .int s1, .ref h3]) := by
  obtain ⟨hx, hb, hr, hml, hown, ht, hlocks⟩ := id hc
  unfold v_Reader_readFraction_173 at hv
  refine lv_bipush (v := (48 : Int32)) hx hb d_Reader_readFraction_173 (by decide) ?_
  refine lv_isub hx hb d_Reader_readFraction_175 ?_
  refine lv_iadd hx hb d_Reader_readFraction_176 ?_
  refine va_put (D := (dC, dI)) (ci := 9) (v := .int (s1 + (s2 - (48 : Int32)))) (ty := .int) (C := "NumberDress$Section") (T := T_Section) (N := 15) hx hb ht zin_Section ty_Section tyok_Section nm_Section hown hK hP hD hS 3 rfl rfl 12 (by decide) (ht _ zw_203) (fun _ h9 => h9) rfl (by decide +kernel) rfl rfl (Nat.le_of_ble_eq_true rfl) d_Reader_readFraction_177 (fun H locs hP hD hS => ?_)
  have hP : va_P (dC, dI) zCl [(h0, .inr (8, o_Reader I0 h1 h2 h3)), (h1, .inl (cA1, n1, .inl f1)), (h2, .inr (1, o_Code I2 a2_0 h4 h5)), (h3, .inr (9, o_Section (zu I3 12 (s1 + (s2 - (48 : Int32)))))), (h4, .inl (cA4, n4, .inl f4)), (h5, .inl (cA5, n5, .inl f5))] H := hP
  have hD : va_D A [(h0, .inr (8, o_Reader I0 h1 h2 h3)), (h1, .inl (cA1, n1, .inl f1)), (h2, .inr (1, o_Code I2 a2_0 h4 h5)), (h3, .inr (9, o_Section (zu I3 12 (s1 + (s2 - (48 : Int32)))))), (h4, .inl (cA4, n4, .inl f4)), (h5, .inl (cA5, n5, .inl f5))] := hD
  refine lv_iinc (v := (x5 + (1 : Int32))) (lv' := [(5, .int (x5 + (1 : Int32))), (0, .ref h0), (1, .int x1), (2, .int x2), (3, .int x3)]) hx hb d_Reader_readFraction_180 hl (k := 4) rfl rfl (by decide) rfl (fun ls hl => ?_)
  refine lv_goto (tgt := 124) hx hb d_Reader_readFraction_183 (by decide) ?_
  exact hk124 I2 (zu I3 12 (s1 + (s2 - (48 : Int32)))) f4 f5 (x5 + (1 : Int32)) _ _ _ (lv_sub hl [1, 2, 3, 4, 0] rfl) hK hP hD hS hv
set_option maxHeartbeats 4000000 in
set_option maxRecDepth 100000 in
theorem b_Reader_readFraction_149 {h0 : Nat} {h1 : Nat} {cA1 : ClassId} {h2 : Nat} {a2_0 : Nat} {h3 : Nat} {h4 : Nat} {cA4 : ClassId} {h5 : Nat} {cA5 : ClassId} {I0 : Nat → Int32} {n1 : Nat} {f1 : Nat → Int32} {I2 : Nat → Int32} {I3 : Nat → Int32} {n4 : Nat} {f4 : Nat → Int32} {n5 : Nat} {f5 : Nat → Int32} {x1 : Int32} {x2 : Int32} {x3 : Int32} {x5 : Int32} {k124 : (Nat → Int32) → (Nat → Int32) → (Nat → Int32) → (Nat → Int32) → Int32 → Prop} {Z : Int32 → (Nat → Int32) × (Nat → Int32) × (Nat → Int32) × (Nat → Int32) → Prop} {H : Heap} {locs : List Loc} {ls : Array Slot} (hc : zC p s m args meth c prog_9_method_20_code (some .int) 6 "NumberDress$Reader") (hA : ∀ q : Nat, s.heap.size ≤ q → A q) (hE : zE gE A s) (hk124 : ∀ (I2 : Nat → Int32) (I3 : Nat → Int32) (f4 : Nat → Int32) (f5 : Nat → Int32) (x5 : Int32) (H : Heap) (locs : List Loc) (ls : Array Slot), lv_has ls 6 [(0, .ref h0), (1, .int x1), (2, .int x2), (3, .int x3), (5, .int x5)] → va_K (dC, dI) zCl [(cA1, .char), (cA4, .int), (cA5, .int)] s → va_P (dC, dI) zCl [(h0, .inr (8, o_Reader I0 h1 h2 h3)), (h1, .inl (cA1, n1, .inl f1)), (h2, .inr (1, o_Code I2 a2_0 h4 h5)), (h3, .inr (9, o_Section I3)), (h4, .inl (cA4, n4, .inl f4)), (h5, .inl (cA5, n5, .inl f5))] H → va_D A [(h0, .inr (8, o_Reader I0 h1 h2 h3)), (h1, .inl (cA1, n1, .inl f1)), (h2, .inr (1, o_Code I2 a2_0 h4 h5)), (h3, .inr (9, o_Section I3)), (h4, .inl (cA4, n4, .inl f4)), (h5, .inl (cA5, n5, .inl f5))] → va_S A s.heap H locs → k124 I2 I3 f4 f5 x5 → W p l e (headSpec (Cond.code (⟨"NumberDress$Reader", "readFraction", "(I)I"⟩ : MethodName) prog_9_method_20_code 6 (some .int) :: zT) { frames := 2, cells := 0, slots := 0, locals := 43 }).room s m args below meth c H locs 0 0 (MQ below (va_Qi Z (zB (dC, dI) zCl [(cA1, .char), (cA4, .int), (cA5, .int)] A (fun u : (Nat → Int32) × (Nat → Int32) × (Nat → Int32) × (Nat → Int32) => [(h0, .inr (8, o_Reader I0 h1 h2 h3)), (h1, .inl (cA1, n1, .inl f1)), (h2, .inr (1, o_Code u.1 a2_0 h4 h5)), (h3, .inr (9, o_Section u.2.1)), (h4, .inl (cA4, n4, .inl u.2.2.1)), (h5, .inl (cA5, n5, .inl u.2.2.2))])) A) args s 0 0 A) (F0 m 124 ls [])) (hl : lv_has ls 6 [(0, .ref h0), (1, .int x1), (2, .int x2), (3, .int x3), (5, .int x5)]) (hK : va_K (dC, dI) zCl [(cA1, .char), (cA4, .int), (cA5, .int)] s) (hP : va_P (dC, dI) zCl [(h0, .inr (8, o_Reader I0 h1 h2 h3)), (h1, .inl (cA1, n1, .inl f1)), (h2, .inr (1, o_Code I2 a2_0 h4 h5)), (h3, .inr (9, o_Section I3)), (h4, .inl (cA4, n4, .inl f4)), (h5, .inl (cA5, n5, .inl f5))] H) (hD : va_D A [(h0, .inr (8, o_Reader I0 h1 h2 h3)), (h1, .inl (cA1, n1, .inl f1)), (h2, .inr (1, o_Code I2 a2_0 h4 h5)), (h3, .inr (9, o_Section I3)), (h4, .inl (cA4, n4, .inl f4)), (h5, .inl (cA5, n5, .inl f5))]) (hS : va_S A s.heap H locs) (hv : v_Reader_readFraction_149 I0 n1 f1 I2 I3 n4 f4 n5 f5 x1 x2 x3 x5 k124 Z) : W p l e (headSpec (Cond.code (⟨"NumberDress$Reader", "readFraction", "(I)I"⟩ : MethodName) prog_9_method_20_code 6 (some .int) :: zT) { frames := 2, cells := 0, slots := 0, locals := 43 }).room s m args below meth c H locs 0 0 (MQ below (va_Qi Z (zB (dC, dI) zCl [(cA1, .char), (cA4, .int), (cA5, .int)] A (fun u : (Nat → Int32) × (Nat → Int32) × (Nat → Int32) × (Nat → Int32) => [(h0, .inr (8, o_Reader I0 h1 h2 h3)), (h1, .inl (cA1, n1, .inl f1)), (h2, .inr (1, o_Code u.1 a2_0 h4 h5)), (h3, .inr (9, o_Section u.2.1)), (h4, .inl (cA4, n4, .inl u.2.2.1)), (h5, .inl (cA5, n5, .inl u.2.2.2))])) A) args s 0 0 A) (F0 m 149 ls []) := by
  obtain ⟨hx, hb, hr, hml, hown, ht, hlocks⟩ := id hc
  unfold v_Reader_readFraction_149 at hv
  refine lv_aload_n hx hb d_Reader_readFraction_149 rfl (lv_at hl 0 rfl) ?_
  refine va_get (D := (dC, dI)) (ci := 8) (v := .ref h3) (C := "NumberDress$Reader") (T := T_Reader) (N := 5) hx hb ht zin_Reader hown hK hP 0 rfl rfl 3 (by decide) (ht _ zw_274) (fun _ h9 => h9) rfl d_Reader_readFraction_150 ?_
  refine lv_aload_n hx hb d_Reader_readFraction_153 rfl (lv_at hl 0 rfl) ?_
  refine va_get (D := (dC, dI)) (ci := 8) (v := .ref h3) (C := "NumberDress$Reader") (T := T_Reader) (N := 5) hx hb ht zin_Reader hown hK hP 0 rfl rfl 3 (by decide) (ht _ zw_274) (fun _ h9 => h9) rfl d_Reader_readFraction_154 ?_
  refine va_get (D := (dC, dI)) (ci := 9) (v := .int (I3 12)) (C := "NumberDress$Section") (T := T_Section) (N := 15) hx hb ht zin_Section hown hK hP 3 rfl rfl 12 (by decide) (ht _ zw_203) (fun _ h9 => h9) rfl d_Reader_readFraction_157 ?_
  refine lv_bipush (v := (10 : Int32)) hx hb d_Reader_readFraction_160 (by decide) ?_
  refine lv_imul hx hb d_Reader_readFraction_162 ?_
  refine lv_aload_n hx hb d_Reader_readFraction_163 rfl (lv_at hl 0 rfl) ?_
  refine lv_iload_n hx hb d_Reader_readFraction_164 rfl (lv_at hl 1 rfl) ?_
  refine lv_iconst (v := (1 : Int32)) hx hb d_Reader_readFraction_165 (by decide) ?_
  refine lv_iadd hx hb d_Reader_readFraction_166 ?_
  refine lv_iload hx hb d_Reader_readFraction_167 (lv_at hl 4 rfl) ?_
  refine lv_iadd hx hb d_Reader_readFraction_169 ?_
  refine z_calli (wc := [(h0, .inr (8, o_Reader I0 h1 h2 h3)), (h1, .inl (cA1, n1, .inl f1))]) (wr := [(h2, .inr (1, o_Code I2 a2_0 h4 h5)), (h3, .inr (9, o_Section I3)), (h4, .inl (cA4, n4, .inl f4)), (h5, .inl (cA5, n5, .inl f5))]) [0, 1] [2, 3, 4, 5] (va_runV (As := [.int ((x1 + (1 : Int32)) + x5)]) (rest := [.int ((I3 12) * (10 : Int32)), .ref h3]) ⟨hx, hb, hml, hown, ht⟩ (m_Reader_sign l dC dI hv) ⟨(callB_of 1 ht (zG_in zi_Reader_sign) rfl rfl rfl (ht _ zw_113) (ht _ zw_512) zh_Reader_sign ⟨Nat.le_of_ble_eq_true rfl, Nat.le_of_ble_eq_true rfl⟩), (ht _ zw_514), (ht _ zw_1)⟩ ⟨zPc_blind, va_recv hK hP (ci := 8) (q0 := 0) rfl rfl, zPc_pre hP hK hD hS hA hE [0, 1] [0] rfl rfl (by decide) rfl⟩ rfl rfl hl.1 rfl (lv_room (Nat.le_of_ble_eq_true rfl)) d_Reader_readFraction_170 ⟨Nat.le_of_ble_eq_true rfl, Nat.le_of_ble_eq_true rfl⟩) hP hD hS hA rfl rfl (by decide) (by decide) (fun r u H locs hv hP hD hS => ?_)
  have hP : va_P (dC, dI) zCl [(h0, .inr (8, o_Reader I0 h1 h2 h3)), (h1, .inl (cA1, n1, .inl f1)), (h2, .inr (1, o_Code I2 a2_0 h4 h5)), (h3, .inr (9, o_Section I3)), (h4, .inl (cA4, n4, .inl f4)), (h5, .inl (cA5, n5, .inl f5))] H := hP.sub [4, 5, 0, 1, 2, 3] rfl
  have hD : va_D A [(h0, .inr (8, o_Reader I0 h1 h2 h3)), (h1, .inl (cA1, n1, .inl f1)), (h2, .inr (1, o_Code I2 a2_0 h4 h5)), (h3, .inr (9, o_Section I3)), (h4, .inl (cA4, n4, .inl f4)), (h5, .inl (cA5, n5, .inl f5))] := hD.sub [4, 5, 0, 1, 2, 3] (by decide) rfl
  exact b_Reader_readFraction_173 hc hA hE hk124 (lv_sub hl [0, 1, 2, 3, 4] rfl) hK hP hD hS hv
set_option maxHeartbeats 4000000 in
set_option maxRecDepth 100000 in
theorem b_Reader_readFraction_146 {h0 : Nat} {h1 : Nat} {cA1 : ClassId} {h2 : Nat} {a2_0 : Nat} {h3 : Nat} {h4 : Nat} {cA4 : ClassId} {h5 : Nat} {cA5 : ClassId} {I0 : Nat → Int32} {n1 : Nat} {f1 : Nat → Int32} {I2 : Nat → Int32} {I3 : Nat → Int32} {n4 : Nat} {f4 : Nat → Int32} {n5 : Nat} {f5 : Nat → Int32} {x1 : Int32} {x2 : Int32} {x3 : Int32} {x5 : Int32} {s1 : Int32} {s2 : Int32} {k124 : (Nat → Int32) → (Nat → Int32) → (Nat → Int32) → (Nat → Int32) → Int32 → Prop} {Z : Int32 → (Nat → Int32) × (Nat → Int32) × (Nat → Int32) × (Nat → Int32) → Prop} {H : Heap} {locs : List Loc} {ls : Array Slot} (hc : zC p s m args meth c prog_9_method_20_code (some .int) 6 "NumberDress$Reader") (hA : ∀ q : Nat, s.heap.size ≤ q → A q) (hE : zE gE A s) (hk124 : ∀ (I2 : Nat → Int32) (I3 : Nat → Int32) (f4 : Nat → Int32) (f5 : Nat → Int32) (x5 : Int32) (H : Heap) (locs : List Loc) (ls : Array Slot), lv_has ls 6 [(0, .ref h0), (1, .int x1), (2, .int x2), (3, .int x3), (5, .int x5)] → va_K (dC, dI) zCl [(cA1, .char), (cA4, .int), (cA5, .int)] s → va_P (dC, dI) zCl [(h0, .inr (8, o_Reader I0 h1 h2 h3)), (h1, .inl (cA1, n1, .inl f1)), (h2, .inr (1, o_Code I2 a2_0 h4 h5)), (h3, .inr (9, o_Section I3)), (h4, .inl (cA4, n4, .inl f4)), (h5, .inl (cA5, n5, .inl f5))] H → va_D A [(h0, .inr (8, o_Reader I0 h1 h2 h3)), (h1, .inl (cA1, n1, .inl f1)), (h2, .inr (1, o_Code I2 a2_0 h4 h5)), (h3, .inr (9, o_Section I3)), (h4, .inl (cA4, n4, .inl f4)), (h5, .inl (cA5, n5, .inl f5))] → va_S A s.heap H locs → k124 I2 I3 f4 f5 x5 → W p l e (headSpec (Cond.code (⟨"NumberDress$Reader", "readFraction", "(I)I"⟩ : MethodName) prog_9_method_20_code 6 (some .int) :: zT) { frames := 2, cells := 0, slots := 0, locals := 43 }).room s m args below meth c H locs 0 0 (MQ below (va_Qi Z (zB (dC, dI) zCl [(cA1, .char), (cA4, .int), (cA5, .int)] A (fun u : (Nat → Int32) × (Nat → Int32) × (Nat → Int32) × (Nat → Int32) => [(h0, .inr (8, o_Reader I0 h1 h2 h3)), (h1, .inl (cA1, n1, .inl f1)), (h2, .inr (1, o_Code u.1 a2_0 h4 h5)), (h3, .inr (9, o_Section u.2.1)), (h4, .inl (cA4, n4, .inl u.2.2.1)), (h5, .inl (cA5, n5, .inl u.2.2.2))])) A) args s 0 0 A) (F0 m 124 ls [])) (hl : lv_has ls 6 [(0, .ref h0), (1, .int x1), (2, .int x2), (3, .int x3), (5, .int x5)]) (hK : va_K (dC, dI) zCl [(cA1, .char), (cA4, .int), (cA5, .int)] s) (hP : va_P (dC, dI) zCl [(h0, .inr (8, o_Reader I0 h1 h2 h3)), (h1, .inl (cA1, n1, .inl f1)), (h2, .inr (1, o_Code I2 a2_0 h4 h5)), (h3, .inr (9, o_Section I3)), (h4, .inl (cA4, n4, .inl f4)), (h5, .inl (cA5, n5, .inl f5))] H) (hD : va_D A [(h0, .inr (8, o_Reader I0 h1 h2 h3)), (h1, .inl (cA1, n1, .inl f1)), (h2, .inr (1, o_Code I2 a2_0 h4 h5)), (h3, .inr (9, o_Section I3)), (h4, .inl (cA4, n4, .inl f4)), (h5, .inl (cA5, n5, .inl f5))]) (hS : va_S A s.heap H locs) (hv : v_Reader_readFraction_146 I0 n1 f1 I2 I3 n4 f4 n5 f5 x1 x2 x3 x5 s1 s2 k124 Z) : W p l e (headSpec (Cond.code (⟨"NumberDress$Reader", "readFraction", "(I)I"⟩ : MethodName) prog_9_method_20_code 6 (some .int) :: zT) { frames := 2, cells := 0, slots := 0, locals := 43 }).room s m args below meth c H locs 0 0 (MQ below (va_Qi Z (zB (dC, dI) zCl [(cA1, .char), (cA4, .int), (cA5, .int)] A (fun u : (Nat → Int32) × (Nat → Int32) × (Nat → Int32) × (Nat → Int32) => [(h0, .inr (8, o_Reader I0 h1 h2 h3)), (h1, .inl (cA1, n1, .inl f1)), (h2, .inr (1, o_Code u.1 a2_0 h4 h5)), (h3, .inr (9, o_Section u.2.1)), (h4, .inl (cA4, n4, .inl u.2.2.1)), (h5, .inl (cA5, n5, .inl u.2.2.2))])) A) args s 0 0 A) (F0 m 146 ls [.int s2, .int s1, .ref h2]) := by
  obtain ⟨hx, hb, hr, hml, hown, ht, hlocks⟩ := id hc
  unfold v_Reader_readFraction_146 at hv
  refine z_callv (wc := [(h2, .inr (1, o_Code I2 a2_0 h4 h5)), (h4, .inl (cA4, n4, .inl f4)), (h5, .inl (cA5, n5, .inl f5))]) (wr := [(h0, .inr (8, o_Reader I0 h1 h2 h3)), (h1, .inl (cA1, n1, .inl f1)), (h3, .inr (9, o_Section I3))]) [2, 4, 5] [0, 1, 3] (va_runV (As := [.int s1, .int s2]) (rest := []) ⟨hx, hb, hml, hown, ht⟩ (m_Code_add l dC dI hv) ⟨(callB_of 2 ht (zG_in zi_Code_add) rfl rfl rfl (ht _ zw_111) (ht _ zw_710) zh_Code_add ⟨Nat.le_of_ble_eq_true rfl, Nat.le_of_ble_eq_true rfl⟩), (ht _ zw_711), (ht _ zw_712)⟩ ⟨zPc_blind, va_recv hK hP (ci := 1) (q0 := 2) rfl rfl, zPc_pre hP hK hD hS hA hE [2, 4, 5] [1, 2] rfl rfl (by decide) rfl⟩ rfl rfl hl.1 rfl (lv_room (Nat.le_of_ble_eq_true rfl)) d_Reader_readFraction_146 ⟨Nat.le_of_ble_eq_true rfl, Nat.le_of_ble_eq_true rfl⟩) hP hD hS hA rfl rfl (by decide) (by decide) (fun u H locs hv hP hD hS => ?_)
  have hP : va_P (dC, dI) zCl [(h0, .inr (8, o_Reader I0 h1 h2 h3)), (h1, .inl (cA1, n1, .inl f1)), (h2, .inr (1, o_Code u.1 a2_0 h4 h5)), (h3, .inr (9, o_Section I3)), (h4, .inl (cA4, n4, .inl u.2.1)), (h5, .inl (cA5, n5, .inl u.2.2))] H := hP.sub [0, 1, 3, 2, 4, 5] rfl
  have hD : va_D A [(h0, .inr (8, o_Reader I0 h1 h2 h3)), (h1, .inl (cA1, n1, .inl f1)), (h2, .inr (1, o_Code u.1 a2_0 h4 h5)), (h3, .inr (9, o_Section I3)), (h4, .inl (cA4, n4, .inl u.2.1)), (h5, .inl (cA5, n5, .inl u.2.2))] := hD.sub [0, 1, 3, 2, 4, 5] (by decide) rfl
  exact b_Reader_readFraction_149 hc hA hE hk124 (lv_sub hl [0, 1, 2, 3, 4] rfl) hK hP hD hS hv
set_option maxHeartbeats 4000000 in
set_option maxRecDepth 100000 in
theorem b_Reader_readFraction_124 {h0 : Nat} {h1 : Nat} {cA1 : ClassId} {h2 : Nat} {a2_0 : Nat} {h3 : Nat} {h4 : Nat} {cA4 : ClassId} {h5 : Nat} {cA5 : ClassId} {I0 : Nat → Int32} {n1 : Nat} {f1 : Nat → Int32} {n4 : Nat} {n5 : Nat} {x1 : Int32} {x2 : Int32} {x3 : Int32}  {Z : Int32 → (Nat → Int32) × (Nat → Int32) × (Nat → Int32) × (Nat → Int32) → Prop} (hc : zC p s m args meth c prog_9_method_20_code (some .int) 6 "NumberDress$Reader") (hA : ∀ q : Nat, s.heap.size ≤ q → A q) (hE : zE gE A s) : ∀ (N : Nat) (I2 : Nat → Int32) (I3 : Nat → Int32) (f4 : Nat → Int32) (f5 : Nat → Int32) (x5 : Int32) (H : Heap) (locs : List Loc) (ls : Array Slot), lv_has ls 6 [(0, .ref h0), (1, .int x1), (2, .int x2), (3, .int x3), (5, .int x5)] → va_K (dC, dI) zCl [(cA1, .char), (cA4, .int), (cA5, .int)] s → va_P (dC, dI) zCl [(h0, .inr (8, o_Reader I0 h1 h2 h3)), (h1, .inl (cA1, n1, .inl f1)), (h2, .inr (1, o_Code I2 a2_0 h4 h5)), (h3, .inr (9, o_Section I3)), (h4, .inl (cA4, n4, .inl f4)), (h5, .inl (cA5, n5, .inl f5))] H → va_D A [(h0, .inr (8, o_Reader I0 h1 h2 h3)), (h1, .inl (cA1, n1, .inl f1)), (h2, .inr (1, o_Code I2 a2_0 h4 h5)), (h3, .inr (9, o_Section I3)), (h4, .inl (cA4, n4, .inl f4)), (h5, .inl (cA5, n5, .inl f5))] → va_S A s.heap H locs → v_Reader_readFraction_124 I0 n1 f1 n4 n5 x1 x2 x3  Z N I2 I3 f4 f5 x5 → W p l e (headSpec (Cond.code (⟨"NumberDress$Reader", "readFraction", "(I)I"⟩ : MethodName) prog_9_method_20_code 6 (some .int) :: zT) { frames := 2, cells := 0, slots := 0, locals := 43 }).room s m args below meth c H locs 0 0 (MQ below (va_Qi Z (zB (dC, dI) zCl [(cA1, .char), (cA4, .int), (cA5, .int)] A (fun u : (Nat → Int32) × (Nat → Int32) × (Nat → Int32) × (Nat → Int32) => [(h0, .inr (8, o_Reader I0 h1 h2 h3)), (h1, .inl (cA1, n1, .inl f1)), (h2, .inr (1, o_Code u.1 a2_0 h4 h5)), (h3, .inr (9, o_Section u.2.1)), (h4, .inl (cA4, n4, .inl u.2.2.1)), (h5, .inl (cA5, n5, .inl u.2.2.2))])) A) args s 0 0 A) (F0 m 124 ls []) := by
  obtain ⟨hx, hb, hr, hml, hown, ht, hlocks⟩ := id hc
  intro N
  induction N with
  | zero => intro I2 I3 f4 f5 x5 H locs ls hl hK hP hD hS hv; exact hv.elim
  | succ N hk124 =>
    intro I2 I3 f4 f5 x5 H locs ls hl hK hP hD hS hv
    unfold v_Reader_readFraction_124 at hv
    refine lv_iload hx hb d_Reader_readFraction_124 (lv_at hl 4 rfl) ?_
    refine lv_iload_n hx hb d_Reader_readFraction_126 rfl (lv_at hl 3 rfl) ?_
    refine lv_icmp_ge (tgt := 186) hx hb d_Reader_readFraction_127 (by decide) (fun c_1 => ?_) (fun c_1 => ?_)
    · have hv := hv.1 c_1
      refine lv_aload_n hx hb d_Reader_readFraction_186 rfl (lv_at hl 0 rfl) ?_
      refine va_get (D := (dC, dI)) (ci := 8) (v := .ref h3) (C := "NumberDress$Reader") (T := T_Reader) (N := 5) hx hb ht zin_Reader hown hK hP 0 rfl rfl 3 (by decide) (ht _ zw_274) (fun _ h9 => h9) rfl d_Reader_readFraction_187 ?_
      refine lv_iload_n hx hb d_Reader_readFraction_190 rfl (lv_at hl 2 rfl) ?_
      refine va_put (D := (dC, dI)) (ci := 9) (v := .int x2) (ty := .int) (C := "NumberDress$Section") (T := T_Section) (N := 15) hx hb ht zin_Section ty_Section tyok_Section nm_Section hown hK hP hD hS 3 rfl rfl 11 (by decide) (ht _ zw_200) (fun _ h9 => h9) rfl (by decide +kernel) rfl rfl (Nat.le_of_ble_eq_true rfl) d_Reader_readFraction_191 (fun H locs hP hD hS => ?_)
      have hP : va_P (dC, dI) zCl [(h0, .inr (8, o_Reader I0 h1 h2 h3)), (h1, .inl (cA1, n1, .inl f1)), (h2, .inr (1, o_Code I2 a2_0 h4 h5)), (h3, .inr (9, o_Section (zu I3 11 x2))), (h4, .inl (cA4, n4, .inl f4)), (h5, .inl (cA5, n5, .inl f5))] H := hP
      have hD : va_D A [(h0, .inr (8, o_Reader I0 h1 h2 h3)), (h1, .inl (cA1, n1, .inl f1)), (h2, .inr (1, o_Code I2 a2_0 h4 h5)), (h3, .inr (9, o_Section (zu I3 11 x2))), (h4, .inl (cA4, n4, .inl f4)), (h5, .inl (cA5, n5, .inl f5))] := hD
      refine lv_iconst (v := (1 : Int32)) hx hb d_Reader_readFraction_194 (by decide) ?_
      refine lv_iload_n hx hb d_Reader_readFraction_195 rfl (lv_at hl 2 rfl) ?_
      refine lv_iadd hx hb d_Reader_readFraction_196 ?_
      refine lv_iload_n hx hb d_Reader_readFraction_197 rfl (lv_at hl 3 rfl) ?_
      refine lv_iadd hx hb d_Reader_readFraction_198 ?_
      exact W.iret (v := (((1 : Int32) + x2) + x3)) hx hb hr (fun t ht hW => ⟨⟨_, (I2, (zu I3 11 x2), f4, f5), rfl, hv, ⟨by rw [ht]; exact hP, va_K.moved hW.alike hK, hD⟩⟩, hS.F ht⟩) hS.2.2 d_Reader_readFraction_199
    · have hv := hv.2 c_1
      refine lv_aload_n hx hb d_Reader_readFraction_130 rfl (lv_at hl 0 rfl) ?_
      refine va_get (D := (dC, dI)) (ci := 8) (v := .ref h2) (C := "NumberDress$Reader") (T := T_Reader) (N := 5) hx hb ht zin_Reader hown hK hP 0 rfl rfl 2 (by decide) (ht _ zw_273) (fun _ h9 => h9) rfl d_Reader_readFraction_131 ?_
      refine lv_bipush (v := (12 : Int32)) hx hb d_Reader_readFraction_134 (by decide) ?_
      refine lv_aload_n hx hb d_Reader_readFraction_136 rfl (lv_at hl 0 rfl) ?_
      refine lv_iload_n hx hb d_Reader_readFraction_137 rfl (lv_at hl 1 rfl) ?_
      refine lv_iconst (v := (1 : Int32)) hx hb d_Reader_readFraction_138 (by decide) ?_
      refine lv_iadd hx hb d_Reader_readFraction_139 ?_
      refine lv_iload hx hb d_Reader_readFraction_140 (lv_at hl 4 rfl) ?_
      refine lv_iadd hx hb d_Reader_readFraction_142 ?_
      refine z_calli (wc := [(h0, .inr (8, o_Reader I0 h1 h2 h3)), (h1, .inl (cA1, n1, .inl f1))]) (wr := [(h2, .inr (1, o_Code I2 a2_0 h4 h5)), (h3, .inr (9, o_Section I3)), (h4, .inl (cA4, n4, .inl f4)), (h5, .inl (cA5, n5, .inl f5))]) [0, 1] [2, 3, 4, 5] (va_runV (As := [.int ((x1 + (1 : Int32)) + x5)]) (rest := [.int (12 : Int32), .ref h2]) ⟨hx, hb, hml, hown, ht⟩ (m_Reader_sign l dC dI hv) ⟨(callB_of 1 ht (zG_in zi_Reader_sign) rfl rfl rfl (ht _ zw_113) (ht _ zw_512) zh_Reader_sign ⟨Nat.le_of_ble_eq_true rfl, Nat.le_of_ble_eq_true rfl⟩), (ht _ zw_514), (ht _ zw_1)⟩ ⟨zPc_blind, va_recv hK hP (ci := 8) (q0 := 0) rfl rfl, zPc_pre hP hK hD hS hA hE [0, 1] [0] rfl rfl (by decide) rfl⟩ rfl rfl hl.1 rfl (lv_room (Nat.le_of_ble_eq_true rfl)) d_Reader_readFraction_143 ⟨Nat.le_of_ble_eq_true rfl, Nat.le_of_ble_eq_true rfl⟩) hP hD hS hA rfl rfl (by decide) (by decide) (fun r u H locs hv hP hD hS => ?_)
      have hP : va_P (dC, dI) zCl [(h0, .inr (8, o_Reader I0 h1 h2 h3)), (h1, .inl (cA1, n1, .inl f1)), (h2, .inr (1, o_Code I2 a2_0 h4 h5)), (h3, .inr (9, o_Section I3)), (h4, .inl (cA4, n4, .inl f4)), (h5, .inl (cA5, n5, .inl f5))] H := hP.sub [4, 5, 0, 1, 2, 3] rfl
      have hD : va_D A [(h0, .inr (8, o_Reader I0 h1 h2 h3)), (h1, .inl (cA1, n1, .inl f1)), (h2, .inr (1, o_Code I2 a2_0 h4 h5)), (h3, .inr (9, o_Section I3)), (h4, .inl (cA4, n4, .inl f4)), (h5, .inl (cA5, n5, .inl f5))] := hD.sub [4, 5, 0, 1, 2, 3] (by decide) rfl
      exact b_Reader_readFraction_146 hc hA hE hk124 (lv_sub hl [0, 1, 2, 3, 4] rfl) hK hP hD hS hv
set_option maxHeartbeats 4000000 in
set_option maxRecDepth 100000 in
theorem b_Reader_readFraction_90 {h0 : Nat} {h1 : Nat} {cA1 : ClassId} {h2 : Nat} {a2_0 : Nat} {h3 : Nat} {h4 : Nat} {cA4 : ClassId} {h5 : Nat} {cA5 : ClassId} {I0 : Nat → Int32} {n1 : Nat} {f1 : Nat → Int32} {I3 : Nat → Int32} {n4 : Nat} {n5 : Nat} {x1 : Int32} {x2 : Int32} {x3 : Int32}  {Z : Int32 → (Nat → Int32) × (Nat → Int32) × (Nat → Int32) × (Nat → Int32) → Prop} (hc : zC p s m args meth c prog_9_method_20_code (some .int) 6 "NumberDress$Reader") (hA : ∀ q : Nat, s.heap.size ≤ q → A q) (hE : zE gE A s) : ∀ (N : Nat) (I2 : Nat → Int32) (f4 : Nat → Int32) (f5 : Nat → Int32) (x5 : Int32) (H : Heap) (locs : List Loc) (ls : Array Slot), lv_has ls 6 [(0, .ref h0), (1, .int x1), (2, .int x2), (3, .int x3), (5, .int x5)] → va_K (dC, dI) zCl [(cA1, .char), (cA4, .int), (cA5, .int)] s → va_P (dC, dI) zCl [(h0, .inr (8, o_Reader I0 h1 h2 h3)), (h1, .inl (cA1, n1, .inl f1)), (h2, .inr (1, o_Code I2 a2_0 h4 h5)), (h3, .inr (9, o_Section I3)), (h4, .inl (cA4, n4, .inl f4)), (h5, .inl (cA5, n5, .inl f5))] H → va_D A [(h0, .inr (8, o_Reader I0 h1 h2 h3)), (h1, .inl (cA1, n1, .inl f1)), (h2, .inr (1, o_Code I2 a2_0 h4 h5)), (h3, .inr (9, o_Section I3)), (h4, .inl (cA4, n4, .inl f4)), (h5, .inl (cA5, n5, .inl f5))] → va_S A s.heap H locs → v_Reader_readFraction_90 I0 n1 f1 I3 n4 n5 x1 x2 x3  Z N I2 f4 f5 x5 → W p l e (headSpec (Cond.code (⟨"NumberDress$Reader", "readFraction", "(I)I"⟩ : MethodName) prog_9_method_20_code 6 (some .int) :: zT) { frames := 2, cells := 0, slots := 0, locals := 43 }).room s m args below meth c H locs 0 0 (MQ below (va_Qi Z (zB (dC, dI) zCl [(cA1, .char), (cA4, .int), (cA5, .int)] A (fun u : (Nat → Int32) × (Nat → Int32) × (Nat → Int32) × (Nat → Int32) => [(h0, .inr (8, o_Reader I0 h1 h2 h3)), (h1, .inl (cA1, n1, .inl f1)), (h2, .inr (1, o_Code u.1 a2_0 h4 h5)), (h3, .inr (9, o_Section u.2.1)), (h4, .inl (cA4, n4, .inl u.2.2.1)), (h5, .inl (cA5, n5, .inl u.2.2.2))])) A) args s 0 0 A) (F0 m 90 ls []) := by
  obtain ⟨hx, hb, hr, hml, hown, ht, hlocks⟩ := id hc
  intro N
  induction N with
  | zero => intro I2 f4 f5 x5 H locs ls hl hK hP hD hS hv; exact hv.elim
  | succ N hk90 =>
    intro I2 f4 f5 x5 H locs ls hl hK hP hD hS hv
    unfold v_Reader_readFraction_90 at hv
    refine lv_iload hx hb d_Reader_readFraction_90 (lv_at hl 4 rfl) ?_
    refine lv_iload_n hx hb d_Reader_readFraction_92 rfl (lv_at hl 2 rfl) ?_
    refine lv_icmp_ge (tgt := 121) hx hb d_Reader_readFraction_93 (by decide) (fun c_1 => ?_) (fun c_1 => ?_)
    · have hv := hv.1 c_1
      refine lv_iconst (v := (0 : Int32)) hx hb d_Reader_readFraction_121 (by decide) ?_
      refine lv_istore (lv' := [(5, .int (0 : Int32)), (0, .ref h0), (1, .int x1), (2, .int x2), (3, .int x3)]) hx hb d_Reader_readFraction_122 hl (by decide) rfl (fun ls hl => ?_)
      obtain ⟨Nx, hv⟩ := hv
      exact b_Reader_readFraction_124 hc hA hE  Nx I2 I3 f4 f5 (0 : Int32) _ _ _ (lv_sub hl [1, 2, 3, 4, 0] rfl) hK hP hD hS hv
    · have hv := hv.2 c_1
      refine lv_aload_n hx hb d_Reader_readFraction_96 rfl (lv_at hl 0 rfl) ?_
      refine va_get (D := (dC, dI)) (ci := 8) (v := .ref h2) (C := "NumberDress$Reader") (T := T_Reader) (N := 5) hx hb ht zin_Reader hown hK hP 0 rfl rfl 2 (by decide) (ht _ zw_273) (fun _ h9 => h9) rfl d_Reader_readFraction_97 ?_
      refine lv_bipush (v := (11 : Int32)) hx hb d_Reader_readFraction_100 (by decide) ?_
      refine lv_aload_n hx hb d_Reader_readFraction_102 rfl (lv_at hl 0 rfl) ?_
      refine lv_iload_n hx hb d_Reader_readFraction_103 rfl (lv_at hl 1 rfl) ?_
      refine lv_iconst (v := (1 : Int32)) hx hb d_Reader_readFraction_104 (by decide) ?_
      refine lv_iadd hx hb d_Reader_readFraction_105 ?_
      refine lv_iload hx hb d_Reader_readFraction_106 (lv_at hl 4 rfl) ?_
      refine lv_iadd hx hb d_Reader_readFraction_108 ?_
      refine z_calli (wc := [(h0, .inr (8, o_Reader I0 h1 h2 h3)), (h1, .inl (cA1, n1, .inl f1))]) (wr := [(h2, .inr (1, o_Code I2 a2_0 h4 h5)), (h3, .inr (9, o_Section I3)), (h4, .inl (cA4, n4, .inl f4)), (h5, .inl (cA5, n5, .inl f5))]) [0, 1] [2, 3, 4, 5] (va_runV (As := [.int ((x1 + (1 : Int32)) + x5)]) (rest := [.int (11 : Int32), .ref h2]) ⟨hx, hb, hml, hown, ht⟩ (m_Reader_sign l dC dI hv) ⟨(callB_of 1 ht (zG_in zi_Reader_sign) rfl rfl rfl (ht _ zw_113) (ht _ zw_512) zh_Reader_sign ⟨Nat.le_of_ble_eq_true rfl, Nat.le_of_ble_eq_true rfl⟩), (ht _ zw_514), (ht _ zw_1)⟩ ⟨zPc_blind, va_recv hK hP (ci := 8) (q0 := 0) rfl rfl, zPc_pre hP hK hD hS hA hE [0, 1] [0] rfl rfl (by decide) rfl⟩ rfl rfl hl.1 rfl (lv_room (Nat.le_of_ble_eq_true rfl)) d_Reader_readFraction_109 ⟨Nat.le_of_ble_eq_true rfl, Nat.le_of_ble_eq_true rfl⟩) hP hD hS hA rfl rfl (by decide) (by decide) (fun r u H locs hv hP hD hS => ?_)
      have hP : va_P (dC, dI) zCl [(h0, .inr (8, o_Reader I0 h1 h2 h3)), (h1, .inl (cA1, n1, .inl f1)), (h2, .inr (1, o_Code I2 a2_0 h4 h5)), (h3, .inr (9, o_Section I3)), (h4, .inl (cA4, n4, .inl f4)), (h5, .inl (cA5, n5, .inl f5))] H := hP.sub [4, 5, 0, 1, 2, 3] rfl
      have hD : va_D A [(h0, .inr (8, o_Reader I0 h1 h2 h3)), (h1, .inl (cA1, n1, .inl f1)), (h2, .inr (1, o_Code I2 a2_0 h4 h5)), (h3, .inr (9, o_Section I3)), (h4, .inl (cA4, n4, .inl f4)), (h5, .inl (cA5, n5, .inl f5))] := hD.sub [4, 5, 0, 1, 2, 3] (by decide) rfl
      exact b_Reader_readFraction_112 hc hA hE hk90 (lv_sub hl [0, 1, 2, 3, 4] rfl) hK hP hD hS hv
set_option maxHeartbeats 4000000 in
set_option maxRecDepth 100000 in
theorem b_Reader_readFraction_87 {h0 : Nat} {h1 : Nat} {cA1 : ClassId} {h2 : Nat} {a2_0 : Nat} {h3 : Nat} {h4 : Nat} {cA4 : ClassId} {h5 : Nat} {cA5 : ClassId} {I0 : Nat → Int32} {n1 : Nat} {f1 : Nat → Int32} {I2 : Nat → Int32} {I3 : Nat → Int32} {n4 : Nat} {f4 : Nat → Int32} {n5 : Nat} {f5 : Nat → Int32} {x1 : Int32} {x2 : Int32} {x3 : Int32}  {Z : Int32 → (Nat → Int32) × (Nat → Int32) × (Nat → Int32) × (Nat → Int32) → Prop} {H : Heap} {locs : List Loc} {ls : Array Slot} (hc : zC p s m args meth c prog_9_method_20_code (some .int) 6 "NumberDress$Reader") (hA : ∀ q : Nat, s.heap.size ≤ q → A q) (hE : zE gE A s) (hl : lv_has ls 6 [(0, .ref h0), (1, .int x1), (2, .int x2), (3, .int x3)]) (hK : va_K (dC, dI) zCl [(cA1, .char), (cA4, .int), (cA5, .int)] s) (hP : va_P (dC, dI) zCl [(h0, .inr (8, o_Reader I0 h1 h2 h3)), (h1, .inl (cA1, n1, .inl f1)), (h2, .inr (1, o_Code I2 a2_0 h4 h5)), (h3, .inr (9, o_Section I3)), (h4, .inl (cA4, n4, .inl f4)), (h5, .inl (cA5, n5, .inl f5))] H) (hD : va_D A [(h0, .inr (8, o_Reader I0 h1 h2 h3)), (h1, .inl (cA1, n1, .inl f1)), (h2, .inr (1, o_Code I2 a2_0 h4 h5)), (h3, .inr (9, o_Section I3)), (h4, .inl (cA4, n4, .inl f4)), (h5, .inl (cA5, n5, .inl f5))]) (hS : va_S A s.heap H locs) (hv : v_Reader_readFraction_87 I0 n1 f1 I2 I3 n4 f4 n5 f5 x1 x2 x3  Z) : W p l e (headSpec (Cond.code (⟨"NumberDress$Reader", "readFraction", "(I)I"⟩ : MethodName) prog_9_method_20_code 6 (some .int) :: zT) { frames := 2, cells := 0, slots := 0, locals := 43 }).room s m args below meth c H locs 0 0 (MQ below (va_Qi Z (zB (dC, dI) zCl [(cA1, .char), (cA4, .int), (cA5, .int)] A (fun u : (Nat → Int32) × (Nat → Int32) × (Nat → Int32) × (Nat → Int32) => [(h0, .inr (8, o_Reader I0 h1 h2 h3)), (h1, .inl (cA1, n1, .inl f1)), (h2, .inr (1, o_Code u.1 a2_0 h4 h5)), (h3, .inr (9, o_Section u.2.1)), (h4, .inl (cA4, n4, .inl u.2.2.1)), (h5, .inl (cA5, n5, .inl u.2.2.2))])) A) args s 0 0 A) (F0 m 87 ls []) := by
  obtain ⟨hx, hb, hr, hml, hown, ht, hlocks⟩ := id hc
  unfold v_Reader_readFraction_87 at hv
  refine lv_iconst (v := (0 : Int32)) hx hb d_Reader_readFraction_87 (by decide) ?_
  refine lv_istore (lv' := [(5, .int (0 : Int32)), (0, .ref h0), (1, .int x1), (2, .int x2), (3, .int x3)]) hx hb d_Reader_readFraction_88 hl (by decide) rfl (fun ls hl => ?_)
  obtain ⟨Nx, hv⟩ := hv
  exact b_Reader_readFraction_90 hc hA hE  Nx I2 f4 f5 (0 : Int32) _ _ _ (lv_sub hl [1, 2, 3, 4, 0] rfl) hK hP hD hS hv
set_option maxHeartbeats 4000000 in
set_option maxRecDepth 100000 in
theorem b_Reader_readFraction_76 {h0 : Nat} {h1 : Nat} {cA1 : ClassId} {h2 : Nat} {a2_0 : Nat} {h3 : Nat} {h4 : Nat} {cA4 : ClassId} {h5 : Nat} {cA5 : ClassId} {I0 : Nat → Int32} {n1 : Nat} {f1 : Nat → Int32} {I2 : Nat → Int32} {I3 : Nat → Int32} {n4 : Nat} {f4 : Nat → Int32} {n5 : Nat} {f5 : Nat → Int32} {x1 : Int32} {x2 : Int32} {x3 : Int32}  {Z : Int32 → (Nat → Int32) × (Nat → Int32) × (Nat → Int32) × (Nat → Int32) → Prop} {H : Heap} {locs : List Loc} {ls : Array Slot} (hc : zC p s m args meth c prog_9_method_20_code (some .int) 6 "NumberDress$Reader") (hA : ∀ q : Nat, s.heap.size ≤ q → A q) (hE : zE gE A s) (hl : lv_has ls 6 [(0, .ref h0), (1, .int x1), (2, .int x2), (3, .int x3)]) (hK : va_K (dC, dI) zCl [(cA1, .char), (cA4, .int), (cA5, .int)] s) (hP : va_P (dC, dI) zCl [(h0, .inr (8, o_Reader I0 h1 h2 h3)), (h1, .inl (cA1, n1, .inl f1)), (h2, .inr (1, o_Code I2 a2_0 h4 h5)), (h3, .inr (9, o_Section I3)), (h4, .inl (cA4, n4, .inl f4)), (h5, .inl (cA5, n5, .inl f5))] H) (hD : va_D A [(h0, .inr (8, o_Reader I0 h1 h2 h3)), (h1, .inl (cA1, n1, .inl f1)), (h2, .inr (1, o_Code I2 a2_0 h4 h5)), (h3, .inr (9, o_Section I3)), (h4, .inl (cA4, n4, .inl f4)), (h5, .inl (cA5, n5, .inl f5))]) (hS : va_S A s.heap H locs) (hv : v_Reader_readFraction_76 I0 n1 f1 I2 I3 n4 f4 n5 f5 x1 x2 x3  Z) : W p l e (headSpec (Cond.code (⟨"NumberDress$Reader", "readFraction", "(I)I"⟩ : MethodName) prog_9_method_20_code 6 (some .int) :: zT) { frames := 2, cells := 0, slots := 0, locals := 43 }).room s m args below meth c H locs 0 0 (MQ below (va_Qi Z (zB (dC, dI) zCl [(cA1, .char), (cA4, .int), (cA5, .int)] A (fun u : (Nat → Int32) × (Nat → Int32) × (Nat → Int32) × (Nat → Int32) => [(h0, .inr (8, o_Reader I0 h1 h2 h3)), (h1, .inl (cA1, n1, .inl f1)), (h2, .inr (1, o_Code u.1 a2_0 h4 h5)), (h3, .inr (9, o_Section u.2.1)), (h4, .inl (cA4, n4, .inl u.2.2.1)), (h5, .inl (cA5, n5, .inl u.2.2.2))])) A) args s 0 0 A) (F0 m 76 ls []) := by
  obtain ⟨hx, hb, hr, hml, hown, ht, hlocks⟩ := id hc
  unfold v_Reader_readFraction_76 at hv
  refine lv_aload_n hx hb d_Reader_readFraction_76 rfl (lv_at hl 0 rfl) ?_
  refine va_get (D := (dC, dI)) (ci := 8) (v := .ref h2) (C := "NumberDress$Reader") (T := T_Reader) (N := 5) hx hb ht zin_Reader hown hK hP 0 rfl rfl 2 (by decide) (ht _ zw_273) (fun _ h9 => h9) rfl d_Reader_readFraction_77 ?_
  refine lv_bipush (v := (10 : Int32)) hx hb d_Reader_readFraction_80 (by decide) ?_
  refine lv_bipush (v := (47 : Int32)) hx hb d_Reader_readFraction_82 (by decide) ?_
  refine z_callv (wc := [(h2, .inr (1, o_Code I2 a2_0 h4 h5)), (h4, .inl (cA4, n4, .inl f4)), (h5, .inl (cA5, n5, .inl f5))]) (wr := [(h0, .inr (8, o_Reader I0 h1 h2 h3)), (h1, .inl (cA1, n1, .inl f1)), (h3, .inr (9, o_Section I3))]) [2, 4, 5] [0, 1, 3] (va_runV (As := [.int (10 : Int32), .int (47 : Int32)]) (rest := []) ⟨hx, hb, hml, hown, ht⟩ (m_Code_add l dC dI hv) ⟨(callB_of 2 ht (zG_in zi_Code_add) rfl rfl rfl (ht _ zw_111) (ht _ zw_710) zh_Code_add ⟨Nat.le_of_ble_eq_true rfl, Nat.le_of_ble_eq_true rfl⟩), (ht _ zw_711), (ht _ zw_712)⟩ ⟨zPc_blind, va_recv hK hP (ci := 1) (q0 := 2) rfl rfl, zPc_pre hP hK hD hS hA hE [2, 4, 5] [1, 2] rfl rfl (by decide) rfl⟩ rfl rfl hl.1 rfl (lv_room (Nat.le_of_ble_eq_true rfl)) d_Reader_readFraction_84 ⟨Nat.le_of_ble_eq_true rfl, Nat.le_of_ble_eq_true rfl⟩) hP hD hS hA rfl rfl (by decide) (by decide) (fun u H locs hv hP hD hS => ?_)
  have hP : va_P (dC, dI) zCl [(h0, .inr (8, o_Reader I0 h1 h2 h3)), (h1, .inl (cA1, n1, .inl f1)), (h2, .inr (1, o_Code u.1 a2_0 h4 h5)), (h3, .inr (9, o_Section I3)), (h4, .inl (cA4, n4, .inl u.2.1)), (h5, .inl (cA5, n5, .inl u.2.2))] H := hP.sub [0, 1, 3, 2, 4, 5] rfl
  have hD : va_D A [(h0, .inr (8, o_Reader I0 h1 h2 h3)), (h1, .inl (cA1, n1, .inl f1)), (h2, .inr (1, o_Code u.1 a2_0 h4 h5)), (h3, .inr (9, o_Section I3)), (h4, .inl (cA4, n4, .inl u.2.1)), (h5, .inl (cA5, n5, .inl u.2.2))] := hD.sub [0, 1, 3, 2, 4, 5] (by decide) rfl
  exact b_Reader_readFraction_87 hc hA hE  (lv_sub hl [0, 1, 2, 3] rfl) hK hP hD hS hv
set_option maxHeartbeats 4000000 in
set_option maxRecDepth 100000 in
theorem b_Reader_readFraction_49 {h0 : Nat} {h1 : Nat} {cA1 : ClassId} {h2 : Nat} {a2_0 : Nat} {h3 : Nat} {h4 : Nat} {cA4 : ClassId} {h5 : Nat} {cA5 : ClassId} {I0 : Nat → Int32} {n1 : Nat} {f1 : Nat → Int32} {I2 : Nat → Int32} {I3 : Nat → Int32} {n4 : Nat} {f4 : Nat → Int32} {n5 : Nat} {f5 : Nat → Int32} {x1 : Int32} {x2 : Int32} {x3 : Int32} {s0 : Int32}  {Z : Int32 → (Nat → Int32) × (Nat → Int32) × (Nat → Int32) × (Nat → Int32) → Prop} {H : Heap} {locs : List Loc} {ls : Array Slot} (hc : zC p s m args meth c prog_9_method_20_code (some .int) 6 "NumberDress$Reader") (hA : ∀ q : Nat, s.heap.size ≤ q → A q) (hE : zE gE A s) (hl : lv_has ls 6 [(0, .ref h0), (1, .int x1), (2, .int x2), (3, .int x3)]) (hK : va_K (dC, dI) zCl [(cA1, .char), (cA4, .int), (cA5, .int)] s) (hP : va_P (dC, dI) zCl [(h0, .inr (8, o_Reader I0 h1 h2 h3)), (h1, .inl (cA1, n1, .inl f1)), (h2, .inr (1, o_Code I2 a2_0 h4 h5)), (h3, .inr (9, o_Section I3)), (h4, .inl (cA4, n4, .inl f4)), (h5, .inl (cA5, n5, .inl f5))] H) (hD : va_D A [(h0, .inr (8, o_Reader I0 h1 h2 h3)), (h1, .inl (cA1, n1, .inl f1)), (h2, .inr (1, o_Code I2 a2_0 h4 h5)), (h3, .inr (9, o_Section I3)), (h4, .inl (cA4, n4, .inl f4)), (h5, .inl (cA5, n5, .inl f5))]) (hS : va_S A s.heap H locs) (hv : v_Reader_readFraction_49 I0 n1 f1 I2 I3 n4 f4 n5 f5 x1 x2 x3 s0  Z) : W p l e (headSpec (Cond.code (⟨"NumberDress$Reader", "readFraction", "(I)I"⟩ : MethodName) prog_9_method_20_code 6 (some .int) :: zT) { frames := 2, cells := 0, slots := 0, locals := 43 }).room s m args below meth c H locs 0 0 (MQ below (va_Qi Z (zB (dC, dI) zCl [(cA1, .char), (cA4, .int), (cA5, .int)] A (fun u : (Nat → Int32) × (Nat → Int32) × (Nat → Int32) × (Nat → Int32) => [(h0, .inr (8, o_Reader I0 h1 h2 h3)), (h1, .inl (cA1, n1, .inl f1)), (h2, .inr (1, o_Code u.1 a2_0 h4 h5)), (h3, .inr (9, o_Section u.2.1)), (h4, .inl (cA4, n4, .inl u.2.2.1)), (h5, .inl (cA5, n5, .inl u.2.2.2))])) A) args s 0 0 A) (F0 m 49 ls [.int s0]) := by
  obtain ⟨hx, hb, hr, hml, hown, ht, hlocks⟩ := id hc
  unfold v_Reader_readFraction_49 at hv
  refine lv_istore (lv' := [(4, .int s0), (0, .ref h0), (1, .int x1), (2, .int x2), (3, .int x3)]) hx hb d_Reader_readFraction_49 hl (by decide) rfl (fun ls hl => ?_)
  refine lv_iload hx hb d_Reader_readFraction_51 (lv_at hl 0 rfl) ?_
  refine lv_if_eq (tgt := 62) hx hb d_Reader_readFraction_53 (by decide) (fun c_1 => ?_) (fun c_1 => ?_)
  · have hv := hv.1 c_1
    refine lv_iconst (v := (0 : Int32)) hx hb d_Reader_readFraction_62 (by decide) ?_
    exact W.iret (v := (0 : Int32)) hx hb hr (fun t ht hW => ⟨⟨_, (I2, I3, f4, f5), rfl, hv, ⟨by rw [ht]; exact hP, va_K.moved hW.alike hK, hD⟩⟩, hS.F ht⟩) hS.2.2 d_Reader_readFraction_63
  · have hv := hv.2 c_1
    refine lv_iload_n hx hb d_Reader_readFraction_56 rfl (lv_at hl 3 rfl) ?_
    refine lv_iload_n hx hb d_Reader_readFraction_57 rfl (lv_at hl 4 rfl) ?_
    refine lv_iadd hx hb d_Reader_readFraction_58 ?_
    refine lv_if_ne (tgt := 64) hx hb d_Reader_readFraction_59 (by decide) (fun c_2 => ?_) (fun c_2 => ?_)
    · have hv := hv.1 c_2
      refine lv_aload_n hx hb d_Reader_readFraction_64 rfl (lv_at hl 1 rfl) ?_
      refine va_get (D := (dC, dI)) (ci := 8) (v := .ref h3) (C := "NumberDress$Reader") (T := T_Reader) (N := 5) hx hb ht zin_Reader hown hK hP 0 rfl rfl 3 (by decide) (ht _ zw_274) (fun _ h9 => h9) rfl d_Reader_readFraction_65 ?_
      refine lv_iconst (v := (4 : Int32)) hx hb d_Reader_readFraction_68 (by decide) ?_
      refine va_put (D := (dC, dI)) (ci := 9) (v := .int (4 : Int32)) (ty := .int) (C := "NumberDress$Section") (T := T_Section) (N := 15) hx hb ht zin_Section ty_Section tyok_Section nm_Section hown hK hP hD hS 3 rfl rfl 0 (by decide) (ht _ zw_159) (fun _ h9 => h9) rfl (by decide +kernel) rfl rfl (Nat.le_of_ble_eq_true rfl) d_Reader_readFraction_69 (fun H locs hP hD hS => ?_)
      have hP : va_P (dC, dI) zCl [(h0, .inr (8, o_Reader I0 h1 h2 h3)), (h1, .inl (cA1, n1, .inl f1)), (h2, .inr (1, o_Code I2 a2_0 h4 h5)), (h3, .inr (9, o_Section (zu I3 0 (4 : Int32)))), (h4, .inl (cA4, n4, .inl f4)), (h5, .inl (cA5, n5, .inl f5))] H := hP
      have hD : va_D A [(h0, .inr (8, o_Reader I0 h1 h2 h3)), (h1, .inl (cA1, n1, .inl f1)), (h2, .inr (1, o_Code I2 a2_0 h4 h5)), (h3, .inr (9, o_Section (zu I3 0 (4 : Int32)))), (h4, .inl (cA4, n4, .inl f4)), (h5, .inl (cA5, n5, .inl f5))] := hD
      refine lv_aload_n hx hb d_Reader_readFraction_72 rfl (lv_at hl 1 rfl) ?_
      refine z_callv (wc := [(h0, .inr (8, o_Reader I0 h1 h2 h3)), (h2, .inr (1, o_Code I2 a2_0 h4 h5)), (h3, .inr (9, o_Section (zu I3 0 (4 : Int32)))), (h4, .inl (cA4, n4, .inl f4))]) (wr := [(h1, .inl (cA1, n1, .inl f1)), (h5, .inl (cA5, n5, .inl f5))]) [0, 2, 3, 4] [1, 5] (va_runV (As := []) (rest := []) ⟨hx, hb, hml, hown, ht⟩ (m_Reader_makeNumerator l dC dI hv) ⟨(callB_of 0 ht (zG_in zi_Reader_makeNumerator) rfl rfl rfl (ht _ zw_113) (ht _ zw_765) zh_Reader_makeNumerator ⟨Nat.le_of_ble_eq_true rfl, Nat.le_of_ble_eq_true rfl⟩), (ht _ zw_767), (ht _ zw_25)⟩ ⟨zPc_blind, va_recv hK hP (ci := 8) (q0 := 0) rfl rfl, zPc_pre hP hK hD hS hA hE [0, 2, 3, 4] [1] rfl rfl (by decide) rfl⟩ rfl rfl hl.1 rfl (lv_room (Nat.le_of_ble_eq_true rfl)) d_Reader_readFraction_73 ⟨Nat.le_of_ble_eq_true rfl, Nat.le_of_ble_eq_true rfl⟩) hP hD hS hA rfl rfl (by decide) (by decide) (fun u H locs hv hP hD hS => ?_)
      have hP : va_P (dC, dI) zCl [(h0, .inr (8, o_Reader I0 h1 h2 h3)), (h1, .inl (cA1, n1, .inl f1)), (h2, .inr (1, o_Code I2 a2_0 h4 h5)), (h3, .inr (9, o_Section u.1)), (h4, .inl (cA4, n4, .inl u.2)), (h5, .inl (cA5, n5, .inl f5))] H := hP.sub [2, 0, 3, 4, 5, 1] rfl
      have hD : va_D A [(h0, .inr (8, o_Reader I0 h1 h2 h3)), (h1, .inl (cA1, n1, .inl f1)), (h2, .inr (1, o_Code I2 a2_0 h4 h5)), (h3, .inr (9, o_Section u.1)), (h4, .inl (cA4, n4, .inl u.2)), (h5, .inl (cA5, n5, .inl f5))] := hD.sub [2, 0, 3, 4, 5, 1] (by decide) rfl
      exact b_Reader_readFraction_76 hc hA hE  (lv_sub hl [1, 2, 3, 4] rfl) hK hP hD hS hv
    · have hv := hv.2 c_2
      refine lv_iconst (v := (0 : Int32)) hx hb d_Reader_readFraction_62 (by decide) ?_
      exact W.iret (v := (0 : Int32)) hx hb hr (fun t ht hW => ⟨⟨_, (I2, I3, f4, f5), rfl, hv, ⟨by rw [ht]; exact hP, va_K.moved hW.alike hK, hD⟩⟩, hS.F ht⟩) hS.2.2 d_Reader_readFraction_63
set_option maxHeartbeats 4000000 in
set_option maxRecDepth 100000 in
theorem b_Reader_readFraction_48 {h0 : Nat} {h1 : Nat} {cA1 : ClassId} {h2 : Nat} {a2_0 : Nat} {h3 : Nat} {h4 : Nat} {cA4 : ClassId} {h5 : Nat} {cA5 : ClassId} {I0 : Nat → Int32} {n1 : Nat} {f1 : Nat → Int32} {I2 : Nat → Int32} {I3 : Nat → Int32} {n4 : Nat} {f4 : Nat → Int32} {n5 : Nat} {f5 : Nat → Int32} {x1 : Int32} {x2 : Int32} {x3 : Int32}  {Z : Int32 → (Nat → Int32) × (Nat → Int32) × (Nat → Int32) × (Nat → Int32) → Prop} {H : Heap} {locs : List Loc} {ls : Array Slot} (hc : zC p s m args meth c prog_9_method_20_code (some .int) 6 "NumberDress$Reader") (hA : ∀ q : Nat, s.heap.size ≤ q → A q) (hE : zE gE A s) (hl : lv_has ls 6 [(0, .ref h0), (1, .int x1), (2, .int x2), (3, .int x3)]) (hK : va_K (dC, dI) zCl [(cA1, .char), (cA4, .int), (cA5, .int)] s) (hP : va_P (dC, dI) zCl [(h0, .inr (8, o_Reader I0 h1 h2 h3)), (h1, .inl (cA1, n1, .inl f1)), (h2, .inr (1, o_Code I2 a2_0 h4 h5)), (h3, .inr (9, o_Section I3)), (h4, .inl (cA4, n4, .inl f4)), (h5, .inl (cA5, n5, .inl f5))] H) (hD : va_D A [(h0, .inr (8, o_Reader I0 h1 h2 h3)), (h1, .inl (cA1, n1, .inl f1)), (h2, .inr (1, o_Code I2 a2_0 h4 h5)), (h3, .inr (9, o_Section I3)), (h4, .inl (cA4, n4, .inl f4)), (h5, .inl (cA5, n5, .inl f5))]) (hS : va_S A s.heap H locs) (hv : v_Reader_readFraction_48 I0 n1 f1 I2 I3 n4 f4 n5 f5 x1 x2 x3  Z) : W p l e (headSpec (Cond.code (⟨"NumberDress$Reader", "readFraction", "(I)I"⟩ : MethodName) prog_9_method_20_code 6 (some .int) :: zT) { frames := 2, cells := 0, slots := 0, locals := 43 }).room s m args below meth c H locs 0 0 (MQ below (va_Qi Z (zB (dC, dI) zCl [(cA1, .char), (cA4, .int), (cA5, .int)] A (fun u : (Nat → Int32) × (Nat → Int32) × (Nat → Int32) × (Nat → Int32) => [(h0, .inr (8, o_Reader I0 h1 h2 h3)), (h1, .inl (cA1, n1, .inl f1)), (h2, .inr (1, o_Code u.1 a2_0 h4 h5)), (h3, .inr (9, o_Section u.2.1)), (h4, .inl (cA4, n4, .inl u.2.2.1)), (h5, .inl (cA5, n5, .inl u.2.2.2))])) A) args s 0 0 A) (F0 m 48 ls []) := by
  obtain ⟨hx, hb, hr, hml, hown, ht, hlocks⟩ := id hc
  unfold v_Reader_readFraction_48 at hv
  refine lv_iconst (v := (0 : Int32)) hx hb d_Reader_readFraction_48 (by decide) ?_
  exact b_Reader_readFraction_49 hc hA hE  (lv_sub hl [0, 1, 2, 3] rfl) hK hP hD hS hv
set_option maxHeartbeats 4000000 in
set_option maxRecDepth 100000 in
theorem b_Reader_readFraction_31 {h0 : Nat} {h1 : Nat} {cA1 : ClassId} {h2 : Nat} {a2_0 : Nat} {h3 : Nat} {h4 : Nat} {cA4 : ClassId} {h5 : Nat} {cA5 : ClassId} {I0 : Nat → Int32} {n1 : Nat} {f1 : Nat → Int32} {I2 : Nat → Int32} {I3 : Nat → Int32} {n4 : Nat} {f4 : Nat → Int32} {n5 : Nat} {f5 : Nat → Int32} {x1 : Int32} {x2 : Int32} {x3 : Int32} {s0 : Int32}  {Z : Int32 → (Nat → Int32) × (Nat → Int32) × (Nat → Int32) × (Nat → Int32) → Prop} {H : Heap} {locs : List Loc} {ls : Array Slot} (hc : zC p s m args meth c prog_9_method_20_code (some .int) 6 "NumberDress$Reader") (hA : ∀ q : Nat, s.heap.size ≤ q → A q) (hE : zE gE A s) (hl : lv_has ls 6 [(0, .ref h0), (1, .int x1), (2, .int x2), (3, .int x3)]) (hK : va_K (dC, dI) zCl [(cA1, .char), (cA4, .int), (cA5, .int)] s) (hP : va_P (dC, dI) zCl [(h0, .inr (8, o_Reader I0 h1 h2 h3)), (h1, .inl (cA1, n1, .inl f1)), (h2, .inr (1, o_Code I2 a2_0 h4 h5)), (h3, .inr (9, o_Section I3)), (h4, .inl (cA4, n4, .inl f4)), (h5, .inl (cA5, n5, .inl f5))] H) (hD : va_D A [(h0, .inr (8, o_Reader I0 h1 h2 h3)), (h1, .inl (cA1, n1, .inl f1)), (h2, .inr (1, o_Code I2 a2_0 h4 h5)), (h3, .inr (9, o_Section I3)), (h4, .inl (cA4, n4, .inl f4)), (h5, .inl (cA5, n5, .inl f5))]) (hS : va_S A s.heap H locs) (hv : v_Reader_readFraction_31 I0 n1 f1 I2 I3 n4 f4 n5 f5 x1 x2 x3 s0  Z) : W p l e (headSpec (Cond.code (⟨"NumberDress$Reader", "readFraction", "(I)I"⟩ : MethodName) prog_9_method_20_code 6 (some .int) :: zT) { frames := 2, cells := 0, slots := 0, locals := 43 }).room s m args below meth c H locs 0 0 (MQ below (va_Qi Z (zB (dC, dI) zCl [(cA1, .char), (cA4, .int), (cA5, .int)] A (fun u : (Nat → Int32) × (Nat → Int32) × (Nat → Int32) × (Nat → Int32) => [(h0, .inr (8, o_Reader I0 h1 h2 h3)), (h1, .inl (cA1, n1, .inl f1)), (h2, .inr (1, o_Code u.1 a2_0 h4 h5)), (h3, .inr (9, o_Section u.2.1)), (h4, .inl (cA4, n4, .inl u.2.2.1)), (h5, .inl (cA5, n5, .inl u.2.2.2))])) A) args s 0 0 A) (F0 m 31 ls [.int s0]) := by
  obtain ⟨hx, hb, hr, hml, hown, ht, hlocks⟩ := id hc
  unfold v_Reader_readFraction_31 at hv
  refine lv_if_ne (tgt := 48) hx hb d_Reader_readFraction_31 (by decide) (fun c_1 => ?_) (fun c_1 => ?_)
  · have hv := hv.1 c_1
    exact b_Reader_readFraction_48 hc hA hE  (lv_sub hl [0, 1, 2, 3] rfl) hK hP hD hS hv
  · have hv := hv.2 c_1
    refine lv_aload_n hx hb d_Reader_readFraction_34 rfl (lv_at hl 0 rfl) ?_
    refine va_get (D := (dC, dI)) (ci := 8) (v := .ref h3) (C := "NumberDress$Reader") (T := T_Reader) (N := 5) hx hb ht zin_Reader hown hK hP 0 rfl rfl 3 (by decide) (ht _ zw_274) (fun _ h9 => h9) rfl d_Reader_readFraction_35 ?_
    refine va_get (D := (dC, dI)) (ci := 9) (v := .int (I3 5)) (C := "NumberDress$Section") (T := T_Section) (N := 15) hx hb ht zin_Section hown hK hP 3 rfl rfl 5 (by decide) (ht _ zw_182) (fun _ h9 => h9) rfl d_Reader_readFraction_38 ?_
    refine lv_if_ne (tgt := 48) hx hb d_Reader_readFraction_41 (by decide) (fun c_2 => ?_) (fun c_2 => ?_)
    · have hv := hv.1 c_2
      exact b_Reader_readFraction_48 hc hA hE  (lv_sub hl [0, 1, 2, 3] rfl) hK hP hD hS hv
    · have hv := hv.2 c_2
      refine lv_iconst (v := (1 : Int32)) hx hb d_Reader_readFraction_44 (by decide) ?_
      refine lv_goto (tgt := 49) hx hb d_Reader_readFraction_45 (by decide) ?_
      exact b_Reader_readFraction_49 hc hA hE  (lv_sub hl [0, 1, 2, 3] rfl) hK hP hD hS hv
set_option maxHeartbeats 4000000 in
set_option maxRecDepth 100000 in
theorem b_Reader_readFraction_20 {h0 : Nat} {h1 : Nat} {cA1 : ClassId} {h2 : Nat} {a2_0 : Nat} {h3 : Nat} {h4 : Nat} {cA4 : ClassId} {h5 : Nat} {cA5 : ClassId} {I0 : Nat → Int32} {n1 : Nat} {f1 : Nat → Int32} {I2 : Nat → Int32} {I3 : Nat → Int32} {n4 : Nat} {f4 : Nat → Int32} {n5 : Nat} {f5 : Nat → Int32} {x1 : Int32} {x2 : Int32} {x3 : Int32} {s0 : Int32}  {Z : Int32 → (Nat → Int32) × (Nat → Int32) × (Nat → Int32) × (Nat → Int32) → Prop} {H : Heap} {locs : List Loc} {ls : Array Slot} (hc : zC p s m args meth c prog_9_method_20_code (some .int) 6 "NumberDress$Reader") (hA : ∀ q : Nat, s.heap.size ≤ q → A q) (hE : zE gE A s) (hl : lv_has ls 6 [(0, .ref h0), (1, .int x1), (2, .int x2), (3, .int x3)]) (hK : va_K (dC, dI) zCl [(cA1, .char), (cA4, .int), (cA5, .int)] s) (hP : va_P (dC, dI) zCl [(h0, .inr (8, o_Reader I0 h1 h2 h3)), (h1, .inl (cA1, n1, .inl f1)), (h2, .inr (1, o_Code I2 a2_0 h4 h5)), (h3, .inr (9, o_Section I3)), (h4, .inl (cA4, n4, .inl f4)), (h5, .inl (cA5, n5, .inl f5))] H) (hD : va_D A [(h0, .inr (8, o_Reader I0 h1 h2 h3)), (h1, .inl (cA1, n1, .inl f1)), (h2, .inr (1, o_Code I2 a2_0 h4 h5)), (h3, .inr (9, o_Section I3)), (h4, .inl (cA4, n4, .inl f4)), (h5, .inl (cA5, n5, .inl f5))]) (hS : va_S A s.heap H locs) (hv : v_Reader_readFraction_20 I0 n1 f1 I2 I3 n4 f4 n5 f5 x1 x2 x3 s0  Z) : W p l e (headSpec (Cond.code (⟨"NumberDress$Reader", "readFraction", "(I)I"⟩ : MethodName) prog_9_method_20_code 6 (some .int) :: zT) { frames := 2, cells := 0, slots := 0, locals := 43 }).room s m args below meth c H locs 0 0 (MQ below (va_Qi Z (zB (dC, dI) zCl [(cA1, .char), (cA4, .int), (cA5, .int)] A (fun u : (Nat → Int32) × (Nat → Int32) × (Nat → Int32) × (Nat → Int32) => [(h0, .inr (8, o_Reader I0 h1 h2 h3)), (h1, .inl (cA1, n1, .inl f1)), (h2, .inr (1, o_Code u.1 a2_0 h4 h5)), (h3, .inr (9, o_Section u.2.1)), (h4, .inl (cA4, n4, .inl u.2.2.1)), (h5, .inl (cA5, n5, .inl u.2.2.2))])) A) args s 0 0 A) (F0 m 20 ls [.int s0]) := by
  obtain ⟨hx, hb, hr, hml, hown, ht, hlocks⟩ := id hc
  unfold v_Reader_readFraction_20 at hv
  refine lv_iconst (v := (2 : Int32)) hx hb d_Reader_readFraction_20 (by decide) ?_
  refine lv_icmp_ne (tgt := 48) hx hb d_Reader_readFraction_21 (by decide) (fun c_1 => ?_) (fun c_1 => ?_)
  · have hv := hv.1 c_1
    exact b_Reader_readFraction_48 hc hA hE  (lv_sub hl [0, 1, 2, 3] rfl) hK hP hD hS hv
  · have hv := hv.2 c_1
    refine lv_aload_n hx hb d_Reader_readFraction_24 rfl (lv_at hl 0 rfl) ?_
    refine va_get (D := (dC, dI)) (ci := 8) (v := .ref h3) (C := "NumberDress$Reader") (T := T_Reader) (N := 5) hx hb ht zin_Reader hown hK hP 0 rfl rfl 3 (by decide) (ht _ zw_274) (fun _ h9 => h9) rfl d_Reader_readFraction_25 ?_
    refine z_calli (wc := [(h3, .inr (9, o_Section I3))]) (wr := [(h0, .inr (8, o_Reader I0 h1 h2 h3)), (h1, .inl (cA1, n1, .inl f1)), (h2, .inr (1, o_Code I2 a2_0 h4 h5)), (h4, .inl (cA4, n4, .inl f4)), (h5, .inl (cA5, n5, .inl f5))]) [3] [0, 1, 2, 4, 5] (va_runV (As := []) (rest := []) ⟨hx, hb, hml, hown, ht⟩ (m_Section_hasCommaOrPercent l dC dI hv) ⟨(callB_of 0 ht (zG_in zi_Section_hasCommaOrPercent) rfl rfl rfl (ht _ zw_112) (ht _ zw_750) zh_Section_hasCommaOrPercent ⟨Nat.le_of_ble_eq_true rfl, Nat.le_of_ble_eq_true rfl⟩), (ht _ zw_751), (ht _ zw_752)⟩ ⟨zPc_blind, va_recv hK hP (ci := 9) (q0 := 3) rfl rfl, zPc_pre hP hK hD hS hA hE [3] [] rfl rfl (by decide) rfl⟩ rfl rfl hl.1 rfl (lv_room (Nat.le_of_ble_eq_true rfl)) d_Reader_readFraction_28 ⟨Nat.le_of_ble_eq_true rfl, Nat.le_of_ble_eq_true rfl⟩) hP hD hS hA rfl rfl (by decide) (by decide) (fun r u H locs hv hP hD hS => ?_)
    have hP : va_P (dC, dI) zCl [(h0, .inr (8, o_Reader I0 h1 h2 h3)), (h1, .inl (cA1, n1, .inl f1)), (h2, .inr (1, o_Code I2 a2_0 h4 h5)), (h3, .inr (9, o_Section I3)), (h4, .inl (cA4, n4, .inl f4)), (h5, .inl (cA5, n5, .inl f5))] H := hP.sub [0, 1, 2, 5, 3, 4] rfl
    have hD : va_D A [(h0, .inr (8, o_Reader I0 h1 h2 h3)), (h1, .inl (cA1, n1, .inl f1)), (h2, .inr (1, o_Code I2 a2_0 h4 h5)), (h3, .inr (9, o_Section I3)), (h4, .inl (cA4, n4, .inl f4)), (h5, .inl (cA5, n5, .inl f5))] := hD.sub [0, 1, 2, 5, 3, 4] (by decide) rfl
    exact b_Reader_readFraction_31 hc hA hE  (lv_sub hl [0, 1, 2, 3] rfl) hK hP hD hS hv
set_option maxHeartbeats 4000000 in
set_option maxRecDepth 100000 in
theorem b_Reader_readFraction_15 {h0 : Nat} {h1 : Nat} {cA1 : ClassId} {h2 : Nat} {a2_0 : Nat} {h3 : Nat} {h4 : Nat} {cA4 : ClassId} {h5 : Nat} {cA5 : ClassId} {I0 : Nat → Int32} {n1 : Nat} {f1 : Nat → Int32} {I2 : Nat → Int32} {I3 : Nat → Int32} {n4 : Nat} {f4 : Nat → Int32} {n5 : Nat} {f5 : Nat → Int32} {x1 : Int32} {x2 : Int32} {s0 : Int32}  {Z : Int32 → (Nat → Int32) × (Nat → Int32) × (Nat → Int32) × (Nat → Int32) → Prop} {H : Heap} {locs : List Loc} {ls : Array Slot} (hc : zC p s m args meth c prog_9_method_20_code (some .int) 6 "NumberDress$Reader") (hA : ∀ q : Nat, s.heap.size ≤ q → A q) (hE : zE gE A s) (hl : lv_has ls 6 [(0, .ref h0), (1, .int x1), (2, .int x2)]) (hK : va_K (dC, dI) zCl [(cA1, .char), (cA4, .int), (cA5, .int)] s) (hP : va_P (dC, dI) zCl [(h0, .inr (8, o_Reader I0 h1 h2 h3)), (h1, .inl (cA1, n1, .inl f1)), (h2, .inr (1, o_Code I2 a2_0 h4 h5)), (h3, .inr (9, o_Section I3)), (h4, .inl (cA4, n4, .inl f4)), (h5, .inl (cA5, n5, .inl f5))] H) (hD : va_D A [(h0, .inr (8, o_Reader I0 h1 h2 h3)), (h1, .inl (cA1, n1, .inl f1)), (h2, .inr (1, o_Code I2 a2_0 h4 h5)), (h3, .inr (9, o_Section I3)), (h4, .inl (cA4, n4, .inl f4)), (h5, .inl (cA5, n5, .inl f5))]) (hS : va_S A s.heap H locs) (hv : v_Reader_readFraction_15 I0 n1 f1 I2 I3 n4 f4 n5 f5 x1 x2 s0  Z) : W p l e (headSpec (Cond.code (⟨"NumberDress$Reader", "readFraction", "(I)I"⟩ : MethodName) prog_9_method_20_code 6 (some .int) :: zT) { frames := 2, cells := 0, slots := 0, locals := 43 }).room s m args below meth c H locs 0 0 (MQ below (va_Qi Z (zB (dC, dI) zCl [(cA1, .char), (cA4, .int), (cA5, .int)] A (fun u : (Nat → Int32) × (Nat → Int32) × (Nat → Int32) × (Nat → Int32) => [(h0, .inr (8, o_Reader I0 h1 h2 h3)), (h1, .inl (cA1, n1, .inl f1)), (h2, .inr (1, o_Code u.1 a2_0 h4 h5)), (h3, .inr (9, o_Section u.2.1)), (h4, .inl (cA4, n4, .inl u.2.2.1)), (h5, .inl (cA5, n5, .inl u.2.2.2))])) A) args s 0 0 A) (F0 m 15 ls [.int s0]) := by
  obtain ⟨hx, hb, hr, hml, hown, ht, hlocks⟩ := id hc
  unfold v_Reader_readFraction_15 at hv
  refine lv_istore_n (lv' := [(3, .int s0), (0, .ref h0), (1, .int x1), (2, .int x2)]) hx hb d_Reader_readFraction_15 rfl hl (by decide) rfl (fun ls hl => ?_)
  refine lv_aload_n hx hb d_Reader_readFraction_16 rfl (lv_at hl 1 rfl) ?_
  refine z_calli (wc := [(h0, .inr (8, o_Reader I0 h1 h2 h3)), (h2, .inr (1, o_Code I2 a2_0 h4 h5)), (h3, .inr (9, o_Section I3)), (h4, .inl (cA4, n4, .inl f4))]) (wr := [(h1, .inl (cA1, n1, .inl f1)), (h5, .inl (cA5, n5, .inl f5))]) [0, 2, 3, 4] [1, 5] (va_runV (As := []) (rest := []) ⟨hx, hb, hml, hown, ht⟩ (m_Reader_kindBefore l dC dI hv) ⟨(callB_of 0 ht (zG_in zi_Reader_kindBefore) rfl rfl rfl (ht _ zw_113) (ht _ zw_734) zh_Reader_kindBefore ⟨Nat.le_of_ble_eq_true rfl, Nat.le_of_ble_eq_true rfl⟩), (ht _ zw_736), (ht _ zw_20)⟩ ⟨zPc_blind, va_recv hK hP (ci := 8) (q0 := 0) rfl rfl, zPc_pre hP hK hD hS hA hE [0, 2, 3, 4] [1] rfl rfl (by decide) rfl⟩ rfl rfl hl.1 rfl (lv_room (Nat.le_of_ble_eq_true rfl)) d_Reader_readFraction_17 ⟨Nat.le_of_ble_eq_true rfl, Nat.le_of_ble_eq_true rfl⟩) hP hD hS hA rfl rfl (by decide) (by decide) (fun r u H locs hv hP hD hS => ?_)
  have hP : va_P (dC, dI) zCl [(h0, .inr (8, o_Reader I0 h1 h2 h3)), (h1, .inl (cA1, n1, .inl f1)), (h2, .inr (1, o_Code I2 a2_0 h4 h5)), (h3, .inr (9, o_Section I3)), (h4, .inl (cA4, n4, .inl f4)), (h5, .inl (cA5, n5, .inl f5))] H := hP.sub [2, 0, 3, 4, 5, 1] rfl
  have hD : va_D A [(h0, .inr (8, o_Reader I0 h1 h2 h3)), (h1, .inl (cA1, n1, .inl f1)), (h2, .inr (1, o_Code I2 a2_0 h4 h5)), (h3, .inr (9, o_Section I3)), (h4, .inl (cA4, n4, .inl f4)), (h5, .inl (cA5, n5, .inl f5))] := hD.sub [2, 0, 3, 4, 5, 1] (by decide) rfl
  exact b_Reader_readFraction_20 hc hA hE  (lv_sub hl [1, 2, 3, 0] rfl) hK hP hD hS hv
set_option maxHeartbeats 4000000 in
set_option maxRecDepth 100000 in
theorem b_Reader_readFraction_7 {h0 : Nat} {h1 : Nat} {cA1 : ClassId} {h2 : Nat} {a2_0 : Nat} {h3 : Nat} {h4 : Nat} {cA4 : ClassId} {h5 : Nat} {cA5 : ClassId} {I0 : Nat → Int32} {n1 : Nat} {f1 : Nat → Int32} {I2 : Nat → Int32} {I3 : Nat → Int32} {n4 : Nat} {f4 : Nat → Int32} {n5 : Nat} {f5 : Nat → Int32} {x1 : Int32} {s0 : Int32}  {Z : Int32 → (Nat → Int32) × (Nat → Int32) × (Nat → Int32) × (Nat → Int32) → Prop} {H : Heap} {locs : List Loc} {ls : Array Slot} (hc : zC p s m args meth c prog_9_method_20_code (some .int) 6 "NumberDress$Reader") (hA : ∀ q : Nat, s.heap.size ≤ q → A q) (hE : zE gE A s) (hl : lv_has ls 6 [(0, .ref h0), (1, .int x1)]) (hK : va_K (dC, dI) zCl [(cA1, .char), (cA4, .int), (cA5, .int)] s) (hP : va_P (dC, dI) zCl [(h0, .inr (8, o_Reader I0 h1 h2 h3)), (h1, .inl (cA1, n1, .inl f1)), (h2, .inr (1, o_Code I2 a2_0 h4 h5)), (h3, .inr (9, o_Section I3)), (h4, .inl (cA4, n4, .inl f4)), (h5, .inl (cA5, n5, .inl f5))] H) (hD : va_D A [(h0, .inr (8, o_Reader I0 h1 h2 h3)), (h1, .inl (cA1, n1, .inl f1)), (h2, .inr (1, o_Code I2 a2_0 h4 h5)), (h3, .inr (9, o_Section I3)), (h4, .inl (cA4, n4, .inl f4)), (h5, .inl (cA5, n5, .inl f5))]) (hS : va_S A s.heap H locs) (hv : v_Reader_readFraction_7 I0 n1 f1 I2 I3 n4 f4 n5 f5 x1 s0  Z) : W p l e (headSpec (Cond.code (⟨"NumberDress$Reader", "readFraction", "(I)I"⟩ : MethodName) prog_9_method_20_code 6 (some .int) :: zT) { frames := 2, cells := 0, slots := 0, locals := 43 }).room s m args below meth c H locs 0 0 (MQ below (va_Qi Z (zB (dC, dI) zCl [(cA1, .char), (cA4, .int), (cA5, .int)] A (fun u : (Nat → Int32) × (Nat → Int32) × (Nat → Int32) × (Nat → Int32) => [(h0, .inr (8, o_Reader I0 h1 h2 h3)), (h1, .inl (cA1, n1, .inl f1)), (h2, .inr (1, o_Code u.1 a2_0 h4 h5)), (h3, .inr (9, o_Section u.2.1)), (h4, .inl (cA4, n4, .inl u.2.2.1)), (h5, .inl (cA5, n5, .inl u.2.2.2))])) A) args s 0 0 A) (F0 m 7 ls [.int s0]) := by
  obtain ⟨hx, hb, hr, hml, hown, ht, hlocks⟩ := id hc
  unfold v_Reader_readFraction_7 at hv
  refine lv_istore_n (lv' := [(2, .int s0), (0, .ref h0), (1, .int x1)]) hx hb d_Reader_readFraction_7 rfl hl (by decide) rfl (fun ls hl => ?_)
  refine lv_aload_n hx hb d_Reader_readFraction_8 rfl (lv_at hl 1 rfl) ?_
  refine lv_iload_n hx hb d_Reader_readFraction_9 rfl (lv_at hl 2 rfl) ?_
  refine lv_iconst (v := (1 : Int32)) hx hb d_Reader_readFraction_10 (by decide) ?_
  refine lv_iadd hx hb d_Reader_readFraction_11 ?_
  refine z_calli (wc := [(h0, .inr (8, o_Reader I0 h1 h2 h3)), (h1, .inl (cA1, n1, .inl f1))]) (wr := [(h2, .inr (1, o_Code I2 a2_0 h4 h5)), (h3, .inr (9, o_Section I3)), (h4, .inl (cA4, n4, .inl f4)), (h5, .inl (cA5, n5, .inl f5))]) [0, 1] [2, 3, 4, 5] (va_runV (As := [.int (x1 + (1 : Int32))]) (rest := []) ⟨hx, hb, hml, hown, ht⟩ (m_Reader_digitsFrom l dC dI hv) ⟨(callB_of 1 ht (zG_in zi_Reader_digitsFrom) rfl rfl rfl (ht _ zw_113) (ht _ zw_758) zh_Reader_digitsFrom ⟨Nat.le_of_ble_eq_true rfl, Nat.le_of_ble_eq_true rfl⟩), (ht _ zw_760), (ht _ zw_24)⟩ ⟨zPc_blind, va_recv hK hP (ci := 8) (q0 := 0) rfl rfl, zPc_pre hP hK hD hS hA hE [0, 1] [0] rfl rfl (by decide) rfl⟩ rfl rfl hl.1 rfl (lv_room (Nat.le_of_ble_eq_true rfl)) d_Reader_readFraction_12 ⟨Nat.le_of_ble_eq_true rfl, Nat.le_of_ble_eq_true rfl⟩) hP hD hS hA rfl rfl (by decide) (by decide) (fun r u H locs hv hP hD hS => ?_)
  have hP : va_P (dC, dI) zCl [(h0, .inr (8, o_Reader I0 h1 h2 h3)), (h1, .inl (cA1, n1, .inl f1)), (h2, .inr (1, o_Code I2 a2_0 h4 h5)), (h3, .inr (9, o_Section I3)), (h4, .inl (cA4, n4, .inl f4)), (h5, .inl (cA5, n5, .inl f5))] H := hP.sub [4, 5, 0, 1, 2, 3] rfl
  have hD : va_D A [(h0, .inr (8, o_Reader I0 h1 h2 h3)), (h1, .inl (cA1, n1, .inl f1)), (h2, .inr (1, o_Code I2 a2_0 h4 h5)), (h3, .inr (9, o_Section I3)), (h4, .inl (cA4, n4, .inl f4)), (h5, .inl (cA5, n5, .inl f5))] := hD.sub [4, 5, 0, 1, 2, 3] (by decide) rfl
  exact b_Reader_readFraction_15 hc hA hE  (lv_sub hl [1, 2, 0] rfl) hK hP hD hS hv
set_option maxHeartbeats 4000000 in
set_option maxRecDepth 100000 in
theorem b_Reader_readFraction_0 {h0 : Nat} {h1 : Nat} {cA1 : ClassId} {h2 : Nat} {a2_0 : Nat} {h3 : Nat} {h4 : Nat} {cA4 : ClassId} {h5 : Nat} {cA5 : ClassId} {I0 : Nat → Int32} {n1 : Nat} {f1 : Nat → Int32} {I2 : Nat → Int32} {I3 : Nat → Int32} {n4 : Nat} {f4 : Nat → Int32} {n5 : Nat} {f5 : Nat → Int32} {x1 : Int32}  {Z : Int32 → (Nat → Int32) × (Nat → Int32) × (Nat → Int32) × (Nat → Int32) → Prop} {H : Heap} {locs : List Loc} {ls : Array Slot} (hc : zC p s m args meth c prog_9_method_20_code (some .int) 6 "NumberDress$Reader") (hA : ∀ q : Nat, s.heap.size ≤ q → A q) (hE : zE gE A s) (hl : lv_has ls 6 [(0, .ref h0), (1, .int x1)]) (hK : va_K (dC, dI) zCl [(cA1, .char), (cA4, .int), (cA5, .int)] s) (hP : va_P (dC, dI) zCl [(h0, .inr (8, o_Reader I0 h1 h2 h3)), (h1, .inl (cA1, n1, .inl f1)), (h2, .inr (1, o_Code I2 a2_0 h4 h5)), (h3, .inr (9, o_Section I3)), (h4, .inl (cA4, n4, .inl f4)), (h5, .inl (cA5, n5, .inl f5))] H) (hD : va_D A [(h0, .inr (8, o_Reader I0 h1 h2 h3)), (h1, .inl (cA1, n1, .inl f1)), (h2, .inr (1, o_Code I2 a2_0 h4 h5)), (h3, .inr (9, o_Section I3)), (h4, .inl (cA4, n4, .inl f4)), (h5, .inl (cA5, n5, .inl f5))]) (hS : va_S A s.heap H locs) (hv : v_Reader_readFraction_0 I0 n1 f1 I2 I3 n4 f4 n5 f5 x1  Z) : W p l e (headSpec (Cond.code (⟨"NumberDress$Reader", "readFraction", "(I)I"⟩ : MethodName) prog_9_method_20_code 6 (some .int) :: zT) { frames := 2, cells := 0, slots := 0, locals := 43 }).room s m args below meth c H locs 0 0 (MQ below (va_Qi Z (zB (dC, dI) zCl [(cA1, .char), (cA4, .int), (cA5, .int)] A (fun u : (Nat → Int32) × (Nat → Int32) × (Nat → Int32) × (Nat → Int32) => [(h0, .inr (8, o_Reader I0 h1 h2 h3)), (h1, .inl (cA1, n1, .inl f1)), (h2, .inr (1, o_Code u.1 a2_0 h4 h5)), (h3, .inr (9, o_Section u.2.1)), (h4, .inl (cA4, n4, .inl u.2.2.1)), (h5, .inl (cA5, n5, .inl u.2.2.2))])) A) args s 0 0 A) (F0 m 0 ls []) := by
  obtain ⟨hx, hb, hr, hml, hown, ht, hlocks⟩ := id hc
  unfold v_Reader_readFraction_0 at hv
  refine lv_aload_n hx hb d_Reader_readFraction_0 rfl (lv_at hl 0 rfl) ?_
  refine lv_iload_n hx hb d_Reader_readFraction_1 rfl (lv_at hl 1 rfl) ?_
  refine lv_iconst (v := (1 : Int32)) hx hb d_Reader_readFraction_2 (by decide) ?_
  refine lv_iadd hx hb d_Reader_readFraction_3 ?_
  refine z_calli (wc := [(h0, .inr (8, o_Reader I0 h1 h2 h3)), (h1, .inl (cA1, n1, .inl f1))]) (wr := [(h2, .inr (1, o_Code I2 a2_0 h4 h5)), (h3, .inr (9, o_Section I3)), (h4, .inl (cA4, n4, .inl f4)), (h5, .inl (cA5, n5, .inl f5))]) [0, 1] [2, 3, 4, 5] (va_runV (As := [.int (x1 + (1 : Int32))]) (rest := []) ⟨hx, hb, hml, hown, ht⟩ (m_Reader_placesFrom l dC dI hv) ⟨(callB_of 1 ht (zG_in zi_Reader_placesFrom) rfl rfl rfl (ht _ zw_113) (ht _ zw_746) zh_Reader_placesFrom ⟨Nat.le_of_ble_eq_true rfl, Nat.le_of_ble_eq_true rfl⟩), (ht _ zw_748), (ht _ zw_22)⟩ ⟨zPc_blind, va_recv hK hP (ci := 8) (q0 := 0) rfl rfl, zPc_pre hP hK hD hS hA hE [0, 1] [0] rfl rfl (by decide) rfl⟩ rfl rfl hl.1 rfl (lv_room (Nat.le_of_ble_eq_true rfl)) d_Reader_readFraction_4 ⟨Nat.le_of_ble_eq_true rfl, Nat.le_of_ble_eq_true rfl⟩) hP hD hS hA rfl rfl (by decide) (by decide) (fun r u H locs hv hP hD hS => ?_)
  have hP : va_P (dC, dI) zCl [(h0, .inr (8, o_Reader I0 h1 h2 h3)), (h1, .inl (cA1, n1, .inl f1)), (h2, .inr (1, o_Code I2 a2_0 h4 h5)), (h3, .inr (9, o_Section I3)), (h4, .inl (cA4, n4, .inl f4)), (h5, .inl (cA5, n5, .inl f5))] H := hP.sub [4, 5, 0, 1, 2, 3] rfl
  have hD : va_D A [(h0, .inr (8, o_Reader I0 h1 h2 h3)), (h1, .inl (cA1, n1, .inl f1)), (h2, .inr (1, o_Code I2 a2_0 h4 h5)), (h3, .inr (9, o_Section I3)), (h4, .inl (cA4, n4, .inl f4)), (h5, .inl (cA5, n5, .inl f5))] := hD.sub [4, 5, 0, 1, 2, 3] (by decide) rfl
  exact b_Reader_readFraction_7 hc hA hE  (lv_sub hl [0, 1] rfl) hK hP hD hS hv
theorem zi_Reader_readFraction : Cond.code (⟨"NumberDress$Reader", "readFraction", "(I)I"⟩ : MethodName) prog_9_method_20_code 6 (some .int) ∈ zT := zw_757
theorem zh_Reader_readFraction : (((⟨"NumberDress$Reader", "readFraction", "(I)I"⟩ : MethodName)).cls ≠ "java/lang/invoke/MethodHandle" ∧ ((⟨"NumberDress$Reader", "readFraction", "(I)I"⟩ : MethodName)).cls ≠ "java/lang/invoke/VarHandle" ∧ (parseMethodDescriptor ((⟨"NumberDress$Reader", "readFraction", "(I)I"⟩ : MethodName)).desc).map (fun d => d.parameters.length) = some 1) := by decide +kernel
set_option maxHeartbeats 4000000 in
set_option maxRecDepth 100000 in
theorem m_Reader_readFraction (l : Launch) (dC : Nat → ClassId) (dI : Nat → Nat → Nat) {gE : zG} {h0 : Nat} {h1 : Nat} {cA1 : ClassId} {h2 : Nat} {a2_0 : Nat} {h3 : Nat} {h4 : Nat} {cA4 : ClassId} {h5 : Nat} {cA5 : ClassId} {I0 : Nat → Int32} {n1 : Nat} {f1 : Nat → Int32} {I2 : Nat → Int32} {I3 : Nat → Int32} {n4 : Nat} {f4 : Nat → Int32} {n5 : Nat} {f5 : Nat → Int32} {x1 : Int32} {sz : Nat} {Z : Int32 → (Nat → Int32) × (Nat → Int32) × (Nat → Int32) × (Nat → Int32) → Prop} (hv : v_Reader_readFraction_0 I0 n1 f1 I2 I3 n4 f4 n5 f5 x1 Z) : Met l (⟨"NumberDress$Reader", "readFraction", "(I)I"⟩ : MethodName) (Cond.code (⟨"NumberDress$Reader", "readFraction", "(I)I"⟩ : MethodName) prog_9_method_20_code 6 (some .int) :: zT) { frames := 2, cells := 0, slots := 0, locals := 43 } (zPc gE (dC, dI) zCl [(cA1, .char), (cA4, .int), (cA5, .int)] [.ref h0, .int x1] sz [(h0, .inr (8, o_Reader I0 h1 h2 h3)), (h1, .inl (cA1, n1, .inl f1)), (h2, .inr (1, o_Code I2 a2_0 h4 h5)), (h3, .inr (9, o_Section I3)), (h4, .inl (cA4, n4, .inl f4)), (h5, .inl (cA5, n5, .inl f5))]) (va_Qi Z (zB (dC, dI) zCl [(cA1, .char), (cA4, .int), (cA5, .int)] (va_A [(h0, .inr (8, o_Reader I0 h1 h2 h3)), (h1, .inl (cA1, n1, .inl f1)), (h2, .inr (1, o_Code I2 a2_0 h4 h5)), (h3, .inr (9, o_Section I3)), (h4, .inl (cA4, n4, .inl f4)), (h5, .inl (cA5, n5, .inl f5))] sz) (fun u : (Nat → Int32) × (Nat → Int32) × (Nat → Int32) × (Nat → Int32) => [(h0, .inr (8, o_Reader I0 h1 h2 h3)), (h1, .inl (cA1, n1, .inl f1)), (h2, .inr (1, o_Code u.1 a2_0 h4 h5)), (h3, .inr (9, o_Section u.2.1)), (h4, .inl (cA4, n4, .inl u.2.2.1)), (h5, .inl (cA5, n5, .inl u.2.2.2))])) (va_A [(h0, .inr (8, o_Reader I0 h1 h2 h3)), (h1, .inl (cA1, n1, .inl f1)), (h2, .inr (1, o_Code I2 a2_0 h4 h5)), (h3, .inr (9, o_Section I3)), (h4, .inl (cA4, n4, .inl f4)), (h5, .inl (cA5, n5, .inl f5))] sz)) 0 0 (va_A [(h0, .inr (8, o_Reader I0 h1 h2 h3)), (h1, .inl (cA1, n1, .inl f1)), (h2, .inr (1, o_Code I2 a2_0 h4 h5)), (h3, .inr (9, o_Section I3)), (h4, .inl (cA4, n4, .inl f4)), (h5, .inl (cA5, n5, .inl f5))] sz) := by
  refine Met.ofW (cc := prog_9_method_20_code) (maxL := 6) (ret := (some .int)) (by decide +kernel) rfl ?_
  intro p e s m args below meth c s₁ B hml hp
  obtain ⟨rfl, hsz, hP, hK, hD0, hE⟩ := hp
  have hts := atoms_spec (ws := (Cond.code (⟨"NumberDress$Reader", "readFraction", "(I)I"⟩ : MethodName) prog_9_method_20_code 6 (some .int) :: zT)) B.pre
  have hown : s.vm.findClass "NumberDress$Reader" = some m.cls := findClass_of_methodNamed B.named
  have hc : zC p s m _ meth c prog_9_method_20_code (some .int) 6 "NumberDress$Reader" := ⟨B.exec, B.bytes, B.returns, hml, hown, fun w h => hts w (List.mem_cons_of_mem _ h), B.notSynchronized⟩
  subst hsz
  have hD := hD0.self (sz := s.heap.size)
  generalize hAe : va_A [(h0, .inr (8, o_Reader I0 h1 h2 h3)), (h1, .inl (cA1, n1, .inl f1)), (h2, .inr (1, o_Code I2 a2_0 h4 h5)), (h3, .inr (9, o_Section I3)), (h4, .inl (cA4, n4, .inl f4)), (h5, .inl (cA5, n5, .inl f5))] s.heap.size = A at hD hE ⊢
  have hA : ∀ q : Nat, s.heap.size ≤ q → A q := fun q h => by rw [← hAe]; exact Or.inr h
  have hl := lv_entry ([.ref h0, .int x1]) (n := 6) (Nat.le_of_ble_eq_true rfl)
  rw [lg_entry_eq]
  exact b_Reader_readFraction_0 hc hA hE hl hK hP hD va_S.rf hv
end
