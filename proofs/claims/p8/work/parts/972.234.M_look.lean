section
variable {p : Program} {l : Launch} {e : Env} {s : State} {m : MethodId} {args : Array Value} {below : List Frame} {meth : Method} {c : Code} {dC : Nat → ClassId} {dI : Nat → Nat → Nat} {A : Nat → Prop} {gE : zG}
theorem d_M_look_0 : decode prog_14_method_67_code 0 = .ok (.aload_n 0, 1) := by decide +kernel
theorem d_M_look_1 : decode prog_14_method_67_code 1 = .ok (.iconst 0, 1) := by decide +kernel
theorem d_M_look_2 : decode prog_14_method_67_code 2 = .ok (.putfield 55, 3) := by decide +kernel
theorem d_M_look_5 : decode prog_14_method_67_code 5 = .ok (.aload_n 0, 1) := by decide +kernel
theorem d_M_look_6 : decode prog_14_method_67_code 6 = .ok (.invokevirtual 414, 3) := by decide +kernel
theorem d_M_look_9 : decode prog_14_method_67_code 9 = .ok (.aload_n 0, 1) := by decide +kernel
theorem d_M_look_10 : decode prog_14_method_67_code 10 = .ok (.getfield 231, 3) := by decide +kernel
theorem d_M_look_13 : decode prog_14_method_67_code 13 = .ok (.ireturn, 1) := by decide +kernel
set_option maxHeartbeats 4000000 in
set_option maxRecDepth 100000 in
theorem b_M_look_9 {h0 : Nat} {a0_2 : Nat} {h1 : Nat} {cA1 : ClassId} {h2 : Nat} {cA2 : ClassId} {h3 : Nat} {cA3 : ClassId} {h4 : Nat} {cA4 : ClassId} {h5 : Nat} {cA5 : ClassId} {h6 : Nat} {cA6 : ClassId} {h7 : Nat} {cA7 : ClassId} {h8 : Nat} {cA8 : ClassId} {h9 : Nat} {cA9 : ClassId} {h10 : Nat} {cA10 : ClassId} {h11 : Nat} {cA11 : ClassId} {h12 : Nat} {cA12 : ClassId} {h13 : Nat} {cA13 : ClassId} {h14 : Nat} {cA14 : ClassId} {I0 : Nat → Int32} {J0 : Nat → Int64} {n1 : Nat} {f1 : Nat → Int32} {n2 : Nat} {f2 : Nat → Int32} {n3 : Nat} {f3 : Nat → Int32} {n4 : Nat} {f4 : Nat → Int32} {n5 : Nat} {f5 : Nat → Int32} {n6 : Nat} {f6 : Nat → Int32} {n7 : Nat} {f7 : Nat → Int32} {n8 : Nat} {f8 : Nat → Int32} {n9 : Nat} {f9 : Nat → Int32} {n10 : Nat} {f10 : Nat → Int32} {n11 : Nat} {f11 : Nat → Int32} {n12 : Nat} {f12 : Nat → Int32} {n13 : Nat} {f13 : Nat → Int32} {n14 : Nat} {f14 : Nat → Int32}  {Z : Int32 → (Nat → Int32) × (Nat → Int64) × (Nat → Int32) × (Nat → Int32) × (Nat → Int32) × (Nat → Int32) → Prop} {H : Heap} {locs : List Loc} {ls : Array Slot} (hc : zC p s m args meth c prog_14_method_67_code (some .int) 1 "NumberDressModel") (hA : ∀ q : Nat, s.heap.size ≤ q → A q) (hE : zE gE A s) (hl : lv_has ls 1 [(0, .ref h0)]) (hK : va_K (dC, dI) zCl [(cA1, .int), (cA2, .int), (cA3, .int), (cA4, .int), (cA5, .int), (cA6, .int), (cA7, .int), (cA8, .int), (cA9, .int), (cA10, .int), (cA11, .int), (cA12, .int), (cA13, .int), (cA14, .int)] s) (hP : va_P (dC, dI) zCl [(h0, .inr (12, o_M I0 J0 a0_2 h1 h2 h5 h6 h7 h11 h13 h12 h3 h8 h9 h10 h14 h4)), (h1, .inl (cA1, n1, .inl f1)), (h2, .inl (cA2, n2, .inl f2)), (h3, .inl (cA3, n3, .inl f3)), (h4, .inl (cA4, n4, .inl f4)), (h5, .inl (cA5, n5, .inl f5)), (h6, .inl (cA6, n6, .inl f6)), (h7, .inl (cA7, n7, .inl f7)), (h8, .inl (cA8, n8, .inl f8)), (h9, .inl (cA9, n9, .inl f9)), (h10, .inl (cA10, n10, .inl f10)), (h11, .inl (cA11, n11, .inl f11)), (h12, .inl (cA12, n12, .inl f12)), (h13, .inl (cA13, n13, .inl f13)), (h14, .inl (cA14, n14, .inl f14))] H) (hD : va_D A [(h0, .inr (12, o_M I0 J0 a0_2 h1 h2 h5 h6 h7 h11 h13 h12 h3 h8 h9 h10 h14 h4)), (h1, .inl (cA1, n1, .inl f1)), (h2, .inl (cA2, n2, .inl f2)), (h3, .inl (cA3, n3, .inl f3)), (h4, .inl (cA4, n4, .inl f4)), (h5, .inl (cA5, n5, .inl f5)), (h6, .inl (cA6, n6, .inl f6)), (h7, .inl (cA7, n7, .inl f7)), (h8, .inl (cA8, n8, .inl f8)), (h9, .inl (cA9, n9, .inl f9)), (h10, .inl (cA10, n10, .inl f10)), (h11, .inl (cA11, n11, .inl f11)), (h12, .inl (cA12, n12, .inl f12)), (h13, .inl (cA13, n13, .inl f13)), (h14, .inl (cA14, n14, .inl f14))]) (hS : va_S A s.heap H locs) (hv : v_M_look_9 I0 J0 n1 f1 n2 f2 n3 f3 n4 f4 n5 f5 n6 f6 n7 f7 n8 f8 n9 f9 n10 f10 n11 f11 n12 f12 n13 f13 n14 f14  Z) : W p l e (headSpec (Cond.code (⟨"NumberDressModel", "look", "()I"⟩ : MethodName) prog_14_method_67_code 1 (some .int) :: zT) { frames := 7, cells := 0, slots := 0, locals := 169 }).room s m args below meth c H locs 0 0 (MQ below (va_Qi Z (zB (dC, dI) zCl [(cA1, .int), (cA2, .int), (cA3, .int), (cA4, .int), (cA5, .int), (cA6, .int), (cA7, .int), (cA8, .int), (cA9, .int), (cA10, .int), (cA11, .int), (cA12, .int), (cA13, .int), (cA14, .int)] A (fun u : (Nat → Int32) × (Nat → Int64) × (Nat → Int32) × (Nat → Int32) × (Nat → Int32) × (Nat → Int32) => [(h0, .inr (12, o_M u.1 u.2.1 a0_2 h1 h2 h5 h6 h7 h11 h13 h12 h3 h8 h9 h10 h14 h4)), (h1, .inl (cA1, n1, .inl f1)), (h2, .inl (cA2, n2, .inl f2)), (h3, .inl (cA3, n3, .inl f3)), (h4, .inl (cA4, n4, .inl u.2.2.1)), (h5, .inl (cA5, n5, .inl f5)), (h6, .inl (cA6, n6, .inl f6)), (h7, .inl (cA7, n7, .inl f7)), (h8, .inl (cA8, n8, .inl f8)), (h9, .inl (cA9, n9, .inl u.2.2.2.1)), (h10, .inl (cA10, n10, .inl u.2.2.2.2.1)), (h11, .inl (cA11, n11, .inl f11)), (h12, .inl (cA12, n12, .inl f12)), (h13, .inl (cA13, n13, .inl f13)), (h14, .inl (cA14, n14, .inl u.2.2.2.2.2))])) A) args s 0 0 A) (F0 m 9 ls []) := by
  obtain ⟨hx, hb, hr, hml, hown, ht, hlocks⟩ := id hc
  unfold v_M_look_9 at hv
  refine lv_aload_n hx hb d_M_look_9 rfl (lv_at hl 0 rfl) ?_
  refine va_get (D := (dC, dI)) (ci := 12) (v := .int (I0 33)) (C := "NumberDressModel") (T := T_M) (N := 41) hx hb ht zin_M hown hK hP 0 rfl rfl 33 (by decide) (ht _ zw_1294) (fun _ h9 => h9) rfl d_M_look_10 ?_
  exact W.iret (v := (I0 33)) hx hb hr (fun t ht hW => ⟨⟨_, (I0, J0, f4, f9, f10, f14), rfl, hv, ⟨by rw [ht]; exact hP, va_K.moved hW.alike hK, hD⟩⟩, hS.F ht⟩) hS.2.2 d_M_look_13
set_option maxHeartbeats 4000000 in
set_option maxRecDepth 100000 in
theorem b_M_look_0 {h0 : Nat} {a0_2 : Nat} {h1 : Nat} {cA1 : ClassId} {h2 : Nat} {cA2 : ClassId} {h3 : Nat} {cA3 : ClassId} {h4 : Nat} {cA4 : ClassId} {h5 : Nat} {cA5 : ClassId} {h6 : Nat} {cA6 : ClassId} {h7 : Nat} {cA7 : ClassId} {h8 : Nat} {cA8 : ClassId} {h9 : Nat} {cA9 : ClassId} {h10 : Nat} {cA10 : ClassId} {h11 : Nat} {cA11 : ClassId} {h12 : Nat} {cA12 : ClassId} {h13 : Nat} {cA13 : ClassId} {h14 : Nat} {cA14 : ClassId} {I0 : Nat → Int32} {J0 : Nat → Int64} {n1 : Nat} {f1 : Nat → Int32} {n2 : Nat} {f2 : Nat → Int32} {n3 : Nat} {f3 : Nat → Int32} {n4 : Nat} {f4 : Nat → Int32} {n5 : Nat} {f5 : Nat → Int32} {n6 : Nat} {f6 : Nat → Int32} {n7 : Nat} {f7 : Nat → Int32} {n8 : Nat} {f8 : Nat → Int32} {n9 : Nat} {f9 : Nat → Int32} {n10 : Nat} {f10 : Nat → Int32} {n11 : Nat} {f11 : Nat → Int32} {n12 : Nat} {f12 : Nat → Int32} {n13 : Nat} {f13 : Nat → Int32} {n14 : Nat} {f14 : Nat → Int32}  {Z : Int32 → (Nat → Int32) × (Nat → Int64) × (Nat → Int32) × (Nat → Int32) × (Nat → Int32) × (Nat → Int32) → Prop} {H : Heap} {locs : List Loc} {ls : Array Slot} (hc : zC p s m args meth c prog_14_method_67_code (some .int) 1 "NumberDressModel") (hA : ∀ q : Nat, s.heap.size ≤ q → A q) (hE : zE gE A s) (hl : lv_has ls 1 [(0, .ref h0)]) (hK : va_K (dC, dI) zCl [(cA1, .int), (cA2, .int), (cA3, .int), (cA4, .int), (cA5, .int), (cA6, .int), (cA7, .int), (cA8, .int), (cA9, .int), (cA10, .int), (cA11, .int), (cA12, .int), (cA13, .int), (cA14, .int)] s) (hP : va_P (dC, dI) zCl [(h0, .inr (12, o_M I0 J0 a0_2 h1 h2 h5 h6 h7 h11 h13 h12 h3 h8 h9 h10 h14 h4)), (h1, .inl (cA1, n1, .inl f1)), (h2, .inl (cA2, n2, .inl f2)), (h3, .inl (cA3, n3, .inl f3)), (h4, .inl (cA4, n4, .inl f4)), (h5, .inl (cA5, n5, .inl f5)), (h6, .inl (cA6, n6, .inl f6)), (h7, .inl (cA7, n7, .inl f7)), (h8, .inl (cA8, n8, .inl f8)), (h9, .inl (cA9, n9, .inl f9)), (h10, .inl (cA10, n10, .inl f10)), (h11, .inl (cA11, n11, .inl f11)), (h12, .inl (cA12, n12, .inl f12)), (h13, .inl (cA13, n13, .inl f13)), (h14, .inl (cA14, n14, .inl f14))] H) (hD : va_D A [(h0, .inr (12, o_M I0 J0 a0_2 h1 h2 h5 h6 h7 h11 h13 h12 h3 h8 h9 h10 h14 h4)), (h1, .inl (cA1, n1, .inl f1)), (h2, .inl (cA2, n2, .inl f2)), (h3, .inl (cA3, n3, .inl f3)), (h4, .inl (cA4, n4, .inl f4)), (h5, .inl (cA5, n5, .inl f5)), (h6, .inl (cA6, n6, .inl f6)), (h7, .inl (cA7, n7, .inl f7)), (h8, .inl (cA8, n8, .inl f8)), (h9, .inl (cA9, n9, .inl f9)), (h10, .inl (cA10, n10, .inl f10)), (h11, .inl (cA11, n11, .inl f11)), (h12, .inl (cA12, n12, .inl f12)), (h13, .inl (cA13, n13, .inl f13)), (h14, .inl (cA14, n14, .inl f14))]) (hS : va_S A s.heap H locs) (hv : v_M_look_0 I0 J0 n1 f1 n2 f2 n3 f3 n4 f4 n5 f5 n6 f6 n7 f7 n8 f8 n9 f9 n10 f10 n11 f11 n12 f12 n13 f13 n14 f14  Z) : W p l e (headSpec (Cond.code (⟨"NumberDressModel", "look", "()I"⟩ : MethodName) prog_14_method_67_code 1 (some .int) :: zT) { frames := 7, cells := 0, slots := 0, locals := 169 }).room s m args below meth c H locs 0 0 (MQ below (va_Qi Z (zB (dC, dI) zCl [(cA1, .int), (cA2, .int), (cA3, .int), (cA4, .int), (cA5, .int), (cA6, .int), (cA7, .int), (cA8, .int), (cA9, .int), (cA10, .int), (cA11, .int), (cA12, .int), (cA13, .int), (cA14, .int)] A (fun u : (Nat → Int32) × (Nat → Int64) × (Nat → Int32) × (Nat → Int32) × (Nat → Int32) × (Nat → Int32) => [(h0, .inr (12, o_M u.1 u.2.1 a0_2 h1 h2 h5 h6 h7 h11 h13 h12 h3 h8 h9 h10 h14 h4)), (h1, .inl (cA1, n1, .inl f1)), (h2, .inl (cA2, n2, .inl f2)), (h3, .inl (cA3, n3, .inl f3)), (h4, .inl (cA4, n4, .inl u.2.2.1)), (h5, .inl (cA5, n5, .inl f5)), (h6, .inl (cA6, n6, .inl f6)), (h7, .inl (cA7, n7, .inl f7)), (h8, .inl (cA8, n8, .inl f8)), (h9, .inl (cA9, n9, .inl u.2.2.2.1)), (h10, .inl (cA10, n10, .inl u.2.2.2.2.1)), (h11, .inl (cA11, n11, .inl f11)), (h12, .inl (cA12, n12, .inl f12)), (h13, .inl (cA13, n13, .inl f13)), (h14, .inl (cA14, n14, .inl u.2.2.2.2.2))])) A) args s 0 0 A) (F0 m 0 ls []) := by
  obtain ⟨hx, hb, hr, hml, hown, ht, hlocks⟩ := id hc
  unfold v_M_look_0 at hv
  refine lv_aload_n hx hb d_M_look_0 rfl (lv_at hl 0 rfl) ?_
  refine lv_iconst (v := (0 : Int32)) hx hb d_M_look_1 (by decide) ?_
  refine va_put (D := (dC, dI)) (ci := 12) (v := .int (0 : Int32)) (ty := .int) (C := "NumberDressModel") (T := T_M) (N := 41) hx hb ht zin_M ty_M tyok_M nm_M hown hK hP hD hS 0 rfl rfl 0 (by decide) (ht _ zw_1261) (fun _ h9 => h9) rfl (by decide +kernel) rfl rfl (Nat.le_of_ble_eq_true rfl) d_M_look_2 (fun H locs hP hD hS => ?_)
  have hP : va_P (dC, dI) zCl [(h0, .inr (12, o_M (zu I0 0 (0 : Int32)) J0 a0_2 h1 h2 h5 h6 h7 h11 h13 h12 h3 h8 h9 h10 h14 h4)), (h1, .inl (cA1, n1, .inl f1)), (h2, .inl (cA2, n2, .inl f2)), (h3, .inl (cA3, n3, .inl f3)), (h4, .inl (cA4, n4, .inl f4)), (h5, .inl (cA5, n5, .inl f5)), (h6, .inl (cA6, n6, .inl f6)), (h7, .inl (cA7, n7, .inl f7)), (h8, .inl (cA8, n8, .inl f8)), (h9, .inl (cA9, n9, .inl f9)), (h10, .inl (cA10, n10, .inl f10)), (h11, .inl (cA11, n11, .inl f11)), (h12, .inl (cA12, n12, .inl f12)), (h13, .inl (cA13, n13, .inl f13)), (h14, .inl (cA14, n14, .inl f14))] H := hP
  have hD : va_D A [(h0, .inr (12, o_M (zu I0 0 (0 : Int32)) J0 a0_2 h1 h2 h5 h6 h7 h11 h13 h12 h3 h8 h9 h10 h14 h4)), (h1, .inl (cA1, n1, .inl f1)), (h2, .inl (cA2, n2, .inl f2)), (h3, .inl (cA3, n3, .inl f3)), (h4, .inl (cA4, n4, .inl f4)), (h5, .inl (cA5, n5, .inl f5)), (h6, .inl (cA6, n6, .inl f6)), (h7, .inl (cA7, n7, .inl f7)), (h8, .inl (cA8, n8, .inl f8)), (h9, .inl (cA9, n9, .inl f9)), (h10, .inl (cA10, n10, .inl f10)), (h11, .inl (cA11, n11, .inl f11)), (h12, .inl (cA12, n12, .inl f12)), (h13, .inl (cA13, n13, .inl f13)), (h14, .inl (cA14, n14, .inl f14))] := hD
  refine lv_aload_n hx hb d_M_look_5 rfl (lv_at hl 0 rfl) ?_
  refine z_callv (wc := [(h0, .inr (12, o_M (zu I0 0 (0 : Int32)) J0 a0_2 h1 h2 h5 h6 h7 h11 h13 h12 h3 h8 h9 h10 h14 h4)), (h1, .inl (cA1, n1, .inl f1)), (h2, .inl (cA2, n2, .inl f2)), (h3, .inl (cA3, n3, .inl f3)), (h4, .inl (cA4, n4, .inl f4)), (h5, .inl (cA5, n5, .inl f5)), (h6, .inl (cA6, n6, .inl f6)), (h7, .inl (cA7, n7, .inl f7)), (h8, .inl (cA8, n8, .inl f8)), (h9, .inl (cA9, n9, .inl f9)), (h10, .inl (cA10, n10, .inl f10)), (h11, .inl (cA11, n11, .inl f11)), (h12, .inl (cA12, n12, .inl f12)), (h13, .inl (cA13, n13, .inl f13)), (h14, .inl (cA14, n14, .inl f14))]) (wr := []) [0, 1, 2, 3, 4, 5, 6, 7, 8, 9, 10, 11, 12, 13, 14] [] (va_runV (As := []) (rest := []) ⟨hx, hb, hml, hown, ht⟩ (m_M_make l dC dI hv) ⟨(callB_of 0 ht (zG_in zi_M_make) rfl rfl rfl (ht _ zw_122) (ht _ zw_1521) zh_M_make ⟨Nat.le_of_ble_eq_true rfl, Nat.le_of_ble_eq_true rfl⟩), (ht _ zw_1523), (ht _ zw_81)⟩ ⟨zPc_blind, va_recv hK hP (ci := 12) (q0 := 0) rfl rfl, zPc_pre hP hK hD hS hA hE [0, 1, 2, 3, 4, 5, 6, 7, 8, 9, 10, 11, 12, 13, 14] [0, 1, 2, 3, 4, 5, 6, 7, 8, 9, 10, 11, 12, 13] rfl rfl (by decide) rfl⟩ rfl rfl hl.1 rfl (lv_room (Nat.le_of_ble_eq_true rfl)) d_M_look_6 ⟨Nat.le_of_ble_eq_true rfl, Nat.le_of_ble_eq_true rfl⟩) hP hD hS hA rfl rfl (by decide) (by decide) (fun u H locs hv hP hD hS => ?_)
  have hP : va_P (dC, dI) zCl [(h0, .inr (12, o_M u.1 u.2.1 a0_2 h1 h2 h5 h6 h7 h11 h13 h12 h3 h8 h9 h10 h14 h4)), (h1, .inl (cA1, n1, .inl f1)), (h2, .inl (cA2, n2, .inl f2)), (h3, .inl (cA3, n3, .inl f3)), (h4, .inl (cA4, n4, .inl u.2.2.1)), (h5, .inl (cA5, n5, .inl f5)), (h6, .inl (cA6, n6, .inl f6)), (h7, .inl (cA7, n7, .inl f7)), (h8, .inl (cA8, n8, .inl f8)), (h9, .inl (cA9, n9, .inl u.2.2.2.1)), (h10, .inl (cA10, n10, .inl u.2.2.2.2.1)), (h11, .inl (cA11, n11, .inl f11)), (h12, .inl (cA12, n12, .inl f12)), (h13, .inl (cA13, n13, .inl f13)), (h14, .inl (cA14, n14, .inl u.2.2.2.2.2))] H := hP.sub [0, 1, 2, 3, 4, 5, 6, 7, 8, 9, 10, 11, 12, 13, 14] rfl
  have hD : va_D A [(h0, .inr (12, o_M u.1 u.2.1 a0_2 h1 h2 h5 h6 h7 h11 h13 h12 h3 h8 h9 h10 h14 h4)), (h1, .inl (cA1, n1, .inl f1)), (h2, .inl (cA2, n2, .inl f2)), (h3, .inl (cA3, n3, .inl f3)), (h4, .inl (cA4, n4, .inl u.2.2.1)), (h5, .inl (cA5, n5, .inl f5)), (h6, .inl (cA6, n6, .inl f6)), (h7, .inl (cA7, n7, .inl f7)), (h8, .inl (cA8, n8, .inl f8)), (h9, .inl (cA9, n9, .inl u.2.2.2.1)), (h10, .inl (cA10, n10, .inl u.2.2.2.2.1)), (h11, .inl (cA11, n11, .inl f11)), (h12, .inl (cA12, n12, .inl f12)), (h13, .inl (cA13, n13, .inl f13)), (h14, .inl (cA14, n14, .inl u.2.2.2.2.2))] := hD.sub [0, 1, 2, 3, 4, 5, 6, 7, 8, 9, 10, 11, 12, 13, 14] (by decide) rfl
  exact b_M_look_9 hc hA hE  (lv_sub hl [0] rfl) hK hP hD hS hv
theorem zi_M_look : Cond.code (⟨"NumberDressModel", "look", "()I"⟩ : MethodName) prog_14_method_67_code 1 (some .int) ∈ zT := zw_1520
theorem zh_M_look : (((⟨"NumberDressModel", "look", "()I"⟩ : MethodName)).cls ≠ "java/lang/invoke/MethodHandle" ∧ ((⟨"NumberDressModel", "look", "()I"⟩ : MethodName)).cls ≠ "java/lang/invoke/VarHandle" ∧ (parseMethodDescriptor ((⟨"NumberDressModel", "look", "()I"⟩ : MethodName)).desc).map (fun d => d.parameters.length) = some 0) := by decide +kernel
set_option maxHeartbeats 4000000 in
set_option maxRecDepth 100000 in
theorem m_M_look (l : Launch) (dC : Nat → ClassId) (dI : Nat → Nat → Nat) {gE : zG} {h0 : Nat} {a0_2 : Nat} {h1 : Nat} {cA1 : ClassId} {h2 : Nat} {cA2 : ClassId} {h3 : Nat} {cA3 : ClassId} {h4 : Nat} {cA4 : ClassId} {h5 : Nat} {cA5 : ClassId} {h6 : Nat} {cA6 : ClassId} {h7 : Nat} {cA7 : ClassId} {h8 : Nat} {cA8 : ClassId} {h9 : Nat} {cA9 : ClassId} {h10 : Nat} {cA10 : ClassId} {h11 : Nat} {cA11 : ClassId} {h12 : Nat} {cA12 : ClassId} {h13 : Nat} {cA13 : ClassId} {h14 : Nat} {cA14 : ClassId} {I0 : Nat → Int32} {J0 : Nat → Int64} {n1 : Nat} {f1 : Nat → Int32} {n2 : Nat} {f2 : Nat → Int32} {n3 : Nat} {f3 : Nat → Int32} {n4 : Nat} {f4 : Nat → Int32} {n5 : Nat} {f5 : Nat → Int32} {n6 : Nat} {f6 : Nat → Int32} {n7 : Nat} {f7 : Nat → Int32} {n8 : Nat} {f8 : Nat → Int32} {n9 : Nat} {f9 : Nat → Int32} {n10 : Nat} {f10 : Nat → Int32} {n11 : Nat} {f11 : Nat → Int32} {n12 : Nat} {f12 : Nat → Int32} {n13 : Nat} {f13 : Nat → Int32} {n14 : Nat} {f14 : Nat → Int32} {sz : Nat} {Z : Int32 → (Nat → Int32) × (Nat → Int64) × (Nat → Int32) × (Nat → Int32) × (Nat → Int32) × (Nat → Int32) → Prop} (hv : v_M_look_0 I0 J0 n1 f1 n2 f2 n3 f3 n4 f4 n5 f5 n6 f6 n7 f7 n8 f8 n9 f9 n10 f10 n11 f11 n12 f12 n13 f13 n14 f14 Z) : Met l (⟨"NumberDressModel", "look", "()I"⟩ : MethodName) (Cond.code (⟨"NumberDressModel", "look", "()I"⟩ : MethodName) prog_14_method_67_code 1 (some .int) :: zT) { frames := 7, cells := 0, slots := 0, locals := 169 } (zPc gE (dC, dI) zCl [(cA1, .int), (cA2, .int), (cA3, .int), (cA4, .int), (cA5, .int), (cA6, .int), (cA7, .int), (cA8, .int), (cA9, .int), (cA10, .int), (cA11, .int), (cA12, .int), (cA13, .int), (cA14, .int)] [.ref h0] sz [(h0, .inr (12, o_M I0 J0 a0_2 h1 h2 h5 h6 h7 h11 h13 h12 h3 h8 h9 h10 h14 h4)), (h1, .inl (cA1, n1, .inl f1)), (h2, .inl (cA2, n2, .inl f2)), (h3, .inl (cA3, n3, .inl f3)), (h4, .inl (cA4, n4, .inl f4)), (h5, .inl (cA5, n5, .inl f5)), (h6, .inl (cA6, n6, .inl f6)), (h7, .inl (cA7, n7, .inl f7)), (h8, .inl (cA8, n8, .inl f8)), (h9, .inl (cA9, n9, .inl f9)), (h10, .inl (cA10, n10, .inl f10)), (h11, .inl (cA11, n11, .inl f11)), (h12, .inl (cA12, n12, .inl f12)), (h13, .inl (cA13, n13, .inl f13)), (h14, .inl (cA14, n14, .inl f14))]) (va_Qi Z (zB (dC, dI) zCl [(cA1, .int), (cA2, .int), (cA3, .int), (cA4, .int), (cA5, .int), (cA6, .int), (cA7, .int), (cA8, .int), (cA9, .int), (cA10, .int), (cA11, .int), (cA12, .int), (cA13, .int), (cA14, .int)] (va_A [(h0, .inr (12, o_M I0 J0 a0_2 h1 h2 h5 h6 h7 h11 h13 h12 h3 h8 h9 h10 h14 h4)), (h1, .inl (cA1, n1, .inl f1)), (h2, .inl (cA2, n2, .inl f2)), (h3, .inl (cA3, n3, .inl f3)), (h4, .inl (cA4, n4, .inl f4)), (h5, .inl (cA5, n5, .inl f5)), (h6, .inl (cA6, n6, .inl f6)), (h7, .inl (cA7, n7, .inl f7)), (h8, .inl (cA8, n8, .inl f8)), (h9, .inl (cA9, n9, .inl f9)), (h10, .inl (cA10, n10, .inl f10)), (h11, .inl (cA11, n11, .inl f11)), (h12, .inl (cA12, n12, .inl f12)), (h13, .inl (cA13, n13, .inl f13)), (h14, .inl (cA14, n14, .inl f14))] sz) (fun u : (Nat → Int32) × (Nat → Int64) × (Nat → Int32) × (Nat → Int32) × (Nat → Int32) × (Nat → Int32) => [(h0, .inr (12, o_M u.1 u.2.1 a0_2 h1 h2 h5 h6 h7 h11 h13 h12 h3 h8 h9 h10 h14 h4)), (h1, .inl (cA1, n1, .inl f1)), (h2, .inl (cA2, n2, .inl f2)), (h3, .inl (cA3, n3, .inl f3)), (h4, .inl (cA4, n4, .inl u.2.2.1)), (h5, .inl (cA5, n5, .inl f5)), (h6, .inl (cA6, n6, .inl f6)), (h7, .inl (cA7, n7, .inl f7)), (h8, .inl (cA8, n8, .inl f8)), (h9, .inl (cA9, n9, .inl u.2.2.2.1)), (h10, .inl (cA10, n10, .inl u.2.2.2.2.1)), (h11, .inl (cA11, n11, .inl f11)), (h12, .inl (cA12, n12, .inl f12)), (h13, .inl (cA13, n13, .inl f13)), (h14, .inl (cA14, n14, .inl u.2.2.2.2.2))])) (va_A [(h0, .inr (12, o_M I0 J0 a0_2 h1 h2 h5 h6 h7 h11 h13 h12 h3 h8 h9 h10 h14 h4)), (h1, .inl (cA1, n1, .inl f1)), (h2, .inl (cA2, n2, .inl f2)), (h3, .inl (cA3, n3, .inl f3)), (h4, .inl (cA4, n4, .inl f4)), (h5, .inl (cA5, n5, .inl f5)), (h6, .inl (cA6, n6, .inl f6)), (h7, .inl (cA7, n7, .inl f7)), (h8, .inl (cA8, n8, .inl f8)), (h9, .inl (cA9, n9, .inl f9)), (h10, .inl (cA10, n10, .inl f10)), (h11, .inl (cA11, n11, .inl f11)), (h12, .inl (cA12, n12, .inl f12)), (h13, .inl (cA13, n13, .inl f13)), (h14, .inl (cA14, n14, .inl f14))] sz)) 0 0 (va_A [(h0, .inr (12, o_M I0 J0 a0_2 h1 h2 h5 h6 h7 h11 h13 h12 h3 h8 h9 h10 h14 h4)), (h1, .inl (cA1, n1, .inl f1)), (h2, .inl (cA2, n2, .inl f2)), (h3, .inl (cA3, n3, .inl f3)), (h4, .inl (cA4, n4, .inl f4)), (h5, .inl (cA5, n5, .inl f5)), (h6, .inl (cA6, n6, .inl f6)), (h7, .inl (cA7, n7, .inl f7)), (h8, .inl (cA8, n8, .inl f8)), (h9, .inl (cA9, n9, .inl f9)), (h10, .inl (cA10, n10, .inl f10)), (h11, .inl (cA11, n11, .inl f11)), (h12, .inl (cA12, n12, .inl f12)), (h13, .inl (cA13, n13, .inl f13)), (h14, .inl (cA14, n14, .inl f14))] sz) := by
  refine Met.ofW (cc := prog_14_method_67_code) (maxL := 1) (ret := (some .int)) (by decide +kernel) rfl ?_
  intro p e s m args below meth c s₁ B hml hp
  obtain ⟨rfl, hsz, hP, hK, hD0, hE⟩ := hp
  have hts := atoms_spec (ws := (Cond.code (⟨"NumberDressModel", "look", "()I"⟩ : MethodName) prog_14_method_67_code 1 (some .int) :: zT)) B.pre
  have hown : s.vm.findClass "NumberDressModel" = some m.cls := findClass_of_methodNamed B.named
  have hc : zC p s m _ meth c prog_14_method_67_code (some .int) 1 "NumberDressModel" := ⟨B.exec, B.bytes, B.returns, hml, hown, fun w h => hts w (List.mem_cons_of_mem _ h), B.notSynchronized⟩
  subst hsz
  have hD := hD0.self (sz := s.heap.size)
  generalize hAe : va_A [(h0, .inr (12, o_M I0 J0 a0_2 h1 h2 h5 h6 h7 h11 h13 h12 h3 h8 h9 h10 h14 h4)), (h1, .inl (cA1, n1, .inl f1)), (h2, .inl (cA2, n2, .inl f2)), (h3, .inl (cA3, n3, .inl f3)), (h4, .inl (cA4, n4, .inl f4)), (h5, .inl (cA5, n5, .inl f5)), (h6, .inl (cA6, n6, .inl f6)), (h7, .inl (cA7, n7, .inl f7)), (h8, .inl (cA8, n8, .inl f8)), (h9, .inl (cA9, n9, .inl f9)), (h10, .inl (cA10, n10, .inl f10)), (h11, .inl (cA11, n11, .inl f11)), (h12, .inl (cA12, n12, .inl f12)), (h13, .inl (cA13, n13, .inl f13)), (h14, .inl (cA14, n14, .inl f14))] s.heap.size = A at hD hE ⊢
  have hA : ∀ q : Nat, s.heap.size ≤ q → A q := fun q h => by rw [← hAe]; exact Or.inr h
  have hl := lv_entry ([.ref h0]) (n := 1) (Nat.le_of_ble_eq_true rfl)
  rw [lg_entry_eq]
  exact b_M_look_0 hc hA hE hl hK hP hD va_S.rf hv
theorem d_M_at_0 : decode prog_14_method_68_code 0 = .ok (.aload_n 0, 1) := by decide +kernel
theorem d_M_at_1 : decode prog_14_method_68_code 1 = .ok (.iconst 0, 1) := by decide +kernel
theorem d_M_at_2 : decode prog_14_method_68_code 2 = .ok (.putfield 55, 3) := by decide +kernel
theorem d_M_at_5 : decode prog_14_method_68_code 5 = .ok (.aload_n 0, 1) := by decide +kernel
theorem d_M_at_6 : decode prog_14_method_68_code 6 = .ok (.invokevirtual 414, 3) := by decide +kernel
theorem d_M_at_9 : decode prog_14_method_68_code 9 = .ok (.iload_n 1, 1) := by decide +kernel
theorem d_M_at_10 : decode prog_14_method_68_code 10 = .ok (.ifCond .lt 11, 3) := by decide +kernel
theorem d_M_at_13 : decode prog_14_method_68_code 13 = .ok (.iload_n 1, 1) := by decide +kernel
theorem d_M_at_14 : decode prog_14_method_68_code 14 = .ok (.aload_n 0, 1) := by decide +kernel
theorem d_M_at_15 : decode prog_14_method_68_code 15 = .ok (.getfield 231, 3) := by decide +kernel
theorem d_M_at_18 : decode prog_14_method_68_code 18 = .ok (.if_icmp .lt 7, 3) := by decide +kernel
theorem d_M_at_21 : decode prog_14_method_68_code 21 = .ok (.iconst (-1), 1) := by decide +kernel
theorem d_M_at_22 : decode prog_14_method_68_code 22 = .ok (.goto 9, 3) := by decide +kernel
theorem d_M_at_25 : decode prog_14_method_68_code 25 = .ok (.aload_n 0, 1) := by decide +kernel
theorem d_M_at_26 : decode prog_14_method_68_code 26 = .ok (.getfield 52, 3) := by decide +kernel
theorem d_M_at_29 : decode prog_14_method_68_code 29 = .ok (.iload_n 1, 1) := by decide +kernel
theorem d_M_at_30 : decode prog_14_method_68_code 30 = .ok (.iaload, 1) := by decide +kernel
theorem d_M_at_31 : decode prog_14_method_68_code 31 = .ok (.ireturn, 1) := by decide +kernel
set_option maxHeartbeats 4000000 in
set_option maxRecDepth 100000 in
theorem b_M_at_9 {h0 : Nat} {a0_2 : Nat} {h1 : Nat} {cA1 : ClassId} {h2 : Nat} {cA2 : ClassId} {h3 : Nat} {cA3 : ClassId} {h4 : Nat} {cA4 : ClassId} {h5 : Nat} {cA5 : ClassId} {h6 : Nat} {cA6 : ClassId} {h7 : Nat} {cA7 : ClassId} {h8 : Nat} {cA8 : ClassId} {h9 : Nat} {cA9 : ClassId} {h10 : Nat} {cA10 : ClassId} {h11 : Nat} {cA11 : ClassId} {h12 : Nat} {cA12 : ClassId} {h13 : Nat} {cA13 : ClassId} {h14 : Nat} {cA14 : ClassId} {I0 : Nat → Int32} {J0 : Nat → Int64} {n1 : Nat} {f1 : Nat → Int32} {n2 : Nat} {f2 : Nat → Int32} {n3 : Nat} {f3 : Nat → Int32} {n4 : Nat} {f4 : Nat → Int32} {n5 : Nat} {f5 : Nat → Int32} {n6 : Nat} {f6 : Nat → Int32} {n7 : Nat} {f7 : Nat → Int32} {n8 : Nat} {f8 : Nat → Int32} {n9 : Nat} {f9 : Nat → Int32} {n10 : Nat} {f10 : Nat → Int32} {n11 : Nat} {f11 : Nat → Int32} {n12 : Nat} {f12 : Nat → Int32} {n13 : Nat} {f13 : Nat → Int32} {n14 : Nat} {f14 : Nat → Int32} {x1 : Int32}  {Z : Int32 → (Nat → Int32) × (Nat → Int64) × (Nat → Int32) × (Nat → Int32) × (Nat → Int32) × (Nat → Int32) → Prop} {H : Heap} {locs : List Loc} {ls : Array Slot} (hc : zC p s m args meth c prog_14_method_68_code (some .int) 2 "NumberDressModel") (hA : ∀ q : Nat, s.heap.size ≤ q → A q) (hE : zE gE A s) (hl : lv_has ls 2 [(0, .ref h0), (1, .int x1)]) (hK : va_K (dC, dI) zCl [(cA1, .int), (cA2, .int), (cA3, .int), (cA4, .int), (cA5, .int), (cA6, .int), (cA7, .int), (cA8, .int), (cA9, .int), (cA10, .int), (cA11, .int), (cA12, .int), (cA13, .int), (cA14, .int)] s) (hP : va_P (dC, dI) zCl [(h0, .inr (12, o_M I0 J0 a0_2 h1 h2 h5 h6 h7 h11 h13 h12 h3 h8 h9 h10 h14 h4)), (h1, .inl (cA1, n1, .inl f1)), (h2, .inl (cA2, n2, .inl f2)), (h3, .inl (cA3, n3, .inl f3)), (h4, .inl (cA4, n4, .inl f4)), (h5, .inl (cA5, n5, .inl f5)), (h6, .inl (cA6, n6, .inl f6)), (h7, .inl (cA7, n7, .inl f7)), (h8, .inl (cA8, n8, .inl f8)), (h9, .inl (cA9, n9, .inl f9)), (h10, .inl (cA10, n10, .inl f10)), (h11, .inl (cA11, n11, .inl f11)), (h12, .inl (cA12, n12, .inl f12)), (h13, .inl (cA13, n13, .inl f13)), (h14, .inl (cA14, n14, .inl f14))] H) (hD : va_D A [(h0, .inr (12, o_M I0 J0 a0_2 h1 h2 h5 h6 h7 h11 h13 h12 h3 h8 h9 h10 h14 h4)), (h1, .inl (cA1, n1, .inl f1)), (h2, .inl (cA2, n2, .inl f2)), (h3, .inl (cA3, n3, .inl f3)), (h4, .inl (cA4, n4, .inl f4)), (h5, .inl (cA5, n5, .inl f5)), (h6, .inl (cA6, n6, .inl f6)), (h7, .inl (cA7, n7, .inl f7)), (h8, .inl (cA8, n8, .inl f8)), (h9, .inl (cA9, n9, .inl f9)), (h10, .inl (cA10, n10, .inl f10)), (h11, .inl (cA11, n11, .inl f11)), (h12, .inl (cA12, n12, .inl f12)), (h13, .inl (cA13, n13, .inl f13)), (h14, .inl (cA14, n14, .inl f14))]) (hS : va_S A s.heap H locs) (hv : v_M_at_9 I0 J0 n1 f1 n2 f2 n3 f3 n4 f4 n5 f5 n6 f6 n7 f7 n8 f8 n9 f9 n10 f10 n11 f11 n12 f12 n13 f13 n14 f14 x1  Z) : W p l e (headSpec (Cond.code (⟨"NumberDressModel", "at", "(I)I"⟩ : MethodName) prog_14_method_68_code 2 (some .int) :: zT) { frames := 7, cells := 0, slots := 0, locals := 169 }).room s m args below meth c H locs 0 0 (MQ below (va_Qi Z (zB (dC, dI) zCl [(cA1, .int), (cA2, .int), (cA3, .int), (cA4, .int), (cA5, .int), (cA6, .int), (cA7, .int), (cA8, .int), (cA9, .int), (cA10, .int), (cA11, .int), (cA12, .int), (cA13, .int), (cA14, .int)] A (fun u : (Nat → Int32) × (Nat → Int64) × (Nat → Int32) × (Nat → Int32) × (Nat → Int32) × (Nat → Int32) => [(h0, .inr (12, o_M u.1 u.2.1 a0_2 h1 h2 h5 h6 h7 h11 h13 h12 h3 h8 h9 h10 h14 h4)), (h1, .inl (cA1, n1, .inl f1)), (h2, .inl (cA2, n2, .inl f2)), (h3, .inl (cA3, n3, .inl f3)), (h4, .inl (cA4, n4, .inl u.2.2.1)), (h5, .inl (cA5, n5, .inl f5)), (h6, .inl (cA6, n6, .inl f6)), (h7, .inl (cA7, n7, .inl f7)), (h8, .inl (cA8, n8, .inl f8)), (h9, .inl (cA9, n9, .inl u.2.2.2.1)), (h10, .inl (cA10, n10, .inl u.2.2.2.2.1)), (h11, .inl (cA11, n11, .inl f11)), (h12, .inl (cA12, n12, .inl f12)), (h13, .inl (cA13, n13, .inl f13)), (h14, .inl (cA14, n14, .inl u.2.2.2.2.2))])) A) args s 0 0 A) (F0 m 9 ls []) := by
  obtain ⟨hx, hb, hr, hml, hown, ht, hlocks⟩ := id hc
  unfold v_M_at_9 at hv
  refine lv_iload_n hx hb d_M_at_9 rfl (lv_at hl 1 rfl) ?_
  refine lv_if_lt (tgt := 21) hx hb d_M_at_10 (by decide) (fun c_1 => ?_) (fun c_1 => ?_)
  · have hv := hv.1 c_1
    refine lv_iconst (v := (-1 : Int32)) hx hb d_M_at_21 (by decide) ?_
    refine lv_goto (tgt := 31) hx hb d_M_at_22 (by decide) ?_
    exact W.iret (v := (-1 : Int32)) hx hb hr (fun t ht hW => ⟨⟨_, (I0, J0, f4, f9, f10, f14), rfl, hv, ⟨by rw [ht]; exact hP, va_K.moved hW.alike hK, hD⟩⟩, hS.F ht⟩) hS.2.2 d_M_at_31
  · have hv := hv.2 c_1
    refine lv_iload_n hx hb d_M_at_13 rfl (lv_at hl 1 rfl) ?_
    refine lv_aload_n hx hb d_M_at_14 rfl (lv_at hl 0 rfl) ?_
    refine va_get (D := (dC, dI)) (ci := 12) (v := .int (I0 33)) (C := "NumberDressModel") (T := T_M) (N := 41) hx hb ht zin_M hown hK hP 0 rfl rfl 33 (by decide) (ht _ zw_1294) (fun _ h9 => h9) rfl d_M_at_15 ?_
    refine lv_icmp_lt (tgt := 25) hx hb d_M_at_18 (by decide) (fun c_2 => ?_) (fun c_2 => ?_)
    · have hv := hv.1 c_2
      refine lv_aload_n hx hb d_M_at_25 rfl (lv_at hl 0 rfl) ?_
      refine va_get (D := (dC, dI)) (ci := 12) (v := .ref h4) (C := "NumberDressModel") (T := T_M) (N := 41) hx hb ht zin_M hown hK hP 0 rfl rfl 34 (by decide) (ht _ zw_1295) (fun _ h9 => h9) rfl d_M_at_26 ?_
      refine lv_iload_n hx hb d_M_at_29 rfl (lv_at hl 1 rfl) ?_
      obtain ⟨q_3, hv⟩ := hv
      refine va_iald hx hb hK hP 4 3 rfl rfl q_3 d_M_at_30 ?_
      exact W.iret (v := (f4 x1.toNatClampNeg)) hx hb hr (fun t ht hW => ⟨⟨_, (I0, J0, f4, f9, f10, f14), rfl, hv, ⟨by rw [ht]; exact hP, va_K.moved hW.alike hK, hD⟩⟩, hS.F ht⟩) hS.2.2 d_M_at_31
    · have hv := hv.2 c_2
      refine lv_iconst (v := (-1 : Int32)) hx hb d_M_at_21 (by decide) ?_
      refine lv_goto (tgt := 31) hx hb d_M_at_22 (by decide) ?_
      exact W.iret (v := (-1 : Int32)) hx hb hr (fun t ht hW => ⟨⟨_, (I0, J0, f4, f9, f10, f14), rfl, hv, ⟨by rw [ht]; exact hP, va_K.moved hW.alike hK, hD⟩⟩, hS.F ht⟩) hS.2.2 d_M_at_31
set_option maxHeartbeats 4000000 in
set_option maxRecDepth 100000 in
theorem b_M_at_0 {h0 : Nat} {a0_2 : Nat} {h1 : Nat} {cA1 : ClassId} {h2 : Nat} {cA2 : ClassId} {h3 : Nat} {cA3 : ClassId} {h4 : Nat} {cA4 : ClassId} {h5 : Nat} {cA5 : ClassId} {h6 : Nat} {cA6 : ClassId} {h7 : Nat} {cA7 : ClassId} {h8 : Nat} {cA8 : ClassId} {h9 : Nat} {cA9 : ClassId} {h10 : Nat} {cA10 : ClassId} {h11 : Nat} {cA11 : ClassId} {h12 : Nat} {cA12 : ClassId} {h13 : Nat} {cA13 : ClassId} {h14 : Nat} {cA14 : ClassId} {I0 : Nat → Int32} {J0 : Nat → Int64} {n1 : Nat} {f1 : Nat → Int32} {n2 : Nat} {f2 : Nat → Int32} {n3 : Nat} {f3 : Nat → Int32} {n4 : Nat} {f4 : Nat → Int32} {n5 : Nat} {f5 : Nat → Int32} {n6 : Nat} {f6 : Nat → Int32} {n7 : Nat} {f7 : Nat → Int32} {n8 : Nat} {f8 : Nat → Int32} {n9 : Nat} {f9 : Nat → Int32} {n10 : Nat} {f10 : Nat → Int32} {n11 : Nat} {f11 : Nat → Int32} {n12 : Nat} {f12 : Nat → Int32} {n13 : Nat} {f13 : Nat → Int32} {n14 : Nat} {f14 : Nat → Int32} {x1 : Int32}  {Z : Int32 → (Nat → Int32) × (Nat → Int64) × (Nat → Int32) × (Nat → Int32) × (Nat → Int32) × (Nat → Int32) → Prop} {H : Heap} {locs : List Loc} {ls : Array Slot} (hc : zC p s m args meth c prog_14_method_68_code (some .int) 2 "NumberDressModel") (hA : ∀ q : Nat, s.heap.size ≤ q → A q) (hE : zE gE A s) (hl : lv_has ls 2 [(0, .ref h0), (1, .int x1)]) (hK : va_K (dC, dI) zCl [(cA1, .int), (cA2, .int), (cA3, .int), (cA4, .int), (cA5, .int), (cA6, .int), (cA7, .int), (cA8, .int), (cA9, .int), (cA10, .int), (cA11, .int), (cA12, .int), (cA13, .int), (cA14, .int)] s) (hP : va_P (dC, dI) zCl [(h0, .inr (12, o_M I0 J0 a0_2 h1 h2 h5 h6 h7 h11 h13 h12 h3 h8 h9 h10 h14 h4)), (h1, .inl (cA1, n1, .inl f1)), (h2, .inl (cA2, n2, .inl f2)), (h3, .inl (cA3, n3, .inl f3)), (h4, .inl (cA4, n4, .inl f4)), (h5, .inl (cA5, n5, .inl f5)), (h6, .inl (cA6, n6, .inl f6)), (h7, .inl (cA7, n7, .inl f7)), (h8, .inl (cA8, n8, .inl f8)), (h9, .inl (cA9, n9, .inl f9)), (h10, .inl (cA10, n10, .inl f10)), (h11, .inl (cA11, n11, .inl f11)), (h12, .inl (cA12, n12, .inl f12)), (h13, .inl (cA13, n13, .inl f13)), (h14, .inl (cA14, n14, .inl f14))] H) (hD : va_D A [(h0, .inr (12, o_M I0 J0 a0_2 h1 h2 h5 h6 h7 h11 h13 h12 h3 h8 h9 h10 h14 h4)), (h1, .inl (cA1, n1, .inl f1)), (h2, .inl (cA2, n2, .inl f2)), (h3, .inl (cA3, n3, .inl f3)), (h4, .inl (cA4, n4, .inl f4)), (h5, .inl (cA5, n5, .inl f5)), (h6, .inl (cA6, n6, .inl f6)), (h7, .inl (cA7, n7, .inl f7)), (h8, .inl (cA8, n8, .inl f8)), (h9, .inl (cA9, n9, .inl f9)), (h10, .inl (cA10, n10, .inl f10)), (h11, .inl (cA11, n11, .inl f11)), (h12, .inl (cA12, n12, .inl f12)), (h13, .inl (cA13, n13, .inl f13)), (h14, .inl (cA14, n14, .inl f14))]) (hS : va_S A s.heap H locs) (hv : v_M_at_0 I0 J0 n1 f1 n2 f2 n3 f3 n4 f4 n5 f5 n6 f6 n7 f7 n8 f8 n9 f9 n10 f10 n11 f11 n12 f12 n13 f13 n14 f14 x1  Z) : W p l e (headSpec (Cond.code (⟨"NumberDressModel", "at", "(I)I"⟩ : MethodName) prog_14_method_68_code 2 (some .int) :: zT) { frames := 7, cells := 0, slots := 0, locals := 169 }).room s m args below meth c H locs 0 0 (MQ below (va_Qi Z (zB (dC, dI) zCl [(cA1, .int), (cA2, .int), (cA3, .int), (cA4, .int), (cA5, .int), (cA6, .int), (cA7, .int), (cA8, .int), (cA9, .int), (cA10, .int), (cA11, .int), (cA12, .int), (cA13, .int), (cA14, .int)] A (fun u : (Nat → Int32) × (Nat → Int64) × (Nat → Int32) × (Nat → Int32) × (Nat → Int32) × (Nat → Int32) => [(h0, .inr (12, o_M u.1 u.2.1 a0_2 h1 h2 h5 h6 h7 h11 h13 h12 h3 h8 h9 h10 h14 h4)), (h1, .inl (cA1, n1, .inl f1)), (h2, .inl (cA2, n2, .inl f2)), (h3, .inl (cA3, n3, .inl f3)), (h4, .inl (cA4, n4, .inl u.2.2.1)), (h5, .inl (cA5, n5, .inl f5)), (h6, .inl (cA6, n6, .inl f6)), (h7, .inl (cA7, n7, .inl f7)), (h8, .inl (cA8, n8, .inl f8)), (h9, .inl (cA9, n9, .inl u.2.2.2.1)), (h10, .inl (cA10, n10, .inl u.2.2.2.2.1)), (h11, .inl (cA11, n11, .inl f11)), (h12, .inl (cA12, n12, .inl f12)), (h13, .inl (cA13, n13, .inl f13)), (h14, .inl (cA14, n14, .inl u.2.2.2.2.2))])) A) args s 0 0 A) (F0 m 0 ls []) := by
  obtain ⟨hx, hb, hr, hml, hown, ht, hlocks⟩ := id hc
  unfold v_M_at_0 at hv
  refine lv_aload_n hx hb d_M_at_0 rfl (lv_at hl 0 rfl) ?_
  refine lv_iconst (v := (0 : Int32)) hx hb d_M_at_1 (by decide) ?_
  refine va_put (D := (dC, dI)) (ci := 12) (v := .int (0 : Int32)) (ty := .int) (C := "NumberDressModel") (T := T_M) (N := 41) hx hb ht zin_M ty_M tyok_M nm_M hown hK hP hD hS 0 rfl rfl 0 (by decide) (ht _ zw_1261) (fun _ h9 => h9) rfl (by decide +kernel) rfl rfl (Nat.le_of_ble_eq_true rfl) d_M_at_2 (fun H locs hP hD hS => ?_)
  have hP : va_P (dC, dI) zCl [(h0, .inr (12, o_M (zu I0 0 (0 : Int32)) J0 a0_2 h1 h2 h5 h6 h7 h11 h13 h12 h3 h8 h9 h10 h14 h4)), (h1, .inl (cA1, n1, .inl f1)), (h2, .inl (cA2, n2, .inl f2)), (h3, .inl (cA3, n3, .inl f3)), (h4, .inl (cA4, n4, .inl f4)), (h5, .inl (cA5, n5, .inl f5)), (h6, .inl (cA6, n6, .inl f6)), (h7, .inl (cA7, n7, .inl f7)), (h8, .inl (cA8, n8, .inl f8)), (h9, .inl (cA9, n9, .inl f9)), (h10, .inl (cA10, n10, .inl f10)), (h11, .inl (cA11, n11, .inl f11)), (h12, .inl (cA12, n12, .inl f12)), (h13, .inl (cA13, n13, .inl f13)), (h14, .inl (cA14, n14, .inl f14))] H := hP
  have hD : va_D A [(h0, .inr (12, o_M (zu I0 0 (0 : Int32)) J0 a0_2 h1 h2 h5 h6 h7 h11 h13 h12 h3 h8 h9 h10 h14 h4)), (h1, .inl (cA1, n1, .inl f1)), (h2, .inl (cA2, n2, .inl f2)), (h3, .inl (cA3, n3, .inl f3)), (h4, .inl (cA4, n4, .inl f4)), (h5, .inl (cA5, n5, .inl f5)), (h6, .inl (cA6, n6, .inl f6)), (h7, .inl (cA7, n7, .inl f7)), (h8, .inl (cA8, n8, .inl f8)), (h9, .inl (cA9, n9, .inl f9)), (h10, .inl (cA10, n10, .inl f10)), (h11, .inl (cA11, n11, .inl f11)), (h12, .inl (cA12, n12, .inl f12)), (h13, .inl (cA13, n13, .inl f13)), (h14, .inl (cA14, n14, .inl f14))] := hD
  refine lv_aload_n hx hb d_M_at_5 rfl (lv_at hl 0 rfl) ?_
  refine z_callv (wc := [(h0, .inr (12, o_M (zu I0 0 (0 : Int32)) J0 a0_2 h1 h2 h5 h6 h7 h11 h13 h12 h3 h8 h9 h10 h14 h4)), (h1, .inl (cA1, n1, .inl f1)), (h2, .inl (cA2, n2, .inl f2)), (h3, .inl (cA3, n3, .inl f3)), (h4, .inl (cA4, n4, .inl f4)), (h5, .inl (cA5, n5, .inl f5)), (h6, .inl (cA6, n6, .inl f6)), (h7, .inl (cA7, n7, .inl f7)), (h8, .inl (cA8, n8, .inl f8)), (h9, .inl (cA9, n9, .inl f9)), (h10, .inl (cA10, n10, .inl f10)), (h11, .inl (cA11, n11, .inl f11)), (h12, .inl (cA12, n12, .inl f12)), (h13, .inl (cA13, n13, .inl f13)), (h14, .inl (cA14, n14, .inl f14))]) (wr := []) [0, 1, 2, 3, 4, 5, 6, 7, 8, 9, 10, 11, 12, 13, 14] [] (va_runV (As := []) (rest := []) ⟨hx, hb, hml, hown, ht⟩ (m_M_make l dC dI hv) ⟨(callB_of 0 ht (zG_in zi_M_make) rfl rfl rfl (ht _ zw_122) (ht _ zw_1521) zh_M_make ⟨Nat.le_of_ble_eq_true rfl, Nat.le_of_ble_eq_true rfl⟩), (ht _ zw_1523), (ht _ zw_81)⟩ ⟨zPc_blind, va_recv hK hP (ci := 12) (q0 := 0) rfl rfl, zPc_pre hP hK hD hS hA hE [0, 1, 2, 3, 4, 5, 6, 7, 8, 9, 10, 11, 12, 13, 14] [0, 1, 2, 3, 4, 5, 6, 7, 8, 9, 10, 11, 12, 13] rfl rfl (by decide) rfl⟩ rfl rfl hl.1 rfl (lv_room (Nat.le_of_ble_eq_true rfl)) d_M_at_6 ⟨Nat.le_of_ble_eq_true rfl, Nat.le_of_ble_eq_true rfl⟩) hP hD hS hA rfl rfl (by decide) (by decide) (fun u H locs hv hP hD hS => ?_)
  have hP : va_P (dC, dI) zCl [(h0, .inr (12, o_M u.1 u.2.1 a0_2 h1 h2 h5 h6 h7 h11 h13 h12 h3 h8 h9 h10 h14 h4)), (h1, .inl (cA1, n1, .inl f1)), (h2, .inl (cA2, n2, .inl f2)), (h3, .inl (cA3, n3, .inl f3)), (h4, .inl (cA4, n4, .inl u.2.2.1)), (h5, .inl (cA5, n5, .inl f5)), (h6, .inl (cA6, n6, .inl f6)), (h7, .inl (cA7, n7, .inl f7)), (h8, .inl (cA8, n8, .inl f8)), (h9, .inl (cA9, n9, .inl u.2.2.2.1)), (h10, .inl (cA10, n10, .inl u.2.2.2.2.1)), (h11, .inl (cA11, n11, .inl f11)), (h12, .inl (cA12, n12, .inl f12)), (h13, .inl (cA13, n13, .inl f13)), (h14, .inl (cA14, n14, .inl u.2.2.2.2.2))] H := hP.sub [0, 1, 2, 3, 4, 5, 6, 7, 8, 9, 10, 11, 12, 13, 14] rfl
  have hD : va_D A [(h0, .inr (12, o_M u.1 u.2.1 a0_2 h1 h2 h5 h6 h7 h11 h13 h12 h3 h8 h9 h10 h14 h4)), (h1, .inl (cA1, n1, .inl f1)), (h2, .inl (cA2, n2, .inl f2)), (h3, .inl (cA3, n3, .inl f3)), (h4, .inl (cA4, n4, .inl u.2.2.1)), (h5, .inl (cA5, n5, .inl f5)), (h6, .inl (cA6, n6, .inl f6)), (h7, .inl (cA7, n7, .inl f7)), (h8, .inl (cA8, n8, .inl f8)), (h9, .inl (cA9, n9, .inl u.2.2.2.1)), (h10, .inl (cA10, n10, .inl u.2.2.2.2.1)), (h11, .inl (cA11, n11, .inl f11)), (h12, .inl (cA12, n12, .inl f12)), (h13, .inl (cA13, n13, .inl f13)), (h14, .inl (cA14, n14, .inl u.2.2.2.2.2))] := hD.sub [0, 1, 2, 3, 4, 5, 6, 7, 8, 9, 10, 11, 12, 13, 14] (by decide) rfl
  exact b_M_at_9 hc hA hE  (lv_sub hl [0, 1] rfl) hK hP hD hS hv
theorem zi_M_at : Cond.code (⟨"NumberDressModel", "at", "(I)I"⟩ : MethodName) prog_14_method_68_code 2 (some .int) ∈ zT := zw_1681
theorem zh_M_at : (((⟨"NumberDressModel", "at", "(I)I"⟩ : MethodName)).cls ≠ "java/lang/invoke/MethodHandle" ∧ ((⟨"NumberDressModel", "at", "(I)I"⟩ : MethodName)).cls ≠ "java/lang/invoke/VarHandle" ∧ (parseMethodDescriptor ((⟨"NumberDressModel", "at", "(I)I"⟩ : MethodName)).desc).map (fun d => d.parameters.length) = some 1) := by decide +kernel
set_option maxHeartbeats 4000000 in
set_option maxRecDepth 100000 in
theorem m_M_at (l : Launch) (dC : Nat → ClassId) (dI : Nat → Nat → Nat) {gE : zG} {h0 : Nat} {a0_2 : Nat} {h1 : Nat} {cA1 : ClassId} {h2 : Nat} {cA2 : ClassId} {h3 : Nat} {cA3 : ClassId} {h4 : Nat} {cA4 : ClassId} {h5 : Nat} {cA5 : ClassId} {h6 : Nat} {cA6 : ClassId} {h7 : Nat} {cA7 : ClassId} {h8 : Nat} {cA8 : ClassId} {h9 : Nat} {cA9 : ClassId} {h10 : Nat} {cA10 : ClassId} {h11 : Nat} {cA11 : ClassId} {h12 : Nat} {cA12 : ClassId} {h13 : Nat} {cA13 : ClassId} {h14 : Nat} {cA14 : ClassId} {I0 : Nat → Int32} {J0 : Nat → Int64} {n1 : Nat} {f1 : Nat → Int32} {n2 : Nat} {f2 : Nat → Int32} {n3 : Nat} {f3 : Nat → Int32} {n4 : Nat} {f4 : Nat → Int32} {n5 : Nat} {f5 : Nat → Int32} {n6 : Nat} {f6 : Nat → Int32} {n7 : Nat} {f7 : Nat → Int32} {n8 : Nat} {f8 : Nat → Int32} {n9 : Nat} {f9 : Nat → Int32} {n10 : Nat} {f10 : Nat → Int32} {n11 : Nat} {f11 : Nat → Int32} {n12 : Nat} {f12 : Nat → Int32} {n13 : Nat} {f13 : Nat → Int32} {n14 : Nat} {f14 : Nat → Int32} {x1 : Int32} {sz : Nat} {Z : Int32 → (Nat → Int32) × (Nat → Int64) × (Nat → Int32) × (Nat → Int32) × (Nat → Int32) × (Nat → Int32) → Prop} (hv : v_M_at_0 I0 J0 n1 f1 n2 f2 n3 f3 n4 f4 n5 f5 n6 f6 n7 f7 n8 f8 n9 f9 n10 f10 n11 f11 n12 f12 n13 f13 n14 f14 x1 Z) : Met l (⟨"NumberDressModel", "at", "(I)I"⟩ : MethodName) (Cond.code (⟨"NumberDressModel", "at", "(I)I"⟩ : MethodName) prog_14_method_68_code 2 (some .int) :: zT) { frames := 7, cells := 0, slots := 0, locals := 169 } (zPc gE (dC, dI) zCl [(cA1, .int), (cA2, .int), (cA3, .int), (cA4, .int), (cA5, .int), (cA6, .int), (cA7, .int), (cA8, .int), (cA9, .int), (cA10, .int), (cA11, .int), (cA12, .int), (cA13, .int), (cA14, .int)] [.ref h0, .int x1] sz [(h0, .inr (12, o_M I0 J0 a0_2 h1 h2 h5 h6 h7 h11 h13 h12 h3 h8 h9 h10 h14 h4)), (h1, .inl (cA1, n1, .inl f1)), (h2, .inl (cA2, n2, .inl f2)), (h3, .inl (cA3, n3, .inl f3)), (h4, .inl (cA4, n4, .inl f4)), (h5, .inl (cA5, n5, .inl f5)), (h6, .inl (cA6, n6, .inl f6)), (h7, .inl (cA7, n7, .inl f7)), (h8, .inl (cA8, n8, .inl f8)), (h9, .inl (cA9, n9, .inl f9)), (h10, .inl (cA10, n10, .inl f10)), (h11, .inl (cA11, n11, .inl f11)), (h12, .inl (cA12, n12, .inl f12)), (h13, .inl (cA13, n13, .inl f13)), (h14, .inl (cA14, n14, .inl f14))]) (va_Qi Z (zB (dC, dI) zCl [(cA1, .int), (cA2, .int), (cA3, .int), (cA4, .int), (cA5, .int), (cA6, .int), (cA7, .int), (cA8, .int), (cA9, .int), (cA10, .int), (cA11, .int), (cA12, .int), (cA13, .int), (cA14, .int)] (va_A [(h0, .inr (12, o_M I0 J0 a0_2 h1 h2 h5 h6 h7 h11 h13 h12 h3 h8 h9 h10 h14 h4)), (h1, .inl (cA1, n1, .inl f1)), (h2, .inl (cA2, n2, .inl f2)), (h3, .inl (cA3, n3, .inl f3)), (h4, .inl (cA4, n4, .inl f4)), (h5, .inl (cA5, n5, .inl f5)), (h6, .inl (cA6, n6, .inl f6)), (h7, .inl (cA7, n7, .inl f7)), (h8, .inl (cA8, n8, .inl f8)), (h9, .inl (cA9, n9, .inl f9)), (h10, .inl (cA10, n10, .inl f10)), (h11, .inl (cA11, n11, .inl f11)), (h12, .inl (cA12, n12, .inl f12)), (h13, .inl (cA13, n13, .inl f13)), (h14, .inl (cA14, n14, .inl f14))] sz) (fun u : (Nat → Int32) × (Nat → Int64) × (Nat → Int32) × (Nat → Int32) × (Nat → Int32) × (Nat → Int32) => [(h0, .inr (12, o_M u.1 u.2.1 a0_2 h1 h2 h5 h6 h7 h11 h13 h12 h3 h8 h9 h10 h14 h4)), (h1, .inl (cA1, n1, .inl f1)), (h2, .inl (cA2, n2, .inl f2)), (h3, .inl (cA3, n3, .inl f3)), (h4, .inl (cA4, n4, .inl u.2.2.1)), (h5, .inl (cA5, n5, .inl f5)), (h6, .inl (cA6, n6, .inl f6)), (h7, .inl (cA7, n7, .inl f7)), (h8, .inl (cA8, n8, .inl f8)), (h9, .inl (cA9, n9, .inl u.2.2.2.1)), (h10, .inl (cA10, n10, .inl u.2.2.2.2.1)), (h11, .inl (cA11, n11, .inl f11)), (h12, .inl (cA12, n12, .inl f12)), (h13, .inl (cA13, n13, .inl f13)), (h14, .inl (cA14, n14, .inl u.2.2.2.2.2))])) (va_A [(h0, .inr (12, o_M I0 J0 a0_2 h1 h2 h5 h6 h7 h11 h13 h12 h3 h8 h9 h10 h14 h4)), (h1, .inl (cA1, n1, .inl f1)), (h2, .inl (cA2, n2, .inl f2)), (h3, .inl (cA3, n3, .inl f3)), (h4, .inl (cA4, n4, .inl f4)), (h5, .inl (cA5, n5, .inl f5)), (h6, .inl (cA6, n6, .inl f6)), (h7, .inl (cA7, n7, .inl f7)), (h8, .inl (cA8, n8, .inl f8)), (h9, .inl (cA9, n9, .inl f9)), (h10, .inl (cA10, n10, .inl f10)), (h11, .inl (cA11, n11, .inl f11)), (h12, .inl (cA12, n12, .inl f12)), (h13, .inl (cA13, n13, .inl f13)), (h14, .inl (cA14, n14, .inl f14))] sz)) 0 0 (va_A [(h0, .inr (12, o_M I0 J0 a0_2 h1 h2 h5 h6 h7 h11 h13 h12 h3 h8 h9 h10 h14 h4)), (h1, .inl (cA1, n1, .inl f1)), (h2, .inl (cA2, n2, .inl f2)), (h3, .inl (cA3, n3, .inl f3)), (h4, .inl (cA4, n4, .inl f4)), (h5, .inl (cA5, n5, .inl f5)), (h6, .inl (cA6, n6, .inl f6)), (h7, .inl (cA7, n7, .inl f7)), (h8, .inl (cA8, n8, .inl f8)), (h9, .inl (cA9, n9, .inl f9)), (h10, .inl (cA10, n10, .inl f10)), (h11, .inl (cA11, n11, .inl f11)), (h12, .inl (cA12, n12, .inl f12)), (h13, .inl (cA13, n13, .inl f13)), (h14, .inl (cA14, n14, .inl f14))] sz) := by
  refine Met.ofW (cc := prog_14_method_68_code) (maxL := 2) (ret := (some .int)) (by decide +kernel) rfl ?_
  intro p e s m args below meth c s₁ B hml hp
  obtain ⟨rfl, hsz, hP, hK, hD0, hE⟩ := hp
  have hts := atoms_spec (ws := (Cond.code (⟨"NumberDressModel", "at", "(I)I"⟩ : MethodName) prog_14_method_68_code 2 (some .int) :: zT)) B.pre
  have hown : s.vm.findClass "NumberDressModel" = some m.cls := findClass_of_methodNamed B.named
  have hc : zC p s m _ meth c prog_14_method_68_code (some .int) 2 "NumberDressModel" := ⟨B.exec, B.bytes, B.returns, hml, hown, fun w h => hts w (List.mem_cons_of_mem _ h), B.notSynchronized⟩
  subst hsz
  have hD := hD0.self (sz := s.heap.size)
  generalize hAe : va_A [(h0, .inr (12, o_M I0 J0 a0_2 h1 h2 h5 h6 h7 h11 h13 h12 h3 h8 h9 h10 h14 h4)), (h1, .inl (cA1, n1, .inl f1)), (h2, .inl (cA2, n2, .inl f2)), (h3, .inl (cA3, n3, .inl f3)), (h4, .inl (cA4, n4, .inl f4)), (h5, .inl (cA5, n5, .inl f5)), (h6, .inl (cA6, n6, .inl f6)), (h7, .inl (cA7, n7, .inl f7)), (h8, .inl (cA8, n8, .inl f8)), (h9, .inl (cA9, n9, .inl f9)), (h10, .inl (cA10, n10, .inl f10)), (h11, .inl (cA11, n11, .inl f11)), (h12, .inl (cA12, n12, .inl f12)), (h13, .inl (cA13, n13, .inl f13)), (h14, .inl (cA14, n14, .inl f14))] s.heap.size = A at hD hE ⊢
  have hA : ∀ q : Nat, s.heap.size ≤ q → A q := fun q h => by rw [← hAe]; exact Or.inr h
  have hl := lv_entry ([.ref h0, .int x1]) (n := 2) (Nat.le_of_ble_eq_true rfl)
  rw [lg_entry_eq]
  exact b_M_at_0 hc hA hE hl hK hP hD va_S.rf hv
theorem d_M_about_0 : decode prog_14_method_69_code 0 = .ok (.aload_n 0, 1) := by decide +kernel
theorem d_M_about_1 : decode prog_14_method_69_code 1 = .ok (.iload_n 1, 1) := by decide +kernel
theorem d_M_about_2 : decode prog_14_method_69_code 2 = .ok (.ifCond .lt 8, 3) := by decide +kernel
theorem d_M_about_5 : decode prog_14_method_69_code 5 = .ok (.iload_n 1, 1) := by decide +kernel
theorem d_M_about_6 : decode prog_14_method_69_code 6 = .ok (.iconst 5, 1) := by decide +kernel
theorem d_M_about_7 : decode prog_14_method_69_code 7 = .ok (.if_icmp .le 7, 3) := by decide +kernel
theorem d_M_about_10 : decode prog_14_method_69_code 10 = .ok (.iconst 1, 1) := by decide +kernel
theorem d_M_about_11 : decode prog_14_method_69_code 11 = .ok (.goto 4, 3) := by decide +kernel
theorem d_M_about_14 : decode prog_14_method_69_code 14 = .ok (.iconst 0, 1) := by decide +kernel
theorem d_M_about_15 : decode prog_14_method_69_code 15 = .ok (.putfield 55, 3) := by decide +kernel
theorem d_M_about_18 : decode prog_14_method_69_code 18 = .ok (.aload_n 0, 1) := by decide +kernel
theorem d_M_about_19 : decode prog_14_method_69_code 19 = .ok (.getfield 55, 3) := by decide +kernel
theorem d_M_about_22 : decode prog_14_method_69_code 22 = .ok (.ifCond .le 5, 3) := by decide +kernel
theorem d_M_about_25 : decode prog_14_method_69_code 25 = .ok (.iconst 0, 1) := by decide +kernel
theorem d_M_about_26 : decode prog_14_method_69_code 26 = .ok (.ireturn, 1) := by decide +kernel
theorem d_M_about_27 : decode prog_14_method_69_code 27 = .ok (.iload_n 1, 1) := by decide +kernel
theorem d_M_about_28 : decode prog_14_method_69_code 28 = .ok (.ifCond .ne 10, 3) := by decide +kernel
theorem d_M_about_31 : decode prog_14_method_69_code 31 = .ok (.aload_n 0, 1) := by decide +kernel
theorem d_M_about_32 : decode prog_14_method_69_code 32 = .ok (.getfield 13, 3) := by decide +kernel
theorem d_M_about_35 : decode prog_14_method_69_code 35 = .ok (.iconst 0, 1) := by decide +kernel
theorem d_M_about_36 : decode prog_14_method_69_code 36 = .ok (.iaload, 1) := by decide +kernel
theorem d_M_about_37 : decode prog_14_method_69_code 37 = .ok (.ireturn, 1) := by decide +kernel
theorem d_M_about_38 : decode prog_14_method_69_code 38 = .ok (.iload_n 1, 1) := by decide +kernel
theorem d_M_about_39 : decode prog_14_method_69_code 39 = .ok (.iconst 5, 1) := by decide +kernel
theorem d_M_about_40 : decode prog_14_method_69_code 40 = .ok (.if_icmp .ne 12, 3) := by decide +kernel
theorem d_M_about_43 : decode prog_14_method_69_code 43 = .ok (.aload_n 0, 1) := by decide +kernel
theorem d_M_about_44 : decode prog_14_method_69_code 44 = .ok (.invokevirtual 392, 3) := by decide +kernel
theorem d_M_about_47 : decode prog_14_method_69_code 47 = .ok (.iconst 1, 1) := by decide +kernel
theorem d_M_about_48 : decode prog_14_method_69_code 48 = .ok (.iadd, 1) := by decide +kernel
theorem d_M_about_49 : decode prog_14_method_69_code 49 = .ok (.goto 25, 3) := by decide +kernel
theorem d_M_about_52 : decode prog_14_method_69_code 52 = .ok (.iload_n 1, 1) := by decide +kernel
theorem d_M_about_53 : decode prog_14_method_69_code 53 = .ok (.aload_n 0, 1) := by decide +kernel
theorem d_M_about_54 : decode prog_14_method_69_code 54 = .ok (.getfield 13, 3) := by decide +kernel
theorem d_M_about_57 : decode prog_14_method_69_code 57 = .ok (.iconst 0, 1) := by decide +kernel
theorem d_M_about_58 : decode prog_14_method_69_code 58 = .ok (.iaload, 1) := by decide +kernel
theorem d_M_about_59 : decode prog_14_method_69_code 59 = .ok (.if_icmp .le 7, 3) := by decide +kernel
theorem d_M_about_62 : decode prog_14_method_69_code 62 = .ok (.iconst (-1), 1) := by decide +kernel
theorem d_M_about_63 : decode prog_14_method_69_code 63 = .ok (.goto 11, 3) := by decide +kernel
theorem d_M_about_66 : decode prog_14_method_69_code 66 = .ok (.aload_n 0, 1) := by decide +kernel
theorem d_M_about_67 : decode prog_14_method_69_code 67 = .ok (.getfield 16, 3) := by decide +kernel
theorem d_M_about_70 : decode prog_14_method_69_code 70 = .ok (.iload_n 1, 1) := by decide +kernel
theorem d_M_about_71 : decode prog_14_method_69_code 71 = .ok (.iconst 1, 1) := by decide +kernel
theorem d_M_about_72 : decode prog_14_method_69_code 72 = .ok (.isub, 1) := by decide +kernel
theorem d_M_about_73 : decode prog_14_method_69_code 73 = .ok (.iaload, 1) := by decide +kernel
theorem d_M_about_74 : decode prog_14_method_69_code 74 = .ok (.ireturn, 1) := by decide +kernel
set_option maxHeartbeats 4000000 in
set_option maxRecDepth 100000 in
theorem b_M_about_47 {h0 : Nat} {a0_2 : Nat} {a0_6 : Nat} {a0_7 : Nat} {a0_8 : Nat} {a0_9 : Nat} {a0_10 : Nat} {a0_11 : Nat} {a0_22 : Nat} {a0_26 : Nat} {a0_29 : Nat} {a0_31 : Nat} {a0_32 : Nat} {a0_34 : Nat} {h1 : Nat} {cA1 : ClassId} {h2 : Nat} {cA2 : ClassId} {I0 : Nat → Int32} {J0 : Nat → Int64} {n1 : Nat} {f1 : Nat → Int32} {n2 : Nat} {f2 : Nat → Int32} {s0 : Int32}  {Z : Int32 → (Nat → Int32) → Prop} {H : Heap} {locs : List Loc} {ls : Array Slot} (hc : zC p s m args meth c prog_14_method_69_code (some .int) 2 "NumberDressModel") (hA : ∀ q : Nat, s.heap.size ≤ q → A q) (hE : zE gE A s) (hl : lv_has ls 2 []) (hK : va_K (dC, dI) zCl [(cA1, .int), (cA2, .int)] s) (hP : va_P (dC, dI) zCl [(h0, .inr (12, o_M I0 J0 a0_2 h1 h2 a0_6 a0_7 a0_8 a0_9 a0_10 a0_11 a0_22 a0_26 a0_29 a0_31 a0_32 a0_34)), (h1, .inl (cA1, n1, .inl f1)), (h2, .inl (cA2, n2, .inl f2))] H) (hD : va_D A [(h0, .inr (12, o_M I0 J0 a0_2 h1 h2 a0_6 a0_7 a0_8 a0_9 a0_10 a0_11 a0_22 a0_26 a0_29 a0_31 a0_32 a0_34)), (h1, .inl (cA1, n1, .inl f1)), (h2, .inl (cA2, n2, .inl f2))]) (hS : va_S A s.heap H locs) (hv : v_M_about_47 I0 J0 n1 f1 n2 f2 s0  Z) : W p l e (headSpec (Cond.code (⟨"NumberDressModel", "about", "(I)I"⟩ : MethodName) prog_14_method_69_code 2 (some .int) :: zT) { frames := 1, cells := 0, slots := 0, locals := 25 }).room s m args below meth c H locs 0 0 (MQ below (va_Qi Z (zB (dC, dI) zCl [(cA1, .int), (cA2, .int)] A (fun u : (Nat → Int32) => [(h0, .inr (12, o_M u J0 a0_2 h1 h2 a0_6 a0_7 a0_8 a0_9 a0_10 a0_11 a0_22 a0_26 a0_29 a0_31 a0_32 a0_34)), (h1, .inl (cA1, n1, .inl f1)), (h2, .inl (cA2, n2, .inl f2))])) A) args s 0 0 A) (F0 m 47 ls [.int s0]) := by
  obtain ⟨hx, hb, hr, hml, hown, ht, hlocks⟩ := id hc
  unfold v_M_about_47 at hv
  refine lv_iconst (v := (1 : Int32)) hx hb d_M_about_47 (by decide) ?_
  refine lv_iadd hx hb d_M_about_48 ?_
  refine lv_goto (tgt := 74) hx hb d_M_about_49 (by decide) ?_
  exact W.iret (v := (s0 + (1 : Int32))) hx hb hr (fun t ht hW => ⟨⟨_, (I0), rfl, hv, ⟨by rw [ht]; exact hP, va_K.moved hW.alike hK, hD⟩⟩, hS.F ht⟩) hS.2.2 d_M_about_74
set_option maxHeartbeats 4000000 in
set_option maxRecDepth 100000 in
theorem b_M_about_15 {h0 : Nat} {a0_2 : Nat} {a0_6 : Nat} {a0_7 : Nat} {a0_8 : Nat} {a0_9 : Nat} {a0_10 : Nat} {a0_11 : Nat} {a0_22 : Nat} {a0_26 : Nat} {a0_29 : Nat} {a0_31 : Nat} {a0_32 : Nat} {a0_34 : Nat} {h1 : Nat} {cA1 : ClassId} {h2 : Nat} {cA2 : ClassId} {I0 : Nat → Int32} {J0 : Nat → Int64} {n1 : Nat} {f1 : Nat → Int32} {n2 : Nat} {f2 : Nat → Int32} {x1 : Int32} {s1 : Int32}  {Z : Int32 → (Nat → Int32) → Prop} {H : Heap} {locs : List Loc} {ls : Array Slot} (hc : zC p s m args meth c prog_14_method_69_code (some .int) 2 "NumberDressModel") (hA : ∀ q : Nat, s.heap.size ≤ q → A q) (hE : zE gE A s) (hl : lv_has ls 2 [(0, .ref h0), (1, .int x1)]) (hK : va_K (dC, dI) zCl [(cA1, .int), (cA2, .int)] s) (hP : va_P (dC, dI) zCl [(h0, .inr (12, o_M I0 J0 a0_2 h1 h2 a0_6 a0_7 a0_8 a0_9 a0_10 a0_11 a0_22 a0_26 a0_29 a0_31 a0_32 a0_34)), (h1, .inl (cA1, n1, .inl f1)), (h2, .inl (cA2, n2, .inl f2))] H) (hD : va_D A [(h0, .inr (12, o_M I0 J0 a0_2 h1 h2 a0_6 a0_7 a0_8 a0_9 a0_10 a0_11 a0_22 a0_26 a0_29 a0_31 a0_32 a0_34)), (h1, .inl (cA1, n1, .inl f1)), (h2, .inl (cA2, n2, .inl f2))]) (hS : va_S A s.heap H locs) (hv : v_M_about_15 I0 J0 n1 f1 n2 f2 x1 s1  Z) : W p l e (headSpec (Cond.code (⟨"NumberDressModel", "about", "(I)I"⟩ : MethodName) prog_14_method_69_code 2 (some .int) :: zT) { frames := 1, cells := 0, slots := 0, locals := 25 }).room s m args below meth c H locs 0 0 (MQ below (va_Qi Z (zB (dC, dI) zCl [(cA1, .int), (cA2, .int)] A (fun u : (Nat → Int32) => [(h0, .inr (12, o_M u J0 a0_2 h1 h2 a0_6 a0_7 a0_8 a0_9 a0_10 a0_11 a0_22 a0_26 a0_29 a0_31 a0_32 a0_34)), (h1, .inl (cA1, n1, .inl f1)), (h2, .inl (cA2, n2, .inl f2))])) A) args s 0 0 A) (F0 m 15 ls [.int s1, .ref h0]) := by
  obtain ⟨hx, hb, hr, hml, hown, ht, hlocks⟩ := id hc
  unfold v_M_about_15 at hv
  refine va_put (D := (dC, dI)) (ci := 12) (v := .int s1) (ty := .int) (C := "NumberDressModel") (T := T_M) (N := 41) hx hb ht zin_M ty_M tyok_M nm_M hown hK hP hD hS 0 rfl rfl 0 (by decide) (ht _ zw_1261) (fun _ h9 => h9) rfl (by decide +kernel) rfl rfl (Nat.le_of_ble_eq_true rfl) d_M_about_15 (fun H locs hP hD hS => ?_)
  have hP : va_P (dC, dI) zCl [(h0, .inr (12, o_M (zu I0 0 s1) J0 a0_2 h1 h2 a0_6 a0_7 a0_8 a0_9 a0_10 a0_11 a0_22 a0_26 a0_29 a0_31 a0_32 a0_34)), (h1, .inl (cA1, n1, .inl f1)), (h2, .inl (cA2, n2, .inl f2))] H := hP
  have hD : va_D A [(h0, .inr (12, o_M (zu I0 0 s1) J0 a0_2 h1 h2 a0_6 a0_7 a0_8 a0_9 a0_10 a0_11 a0_22 a0_26 a0_29 a0_31 a0_32 a0_34)), (h1, .inl (cA1, n1, .inl f1)), (h2, .inl (cA2, n2, .inl f2))] := hD
  refine lv_aload_n hx hb d_M_about_18 rfl (lv_at hl 0 rfl) ?_
  refine va_get (D := (dC, dI)) (ci := 12) (v := .int s1) (C := "NumberDressModel") (T := T_M) (N := 41) hx hb ht zin_M hown hK hP 0 rfl rfl 0 (by decide) (ht _ zw_1261) (fun _ h9 => h9) rfl d_M_about_19 ?_
  refine lv_if_le (tgt := 27) hx hb d_M_about_22 (by decide) (fun c_1 => ?_) (fun c_1 => ?_)
  · have hv := hv.1 c_1
    refine lv_iload_n hx hb d_M_about_27 rfl (lv_at hl 1 rfl) ?_
    refine lv_if_ne (tgt := 38) hx hb d_M_about_28 (by decide) (fun c_2 => ?_) (fun c_2 => ?_)
    · have hv := hv.1 c_2
      refine lv_iload_n hx hb d_M_about_38 rfl (lv_at hl 1 rfl) ?_
      refine lv_iconst (v := (5 : Int32)) hx hb d_M_about_39 (by decide) ?_
      refine lv_icmp_ne (tgt := 52) hx hb d_M_about_40 (by decide) (fun c_3 => ?_) (fun c_3 => ?_)
      · have hv := hv.1 c_3
        refine lv_iload_n hx hb d_M_about_52 rfl (lv_at hl 1 rfl) ?_
        refine lv_aload_n hx hb d_M_about_53 rfl (lv_at hl 0 rfl) ?_
        refine va_get (D := (dC, dI)) (ci := 12) (v := .ref h1) (C := "NumberDressModel") (T := T_M) (N := 41) hx hb ht zin_M hown hK hP 0 rfl rfl 4 (by decide) (ht _ zw_1265) (fun _ h9 => h9) rfl d_M_about_54 ?_
        refine lv_iconst (v := (0 : Int32)) hx hb d_M_about_57 (by decide) ?_
        obtain ⟨q_4, hv⟩ := hv
        refine va_iald hx hb hK hP 1 0 rfl rfl q_4 d_M_about_58 ?_
        refine lv_icmp_le (tgt := 66) hx hb d_M_about_59 (by decide) (fun c_5 => ?_) (fun c_5 => ?_)
        · have hv := hv.1 c_5
          refine lv_aload_n hx hb d_M_about_66 rfl (lv_at hl 0 rfl) ?_
          refine va_get (D := (dC, dI)) (ci := 12) (v := .ref h2) (C := "NumberDressModel") (T := T_M) (N := 41) hx hb ht zin_M hown hK hP 0 rfl rfl 5 (by decide) (ht _ zw_1266) (fun _ h9 => h9) rfl d_M_about_67 ?_
          refine lv_iload_n hx hb d_M_about_70 rfl (lv_at hl 1 rfl) ?_
          refine lv_iconst (v := (1 : Int32)) hx hb d_M_about_71 (by decide) ?_
          refine lv_isub hx hb d_M_about_72 ?_
          obtain ⟨q_6, hv⟩ := hv
          refine va_iald hx hb hK hP 2 1 rfl rfl q_6 d_M_about_73 ?_
          exact W.iret (v := (f2 (x1 - (1 : Int32)).toNatClampNeg)) hx hb hr (fun t ht hW => ⟨⟨_, ((zu I0 0 s1)), rfl, hv, ⟨by rw [ht]; exact hP, va_K.moved hW.alike hK, hD⟩⟩, hS.F ht⟩) hS.2.2 d_M_about_74
        · have hv := hv.2 c_5
          refine lv_iconst (v := (-1 : Int32)) hx hb d_M_about_62 (by decide) ?_
          refine lv_goto (tgt := 74) hx hb d_M_about_63 (by decide) ?_
          exact W.iret (v := (-1 : Int32)) hx hb hr (fun t ht hW => ⟨⟨_, ((zu I0 0 s1)), rfl, hv, ⟨by rw [ht]; exact hP, va_K.moved hW.alike hK, hD⟩⟩, hS.F ht⟩) hS.2.2 d_M_about_74
      · have hv := hv.2 c_3
        refine lv_aload_n hx hb d_M_about_43 rfl (lv_at hl 0 rfl) ?_
        refine z_calli (wc := [(h0, .inr (12, o_M (zu I0 0 s1) J0 a0_2 h1 h2 a0_6 a0_7 a0_8 a0_9 a0_10 a0_11 a0_22 a0_26 a0_29 a0_31 a0_32 a0_34)), (h1, .inl (cA1, n1, .inl f1)), (h2, .inl (cA2, n2, .inl f2))]) (wr := []) [0, 1, 2] [] (va_runV (As := []) (rest := []) ⟨hx, hb, hml, hown, ht⟩ (m_M_taken l dC dI hv) ⟨(callB_of 0 ht (zG_in zi_M_taken) rfl rfl rfl (ht _ zw_122) (ht _ zw_1525) zh_M_taken ⟨Nat.le_of_ble_eq_true rfl, Nat.le_of_ble_eq_true rfl⟩), (ht _ zw_1527), (ht _ zw_82)⟩ ⟨zPc_blind, va_recv hK hP (ci := 12) (q0 := 0) rfl rfl, zPc_pre hP hK hD hS hA hE [0, 1, 2] [0, 1] rfl rfl (by decide) rfl⟩ rfl rfl hl.1 rfl (lv_room (Nat.le_of_ble_eq_true rfl)) d_M_about_44 ⟨Nat.le_of_ble_eq_true rfl, Nat.le_of_ble_eq_true rfl⟩) hP hD hS hA rfl rfl (by decide) (by decide) (fun r u H locs hv hP hD hS => ?_)
        have hP : va_P (dC, dI) zCl [(h0, .inr (12, o_M (zu I0 0 s1) J0 a0_2 h1 h2 a0_6 a0_7 a0_8 a0_9 a0_10 a0_11 a0_22 a0_26 a0_29 a0_31 a0_32 a0_34)), (h1, .inl (cA1, n1, .inl f1)), (h2, .inl (cA2, n2, .inl f2))] H := hP.sub [0, 1, 2] rfl
        have hD : va_D A [(h0, .inr (12, o_M (zu I0 0 s1) J0 a0_2 h1 h2 a0_6 a0_7 a0_8 a0_9 a0_10 a0_11 a0_22 a0_26 a0_29 a0_31 a0_32 a0_34)), (h1, .inl (cA1, n1, .inl f1)), (h2, .inl (cA2, n2, .inl f2))] := hD.sub [0, 1, 2] (by decide) rfl
        exact b_M_about_47 hc hA hE  (lv_sub hl [] rfl) hK hP hD hS hv
    · have hv := hv.2 c_2
      refine lv_aload_n hx hb d_M_about_31 rfl (lv_at hl 0 rfl) ?_
      refine va_get (D := (dC, dI)) (ci := 12) (v := .ref h1) (C := "NumberDressModel") (T := T_M) (N := 41) hx hb ht zin_M hown hK hP 0 rfl rfl 4 (by decide) (ht _ zw_1265) (fun _ h9 => h9) rfl d_M_about_32 ?_
      refine lv_iconst (v := (0 : Int32)) hx hb d_M_about_35 (by decide) ?_
      obtain ⟨q_7, hv⟩ := hv
      refine va_iald hx hb hK hP 1 0 rfl rfl q_7 d_M_about_36 ?_
      exact W.iret (v := (f1 (0 : Int32).toNatClampNeg)) hx hb hr (fun t ht hW => ⟨⟨_, ((zu I0 0 s1)), rfl, hv, ⟨by rw [ht]; exact hP, va_K.moved hW.alike hK, hD⟩⟩, hS.F ht⟩) hS.2.2 d_M_about_37
  · have hv := hv.2 c_1
    refine lv_iconst (v := (0 : Int32)) hx hb d_M_about_25 (by decide) ?_
    exact W.iret (v := (0 : Int32)) hx hb hr (fun t ht hW => ⟨⟨_, ((zu I0 0 s1)), rfl, hv, ⟨by rw [ht]; exact hP, va_K.moved hW.alike hK, hD⟩⟩, hS.F ht⟩) hS.2.2 d_M_about_26
set_option maxHeartbeats 4000000 in
set_option maxRecDepth 100000 in
theorem b_M_about_10 {h0 : Nat} {a0_2 : Nat} {a0_6 : Nat} {a0_7 : Nat} {a0_8 : Nat} {a0_9 : Nat} {a0_10 : Nat} {a0_11 : Nat} {a0_22 : Nat} {a0_26 : Nat} {a0_29 : Nat} {a0_31 : Nat} {a0_32 : Nat} {a0_34 : Nat} {h1 : Nat} {cA1 : ClassId} {h2 : Nat} {cA2 : ClassId} {I0 : Nat → Int32} {J0 : Nat → Int64} {n1 : Nat} {f1 : Nat → Int32} {n2 : Nat} {f2 : Nat → Int32} {x1 : Int32}  {Z : Int32 → (Nat → Int32) → Prop} {H : Heap} {locs : List Loc} {ls : Array Slot} (hc : zC p s m args meth c prog_14_method_69_code (some .int) 2 "NumberDressModel") (hA : ∀ q : Nat, s.heap.size ≤ q → A q) (hE : zE gE A s) (hl : lv_has ls 2 [(0, .ref h0), (1, .int x1)]) (hK : va_K (dC, dI) zCl [(cA1, .int), (cA2, .int)] s) (hP : va_P (dC, dI) zCl [(h0, .inr (12, o_M I0 J0 a0_2 h1 h2 a0_6 a0_7 a0_8 a0_9 a0_10 a0_11 a0_22 a0_26 a0_29 a0_31 a0_32 a0_34)), (h1, .inl (cA1, n1, .inl f1)), (h2, .inl (cA2, n2, .inl f2))] H) (hD : va_D A [(h0, .inr (12, o_M I0 J0 a0_2 h1 h2 a0_6 a0_7 a0_8 a0_9 a0_10 a0_11 a0_22 a0_26 a0_29 a0_31 a0_32 a0_34)), (h1, .inl (cA1, n1, .inl f1)), (h2, .inl (cA2, n2, .inl f2))]) (hS : va_S A s.heap H locs) (hv : v_M_about_10 I0 J0 n1 f1 n2 f2 x1  Z) : W p l e (headSpec (Cond.code (⟨"NumberDressModel", "about", "(I)I"⟩ : MethodName) prog_14_method_69_code 2 (some .int) :: zT) { frames := 1, cells := 0, slots := 0, locals := 25 }).room s m args below meth c H locs 0 0 (MQ below (va_Qi Z (zB (dC, dI) zCl [(cA1, .int), (cA2, .int)] A (fun u : (Nat → Int32) => [(h0, .inr (12, o_M u J0 a0_2 h1 h2 a0_6 a0_7 a0_8 a0_9 a0_10 a0_11 a0_22 a0_26 a0_29 a0_31 a0_32 a0_34)), (h1, .inl (cA1, n1, .inl f1)), (h2, .inl (cA2, n2, .inl f2))])) A) args s 0 0 A) (F0 m 10 ls [.ref h0]) := by
  obtain ⟨hx, hb, hr, hml, hown, ht, hlocks⟩ := id hc
  unfold v_M_about_10 at hv
  refine lv_iconst (v := (1 : Int32)) hx hb d_M_about_10 (by decide) ?_
  refine lv_goto (tgt := 15) hx hb d_M_about_11 (by decide) ?_
  exact b_M_about_15 hc hA hE  (lv_sub hl [0, 1] rfl) hK hP hD hS hv
set_option maxHeartbeats 4000000 in
set_option maxRecDepth 100000 in
theorem b_M_about_0 {h0 : Nat} {a0_2 : Nat} {a0_6 : Nat} {a0_7 : Nat} {a0_8 : Nat} {a0_9 : Nat} {a0_10 : Nat} {a0_11 : Nat} {a0_22 : Nat} {a0_26 : Nat} {a0_29 : Nat} {a0_31 : Nat} {a0_32 : Nat} {a0_34 : Nat} {h1 : Nat} {cA1 : ClassId} {h2 : Nat} {cA2 : ClassId} {I0 : Nat → Int32} {J0 : Nat → Int64} {n1 : Nat} {f1 : Nat → Int32} {n2 : Nat} {f2 : Nat → Int32} {x1 : Int32}  {Z : Int32 → (Nat → Int32) → Prop} {H : Heap} {locs : List Loc} {ls : Array Slot} (hc : zC p s m args meth c prog_14_method_69_code (some .int) 2 "NumberDressModel") (hA : ∀ q : Nat, s.heap.size ≤ q → A q) (hE : zE gE A s) (hl : lv_has ls 2 [(0, .ref h0), (1, .int x1)]) (hK : va_K (dC, dI) zCl [(cA1, .int), (cA2, .int)] s) (hP : va_P (dC, dI) zCl [(h0, .inr (12, o_M I0 J0 a0_2 h1 h2 a0_6 a0_7 a0_8 a0_9 a0_10 a0_11 a0_22 a0_26 a0_29 a0_31 a0_32 a0_34)), (h1, .inl (cA1, n1, .inl f1)), (h2, .inl (cA2, n2, .inl f2))] H) (hD : va_D A [(h0, .inr (12, o_M I0 J0 a0_2 h1 h2 a0_6 a0_7 a0_8 a0_9 a0_10 a0_11 a0_22 a0_26 a0_29 a0_31 a0_32 a0_34)), (h1, .inl (cA1, n1, .inl f1)), (h2, .inl (cA2, n2, .inl f2))]) (hS : va_S A s.heap H locs) (hv : v_M_about_0 I0 J0 n1 f1 n2 f2 x1  Z) : W p l e (headSpec (Cond.code (⟨"NumberDressModel", "about", "(I)I"⟩ : MethodName) prog_14_method_69_code 2 (some .int) :: zT) { frames := 1, cells := 0, slots := 0, locals := 25 }).room s m args below meth c H locs 0 0 (MQ below (va_Qi Z (zB (dC, dI) zCl [(cA1, .int), (cA2, .int)] A (fun u : (Nat → Int32) => [(h0, .inr (12, o_M u J0 a0_2 h1 h2 a0_6 a0_7 a0_8 a0_9 a0_10 a0_11 a0_22 a0_26 a0_29 a0_31 a0_32 a0_34)), (h1, .inl (cA1, n1, .inl f1)), (h2, .inl (cA2, n2, .inl f2))])) A) args s 0 0 A) (F0 m 0 ls []) := by
  obtain ⟨hx, hb, hr, hml, hown, ht, hlocks⟩ := id hc
  unfold v_M_about_0 at hv
  refine lv_aload_n hx hb d_M_about_0 rfl (lv_at hl 0 rfl) ?_
  refine lv_iload_n hx hb d_M_about_1 rfl (lv_at hl 1 rfl) ?_
  refine lv_if_lt (tgt := 10) hx hb d_M_about_2 (by decide) (fun c_1 => ?_) (fun c_1 => ?_)
  · have hv := hv.1 c_1
    exact b_M_about_10 hc hA hE  (lv_sub hl [0, 1] rfl) hK hP hD hS hv
  · have hv := hv.2 c_1
    refine lv_iload_n hx hb d_M_about_5 rfl (lv_at hl 1 rfl) ?_
    refine lv_iconst (v := (5 : Int32)) hx hb d_M_about_6 (by decide) ?_
    refine lv_icmp_le (tgt := 14) hx hb d_M_about_7 (by decide) (fun c_2 => ?_) (fun c_2 => ?_)
    · have hv := hv.1 c_2
      refine lv_iconst (v := (0 : Int32)) hx hb d_M_about_14 (by decide) ?_
      exact b_M_about_15 hc hA hE  (lv_sub hl [0, 1] rfl) hK hP hD hS hv
    · have hv := hv.2 c_2
      exact b_M_about_10 hc hA hE  (lv_sub hl [0, 1] rfl) hK hP hD hS hv
theorem zi_M_about : Cond.code (⟨"NumberDressModel", "about", "(I)I"⟩ : MethodName) prog_14_method_69_code 2 (some .int) ∈ zT := zw_1685
theorem zh_M_about : (((⟨"NumberDressModel", "about", "(I)I"⟩ : MethodName)).cls ≠ "java/lang/invoke/MethodHandle" ∧ ((⟨"NumberDressModel", "about", "(I)I"⟩ : MethodName)).cls ≠ "java/lang/invoke/VarHandle" ∧ (parseMethodDescriptor ((⟨"NumberDressModel", "about", "(I)I"⟩ : MethodName)).desc).map (fun d => d.parameters.length) = some 1) := by decide +kernel
set_option maxHeartbeats 4000000 in
set_option maxRecDepth 100000 in
theorem m_M_about (l : Launch) (dC : Nat → ClassId) (dI : Nat → Nat → Nat) {gE : zG} {h0 : Nat} {a0_2 : Nat} {a0_6 : Nat} {a0_7 : Nat} {a0_8 : Nat} {a0_9 : Nat} {a0_10 : Nat} {a0_11 : Nat} {a0_22 : Nat} {a0_26 : Nat} {a0_29 : Nat} {a0_31 : Nat} {a0_32 : Nat} {a0_34 : Nat} {h1 : Nat} {cA1 : ClassId} {h2 : Nat} {cA2 : ClassId} {I0 : Nat → Int32} {J0 : Nat → Int64} {n1 : Nat} {f1 : Nat → Int32} {n2 : Nat} {f2 : Nat → Int32} {x1 : Int32} {sz : Nat} {Z : Int32 → (Nat → Int32) → Prop} (hv : v_M_about_0 I0 J0 n1 f1 n2 f2 x1 Z) : Met l (⟨"NumberDressModel", "about", "(I)I"⟩ : MethodName) (Cond.code (⟨"NumberDressModel", "about", "(I)I"⟩ : MethodName) prog_14_method_69_code 2 (some .int) :: zT) { frames := 1, cells := 0, slots := 0, locals := 25 } (zPc gE (dC, dI) zCl [(cA1, .int), (cA2, .int)] [.ref h0, .int x1] sz [(h0, .inr (12, o_M I0 J0 a0_2 h1 h2 a0_6 a0_7 a0_8 a0_9 a0_10 a0_11 a0_22 a0_26 a0_29 a0_31 a0_32 a0_34)), (h1, .inl (cA1, n1, .inl f1)), (h2, .inl (cA2, n2, .inl f2))]) (va_Qi Z (zB (dC, dI) zCl [(cA1, .int), (cA2, .int)] (va_A [(h0, .inr (12, o_M I0 J0 a0_2 h1 h2 a0_6 a0_7 a0_8 a0_9 a0_10 a0_11 a0_22 a0_26 a0_29 a0_31 a0_32 a0_34)), (h1, .inl (cA1, n1, .inl f1)), (h2, .inl (cA2, n2, .inl f2))] sz) (fun u : (Nat → Int32) => [(h0, .inr (12, o_M u J0 a0_2 h1 h2 a0_6 a0_7 a0_8 a0_9 a0_10 a0_11 a0_22 a0_26 a0_29 a0_31 a0_32 a0_34)), (h1, .inl (cA1, n1, .inl f1)), (h2, .inl (cA2, n2, .inl f2))])) (va_A [(h0, .inr (12, o_M I0 J0 a0_2 h1 h2 a0_6 a0_7 a0_8 a0_9 a0_10 a0_11 a0_22 a0_26 a0_29 a0_31 a0_32 a0_34)), (h1, .inl (cA1, n1, .inl f1)), (h2, .inl (cA2, n2, .inl f2))] sz)) 0 0 (va_A [(h0, .inr (12, o_M I0 J0 a0_2 h1 h2 a0_6 a0_7 a0_8 a0_9 a0_10 a0_11 a0_22 a0_26 a0_29 a0_31 a0_32 a0_34)), (h1, .inl (cA1, n1, .inl f1)), (h2, .inl (cA2, n2, .inl f2))] sz) := by
  refine Met.ofW (cc := prog_14_method_69_code) (maxL := 2) (ret := (some .int)) (by decide +kernel) rfl ?_
  intro p e s m args below meth c s₁ B hml hp
  obtain ⟨rfl, hsz, hP, hK, hD0, hE⟩ := hp
  have hts := atoms_spec (ws := (Cond.code (⟨"NumberDressModel", "about", "(I)I"⟩ : MethodName) prog_14_method_69_code 2 (some .int) :: zT)) B.pre
  have hown : s.vm.findClass "NumberDressModel" = some m.cls := findClass_of_methodNamed B.named
  have hc : zC p s m _ meth c prog_14_method_69_code (some .int) 2 "NumberDressModel" := ⟨B.exec, B.bytes, B.returns, hml, hown, fun w h => hts w (List.mem_cons_of_mem _ h), B.notSynchronized⟩
  subst hsz
  have hD := hD0.self (sz := s.heap.size)
  generalize hAe : va_A [(h0, .inr (12, o_M I0 J0 a0_2 h1 h2 a0_6 a0_7 a0_8 a0_9 a0_10 a0_11 a0_22 a0_26 a0_29 a0_31 a0_32 a0_34)), (h1, .inl (cA1, n1, .inl f1)), (h2, .inl (cA2, n2, .inl f2))] s.heap.size = A at hD hE ⊢
  have hA : ∀ q : Nat, s.heap.size ≤ q → A q := fun q h => by rw [← hAe]; exact Or.inr h
  have hl := lv_entry ([.ref h0, .int x1]) (n := 2) (Nat.le_of_ble_eq_true rfl)
  rw [lg_entry_eq]
  exact b_M_about_0 hc hA hE hl hK hP hD va_S.rf hv
theorem d_P_checkFromToIndex_0 : decode prog_26_method_12_code 0 = .ok (.iload_n 0, 1) := by decide +kernel
theorem d_P_checkFromToIndex_1 : decode prog_26_method_12_code 1 = .ok (.ifCond .lt 13, 3) := by decide +kernel
theorem d_P_checkFromToIndex_4 : decode prog_26_method_12_code 4 = .ok (.iload_n 0, 1) := by decide +kernel
theorem d_P_checkFromToIndex_5 : decode prog_26_method_12_code 5 = .ok (.iload_n 1, 1) := by decide +kernel
theorem d_P_checkFromToIndex_6 : decode prog_26_method_12_code 6 = .ok (.if_icmp .gt 8, 3) := by decide +kernel
theorem d_P_checkFromToIndex_9 : decode prog_26_method_12_code 9 = .ok (.iload_n 1, 1) := by decide +kernel
theorem d_P_checkFromToIndex_10 : decode prog_26_method_12_code 10 = .ok (.iload_n 2, 1) := by decide +kernel
theorem d_P_checkFromToIndex_11 : decode prog_26_method_12_code 11 = .ok (.if_icmp .le 11, 3) := by decide +kernel
theorem d_P_checkFromToIndex_14 : decode prog_26_method_12_code 14 = .ok (.aload_n 3, 1) := by decide +kernel
theorem d_P_checkFromToIndex_22 : decode prog_26_method_12_code 22 = .ok (.iload_n 0, 1) := by decide +kernel
theorem d_P_checkFromToIndex_23 : decode prog_26_method_12_code 23 = .ok (.ireturn, 1) := by decide +kernel
set_option maxHeartbeats 4000000 in
set_option maxRecDepth 100000 in
theorem b_P_checkFromToIndex_14 {g3 : Option Nat} {x0 : Int32} {x1 : Int32} {x2 : Int32}  {Z : Int32 → Unit → Prop} {H : Heap} {locs : List Loc} {ls : Array Slot} (hc : zC p s m args meth c prog_26_method_12_code (some .int) 4 "jdk/internal/util/Preconditions") (hA : ∀ q : Nat, s.heap.size ≤ q → A q) (hE : zE gE A s) (hl : lv_has ls 4 [(0, .int x0), (1, .int x1), (2, .int x2), (3, va_rf g3)]) (hK : va_K (dC, dI) zCl [] s) (hP : va_P (dC, dI) zCl [] H) (hD : va_D A []) (hS : va_S A s.heap H locs) (hv : v_P_checkFromToIndex_14 x0 x1 x2  Z) : W p l e (headSpec (Cond.code (⟨"jdk/internal/util/Preconditions", "checkFromToIndex", "(IIILjava/util/function/BiFunction;)I"⟩ : MethodName) prog_26_method_12_code 4 (some .int) :: zT) { frames := 0, cells := 0, slots := 0, locals := 0 }).room s m args below meth c H locs 0 0 (MQ below (va_Qi Z (zB (dC, dI) zCl [] A (fun u : Unit => [])) A) args s 0 0 A) (F0 m 14 ls []) := by
  obtain ⟨hx, hb, hr, hml, hown, ht, hlocks⟩ := id hc
  unfold v_P_checkFromToIndex_14 at hv
  rcases g3 with _ | g3
  all_goals
    exact hv.elim
set_option maxHeartbeats 4000000 in
set_option maxRecDepth 100000 in
theorem b_P_checkFromToIndex_0 {g3 : Option Nat} {x0 : Int32} {x1 : Int32} {x2 : Int32}  {Z : Int32 → Unit → Prop} {H : Heap} {locs : List Loc} {ls : Array Slot} (hc : zC p s m args meth c prog_26_method_12_code (some .int) 4 "jdk/internal/util/Preconditions") (hA : ∀ q : Nat, s.heap.size ≤ q → A q) (hE : zE gE A s) (hl : lv_has ls 4 [(0, .int x0), (1, .int x1), (2, .int x2), (3, va_rf g3)]) (hK : va_K (dC, dI) zCl [] s) (hP : va_P (dC, dI) zCl [] H) (hD : va_D A []) (hS : va_S A s.heap H locs) (hv : v_P_checkFromToIndex_0 x0 x1 x2  Z) : W p l e (headSpec (Cond.code (⟨"jdk/internal/util/Preconditions", "checkFromToIndex", "(IIILjava/util/function/BiFunction;)I"⟩ : MethodName) prog_26_method_12_code 4 (some .int) :: zT) { frames := 0, cells := 0, slots := 0, locals := 0 }).room s m args below meth c H locs 0 0 (MQ below (va_Qi Z (zB (dC, dI) zCl [] A (fun u : Unit => [])) A) args s 0 0 A) (F0 m 0 ls []) := by
  obtain ⟨hx, hb, hr, hml, hown, ht, hlocks⟩ := id hc
  unfold v_P_checkFromToIndex_0 at hv
  rcases g3 with _ | g3
  all_goals
    refine lv_iload_n hx hb d_P_checkFromToIndex_0 rfl (lv_at hl 0 rfl) ?_
    refine lv_if_lt (tgt := 14) hx hb d_P_checkFromToIndex_1 (by decide) (fun c_1 => ?_) (fun c_1 => ?_)
    · have hv := hv.1 c_1
      exact b_P_checkFromToIndex_14 hc hA hE  (lv_sub hl [0, 1, 2, 3] rfl) hK hP hD hS hv
    · have hv := hv.2 c_1
      refine lv_iload_n hx hb d_P_checkFromToIndex_4 rfl (lv_at hl 0 rfl) ?_
      refine lv_iload_n hx hb d_P_checkFromToIndex_5 rfl (lv_at hl 1 rfl) ?_
      refine lv_icmp_gt (tgt := 14) hx hb d_P_checkFromToIndex_6 (by decide) (fun c_2 => ?_) (fun c_2 => ?_)
      · have hv := hv.1 c_2
        exact b_P_checkFromToIndex_14 hc hA hE  (lv_sub hl [0, 1, 2, 3] rfl) hK hP hD hS hv
      · have hv := hv.2 c_2
        refine lv_iload_n hx hb d_P_checkFromToIndex_9 rfl (lv_at hl 1 rfl) ?_
        refine lv_iload_n hx hb d_P_checkFromToIndex_10 rfl (lv_at hl 2 rfl) ?_
        refine lv_icmp_le (tgt := 22) hx hb d_P_checkFromToIndex_11 (by decide) (fun c_3 => ?_) (fun c_3 => ?_)
        · have hv := hv.1 c_3
          refine lv_iload_n hx hb d_P_checkFromToIndex_22 rfl (lv_at hl 0 rfl) ?_
          exact W.iret (v := x0) hx hb hr (fun t ht hW => ⟨⟨_, (), rfl, hv, ⟨by rw [ht]; exact hP, va_K.moved hW.alike hK, hD⟩⟩, hS.F ht⟩) hS.2.2 d_P_checkFromToIndex_23
        · have hv := hv.2 c_3
          exact b_P_checkFromToIndex_14 hc hA hE  (lv_sub hl [0, 1, 2, 3] rfl) hK hP hD hS hv
theorem zi_P_checkFromToIndex : Cond.code (⟨"jdk/internal/util/Preconditions", "checkFromToIndex", "(IIILjava/util/function/BiFunction;)I"⟩ : MethodName) prog_26_method_12_code 4 (some .int) ∈ zT := zw_638
theorem zh_P_checkFromToIndex : (((⟨"jdk/internal/util/Preconditions", "checkFromToIndex", "(IIILjava/util/function/BiFunction;)I"⟩ : MethodName)).cls ≠ "java/lang/invoke/MethodHandle" ∧ ((⟨"jdk/internal/util/Preconditions", "checkFromToIndex", "(IIILjava/util/function/BiFunction;)I"⟩ : MethodName)).cls ≠ "java/lang/invoke/VarHandle" ∧ (parseMethodDescriptor ((⟨"jdk/internal/util/Preconditions", "checkFromToIndex", "(IIILjava/util/function/BiFunction;)I"⟩ : MethodName)).desc).map (fun d => d.parameters.length) = some 4) := by decide +kernel
set_option maxHeartbeats 4000000 in
set_option maxRecDepth 100000 in
theorem m_P_checkFromToIndex (l : Launch) (dC : Nat → ClassId) (dI : Nat → Nat → Nat) {gE : zG} {g3 : Option Nat} {x0 : Int32} {x1 : Int32} {x2 : Int32} {sz : Nat} {Z : Int32 → Unit → Prop} (hv : v_P_checkFromToIndex_0 x0 x1 x2 Z) : Met l (⟨"jdk/internal/util/Preconditions", "checkFromToIndex", "(IIILjava/util/function/BiFunction;)I"⟩ : MethodName) (Cond.code (⟨"jdk/internal/util/Preconditions", "checkFromToIndex", "(IIILjava/util/function/BiFunction;)I"⟩ : MethodName) prog_26_method_12_code 4 (some .int) :: zT) { frames := 0, cells := 0, slots := 0, locals := 0 } (zPc gE (dC, dI) zCl [] [.int x0, .int x1, .int x2, va_rf g3] sz []) (va_Qi Z (zB (dC, dI) zCl [] (va_A [] sz) (fun u : Unit => [])) (va_A [] sz)) 0 0 (va_A [] sz) := by
  refine va_MetF (cc := prog_26_method_12_code) (maxL := 4) (ret := (some .int)) (by decide +kernel) rfl ?_
  intro p e s m args below meth c s₁ B hml hp
  obtain ⟨rfl, hsz, hP, hK, hD0, hE⟩ := hp
  have hts := atoms_spec (ws := (Cond.code (⟨"jdk/internal/util/Preconditions", "checkFromToIndex", "(IIILjava/util/function/BiFunction;)I"⟩ : MethodName) prog_26_method_12_code 4 (some .int) :: zT)) B.pre
  have hown : s.vm.findClass "jdk/internal/util/Preconditions" = some m.cls := findClass_of_methodNamed B.named
  have hc : zC p s m _ meth c prog_26_method_12_code (some .int) 4 "jdk/internal/util/Preconditions" := ⟨B.exec, B.bytes, B.returns, hml, hown, fun w h => hts w (List.mem_cons_of_mem _ h), B.notSynchronized⟩
  subst hsz
  have hD := hD0.self (sz := s.heap.size)
  generalize hAe : va_A [] s.heap.size = A at hD hE ⊢
  have hA : ∀ q : Nat, s.heap.size ≤ q → A q := fun q h => by rw [← hAe]; exact Or.inr h
  rcases g3 with _ | g3
  · have hl := lv_entry ([.int x0, .int x1, .int x2, va_rf none]) (n := 4) (Nat.le_of_ble_eq_true rfl)
    rw [lg_entry_eq]
    exact b_P_checkFromToIndex_0 hc hA hE hl hK hP hD va_S.rf hv
  · have hl := lv_entry ([.int x0, .int x1, .int x2, va_rf (some g3)]) (n := 4) (Nat.le_of_ble_eq_true rfl)
    rw [lg_entry_eq]
    exact b_P_checkFromToIndex_0 hc hA hE hl hK hP hD va_S.rf hv

theorem d_S_checkBoundsBeginEnd_0 : decode prog_21_method_158_code 0 = .ok (.iload_n 0, 1) := by decide +kernel
theorem d_S_checkBoundsBeginEnd_1 : decode prog_21_method_158_code 1 = .ok (.iload_n 1, 1) := by decide +kernel
theorem d_S_checkBoundsBeginEnd_2 : decode prog_21_method_158_code 2 = .ok (.iload_n 2, 1) := by decide +kernel
theorem d_S_checkBoundsBeginEnd_3 : decode prog_21_method_158_code 3 = .ok (.getstatic 1053, 3) := by decide +kernel
theorem d_S_checkBoundsBeginEnd_6 : decode prog_21_method_158_code 6 = .ok (.invokestatic 1062, 3) := by decide +kernel
theorem d_S_checkBoundsBeginEnd_9 : decode prog_21_method_158_code 9 = .ok (.pop, 1) := by decide +kernel
theorem d_S_checkBoundsBeginEnd_10 : decode prog_21_method_158_code 10 = .ok (.return_, 1) := by decide +kernel
set_option maxHeartbeats 4000000 in
set_option maxRecDepth 100000 in
theorem b_S_checkBoundsBeginEnd_9  {s0 : Int32}  {Z : Unit → Prop} {H : Heap} {locs : List Loc} {ls : Array Slot} (hc : zC p s m args meth c prog_21_method_158_code none 3 "java/lang/String") (hA : ∀ q : Nat, s.heap.size ≤ q → A q) (hE : zE gE A s) (hl : lv_has ls 3 []) (hK : va_K (dC, dI) zCl [] s) (hP : va_P (dC, dI) zCl [] H) (hD : va_D A []) (hS : va_S A s.heap H locs) (hv : v_S_checkBoundsBeginEnd_9 s0  Z) : W p l e (headSpec (Cond.code (⟨"java/lang/String", "checkBoundsBeginEnd", "(III)V"⟩ : MethodName) prog_21_method_158_code 3 none :: zT) { frames := 1, cells := 0, slots := 0, locals := 23 }).room s m args below meth c H locs 0 0 (MQ below (va_Qv Z (zB (dC, dI) zCl [] A (fun u : Unit => [])) A) args s 0 0 A) (F0 m 9 ls [.int s0]) := by
  obtain ⟨hx, hb, hr, hml, hown, ht, hlocks⟩ := id hc
  unfold v_S_checkBoundsBeginEnd_9 at hv
  refine lv_pop hx hb d_S_checkBoundsBeginEnd_9 rfl ?_
  exact W.vret hx hb hr (fun t ht hW => ⟨⟨(), rfl, hv, ⟨by rw [ht]; exact hP, va_K.moved hW.alike hK, hD⟩⟩, hS.F ht⟩) hS.2.2 d_S_checkBoundsBeginEnd_10
set_option maxHeartbeats 4000000 in
set_option maxRecDepth 100000 in
theorem b_S_checkBoundsBeginEnd_0  {x0 : Int32} {x1 : Int32} {x2 : Int32}  {Z : Unit → Prop} {H : Heap} {locs : List Loc} {ls : Array Slot} (hc : zC p s m args meth c prog_21_method_158_code none 3 "java/lang/String") (hA : ∀ q : Nat, s.heap.size ≤ q → A q) (hE : zE gE A s) (hl : lv_has ls 3 [(0, .int x0), (1, .int x1), (2, .int x2)]) (hK : va_K (dC, dI) zCl [] s) (hP : va_P (dC, dI) zCl [] H) (hD : va_D A []) (hS : va_S A s.heap H locs) (hv : v_S_checkBoundsBeginEnd_0 x0 x1 x2  Z) : W p l e (headSpec (Cond.code (⟨"java/lang/String", "checkBoundsBeginEnd", "(III)V"⟩ : MethodName) prog_21_method_158_code 3 none :: zT) { frames := 1, cells := 0, slots := 0, locals := 23 }).room s m args below meth c H locs 0 0 (MQ below (va_Qv Z (zB (dC, dI) zCl [] A (fun u : Unit => [])) A) args s 0 0 A) (F0 m 0 ls []) := by
  obtain ⟨hx, hb, hr, hml, hown, ht, hlocks⟩ := id hc
  unfold v_S_checkBoundsBeginEnd_0 at hv
  refine lv_iload_n hx hb d_S_checkBoundsBeginEnd_0 rfl (lv_at hl 0 rfl) ?_
  refine lv_iload_n hx hb d_S_checkBoundsBeginEnd_1 rfl (lv_at hl 1 rfl) ?_
  refine lv_iload_n hx hb d_S_checkBoundsBeginEnd_2 rfl (lv_at hl 2 rfl) ?_
  refine va_gets hx hb hE.form hS hown (ht _ zw_571) (fun _ h9 => h9) d_S_checkBoundsBeginEnd_3 ?_
  refine z_calli (wc := []) (wr := []) [] [] (va_runS (As := [.int x0, .int x1, .int x2, va_rf gE.2.2.2]) (rest := []) ⟨hx, hb, hml, hown, ht⟩ (m_P_checkFromToIndex l dC dI hv) ⟨(callB_of 4 ht (zG_in zi_P_checkFromToIndex) rfl rfl rfl (ht _ zw_131) (ht _ zw_636) zh_P_checkFromToIndex ⟨Nat.le_of_ble_eq_true rfl, Nat.le_of_ble_eq_true rfl⟩), (ht _ zw_637)⟩ ⟨zPc_blind, zPc_pre hP hK hD hS hA hE [] [] rfl rfl (by decide) rfl⟩ rfl rfl hl.1 rfl (lv_room (Nat.le_of_ble_eq_true rfl)) d_S_checkBoundsBeginEnd_6 ⟨Nat.le_of_ble_eq_true rfl, Nat.le_of_ble_eq_true rfl⟩) hP hD hS hA rfl rfl (by decide) (by decide) (fun r u H locs hv hP hD hS => ?_)
  have hP : va_P (dC, dI) zCl [] H := hP.sub [] rfl
  have hD : va_D A [] := hD.sub [] (by decide) rfl
  exact b_S_checkBoundsBeginEnd_9 hc hA hE  (lv_sub hl [] rfl) hK hP hD hS hv
theorem zi_S_checkBoundsBeginEnd : Cond.code (⟨"java/lang/String", "checkBoundsBeginEnd", "(III)V"⟩ : MethodName) prog_21_method_158_code 3 none ∈ zT := zw_635
theorem zh_S_checkBoundsBeginEnd : (((⟨"java/lang/String", "checkBoundsBeginEnd", "(III)V"⟩ : MethodName)).cls ≠ "java/lang/invoke/MethodHandle" ∧ ((⟨"java/lang/String", "checkBoundsBeginEnd", "(III)V"⟩ : MethodName)).cls ≠ "java/lang/invoke/VarHandle" ∧ (parseMethodDescriptor ((⟨"java/lang/String", "checkBoundsBeginEnd", "(III)V"⟩ : MethodName)).desc).map (fun d => d.parameters.length) = some 3) := by decide +kernel
set_option maxHeartbeats 4000000 in
set_option maxRecDepth 100000 in
theorem m_S_checkBoundsBeginEnd (l : Launch) (dC : Nat → ClassId) (dI : Nat → Nat → Nat) {gE : zG}  {x0 : Int32} {x1 : Int32} {x2 : Int32} {sz : Nat} {Z : Unit → Prop} (hv : v_S_checkBoundsBeginEnd_0 x0 x1 x2 Z) : Met l (⟨"java/lang/String", "checkBoundsBeginEnd", "(III)V"⟩ : MethodName) (Cond.code (⟨"java/lang/String", "checkBoundsBeginEnd", "(III)V"⟩ : MethodName) prog_21_method_158_code 3 none :: zT) { frames := 1, cells := 0, slots := 0, locals := 23 } (zPc gE (dC, dI) zCl [] [.int x0, .int x1, .int x2] sz []) (va_Qv Z (zB (dC, dI) zCl [] (va_A [] sz) (fun u : Unit => [])) (va_A [] sz)) 0 0 (va_A [] sz) := by
  refine va_MetF (cc := prog_21_method_158_code) (maxL := 3) (ret := none) (by decide +kernel) rfl ?_
  intro p e s m args below meth c s₁ B hml hp
  obtain ⟨rfl, hsz, hP, hK, hD0, hE⟩ := hp
  have hts := atoms_spec (ws := (Cond.code (⟨"java/lang/String", "checkBoundsBeginEnd", "(III)V"⟩ : MethodName) prog_21_method_158_code 3 none :: zT)) B.pre
  have hown : s.vm.findClass "java/lang/String" = some m.cls := findClass_of_methodNamed B.named
  have hc : zC p s m _ meth c prog_21_method_158_code none 3 "java/lang/String" := ⟨B.exec, B.bytes, B.returns, hml, hown, fun w h => hts w (List.mem_cons_of_mem _ h), B.notSynchronized⟩
  subst hsz
  have hD := hD0.self (sz := s.heap.size)
  generalize hAe : va_A [] s.heap.size = A at hD hE ⊢
  have hA : ∀ q : Nat, s.heap.size ≤ q → A q := fun q h => by rw [← hAe]; exact Or.inr h
  have hl := lv_entry ([.int x0, .int x1, .int x2]) (n := 3) (Nat.le_of_ble_eq_true rfl)
  rw [lg_entry_eq]
  exact b_S_checkBoundsBeginEnd_0 hc hA hE hl hK hP hD va_S.rf hv
theorem d_ND_type_40 : decode prog_1_method_2_code 40 = .ok (.dup, 1) := by decide +kernel
theorem d_ND_type_41 : decode prog_1_method_2_code 41 = .ok (.ldc 50, 2) := by decide +kernel
theorem d_ND_type_43 : decode prog_1_method_2_code 43 = .ok (.invokespecial 52, 3) := by decide +kernel
theorem d_ND_type_46 : decode prog_1_method_2_code 46 = .ok (.athrow, 1) := by decide +kernel
set_option maxHeartbeats 4000000 in
set_option maxRecDepth 100000 in
theorem b_ND_typeT1_37 {h0 : Nat} {a0_2 : Nat} {a0_3 : Nat} {a0_4 : Nat} {a0_5 : Nat} {a0_6 : Nat} {h1 : Nat} {cA1 : ClassId} {I0 : Nat → Int32} {n1 : Nat} {f1 : Nat → Int32}  {Z : Unit → Prop} {H : Heap} {locs : List Loc} {ls : Array Slot} (hc : zC p s m args meth c prog_1_method_2_code (some .int) 5 "NumberDress") (hA : ∀ q : Nat, s.heap.size ≤ q → A q) (hE : zE gE A s) (hlt : l.stackTraces = false) (hemp : c.exceptionTable.isEmpty = true) (hl : lv_has ls 5 []) (hK : va_K (dC, dI) zCl [(cA1, .char)] s) (hP : va_P (dC, dI) zCl [(h0, .inr (0, o_ND I0 h1 a0_2 a0_3 a0_4 a0_5 a0_6)), (h1, .inl (cA1, n1, .inl f1))] H) (hD : va_D A [(h0, .inr (0, o_ND I0 h1 a0_2 a0_3 a0_4 a0_5 a0_6)), (h1, .inl (cA1, n1, .inl f1))]) (hS : va_S A s.heap H locs) (eH : H = s.heap) (eL : locs = []) (hv : v_ND_typeT1_37 I0 n1 f1  Z) : W p l e (headSpec (Cond.code (⟨"NumberDress", "type", "(I)I"⟩ : MethodName) prog_1_method_2_code 5 (some .int) :: zT) { frames := 6, cells := 1, slots := 6, locals := 82 }).room s m args below meth c H locs 0 0 (zTQ below s "java/lang/IllegalArgumentException") (F0 m 37 ls []) := by
  obtain ⟨hx, hb, hr, hml, hown, ht, hlocks⟩ := id hc
  unfold v_ND_typeT1_37 at hv
  subst eH
  subst eL
  refine W.newc hx hb hown (ht _ zw_1148) (ht _ zw_1149) (ht _ zw_126) (g := F0 m 37 ls []) rfl d_ND_type_37 (Nat.le_of_ble_eq_true rfl) (Nat.le_of_ble_eq_true rfl) (fun cC kC h1 h2 h3 h4 => ?_)
  refine W.eq (g2 := F0 m 40 ls [.ref s.heap.size]) rfl ?_
  refine lv_dup hx hb d_ND_type_40 rfl ?_
  refine va_ldcS hx hb hown (hE.str (i := 32) (by decide)) d_ND_type_41 ?_
  exact z_throwEnd hx hb hlt hlocks hemp (hl.1.trans hml.symm) hown (names := zUp) (by decide +kernel) (by decide +kernel) (fun a ha => hE.xs.all _ a (List.mem_append_left _ ha)) h1 h2 d_ND_type_43 d_ND_type_46 (Nat.le_of_ble_eq_true rfl) (Nat.le_of_ble_eq_true rfl)
set_option maxHeartbeats 4000000 in
set_option maxRecDepth 100000 in
theorem b_ND_typeT1_55 {h0 : Nat} {a0_2 : Nat} {a0_3 : Nat} {a0_4 : Nat} {a0_5 : Nat} {a0_6 : Nat} {h1 : Nat} {cA1 : ClassId} {I0 : Nat → Int32} {n1 : Nat} {f1 : Nat → Int32} {x1 : Int32} {x2 : Int32} {x3 : Int32} {k5 : Int32 → Int32 → Prop} {Z : Unit → Prop} {H : Heap} {locs : List Loc} {ls : Array Slot} (hc : zC p s m args meth c prog_1_method_2_code (some .int) 5 "NumberDress") (hA : ∀ q : Nat, s.heap.size ≤ q → A q) (hE : zE gE A s) (hlt : l.stackTraces = false) (hemp : c.exceptionTable.isEmpty = true) (hk5 : ∀ (x2 : Int32) (x3 : Int32) (H : Heap) (locs : List Loc) (ls : Array Slot), lv_has ls 5 [(0, .ref h0), (1, .int x1), (2, .int x2), (3, .int x3)] → va_K (dC, dI) zCl [(cA1, .char)] s → va_P (dC, dI) zCl [(h0, .inr (0, o_ND I0 h1 a0_2 a0_3 a0_4 a0_5 a0_6)), (h1, .inl (cA1, n1, .inl f1))] H → va_D A [(h0, .inr (0, o_ND I0 h1 a0_2 a0_3 a0_4 a0_5 a0_6)), (h1, .inl (cA1, n1, .inl f1))] → va_S A s.heap H locs → H = s.heap → locs = [] → k5 x2 x3 → W p l e (headSpec (Cond.code (⟨"NumberDress", "type", "(I)I"⟩ : MethodName) prog_1_method_2_code 5 (some .int) :: zT) { frames := 6, cells := 1, slots := 6, locals := 82 }).room s m args below meth c H locs 0 0 (zTQ below s "java/lang/IllegalArgumentException") (F0 m 5 ls [])) (hl : lv_has ls 5 [(0, .ref h0), (1, .int x1), (2, .int x2), (3, .int x3)]) (hK : va_K (dC, dI) zCl [(cA1, .char)] s) (hP : va_P (dC, dI) zCl [(h0, .inr (0, o_ND I0 h1 a0_2 a0_3 a0_4 a0_5 a0_6)), (h1, .inl (cA1, n1, .inl f1))] H) (hD : va_D A [(h0, .inr (0, o_ND I0 h1 a0_2 a0_3 a0_4 a0_5 a0_6)), (h1, .inl (cA1, n1, .inl f1))]) (hS : va_S A s.heap H locs) (eH : H = s.heap) (eL : locs = []) (hv : v_ND_typeT1_55 I0 n1 f1 x1 x2 x3 k5 Z) : W p l e (headSpec (Cond.code (⟨"NumberDress", "type", "(I)I"⟩ : MethodName) prog_1_method_2_code 5 (some .int) :: zT) { frames := 6, cells := 1, slots := 6, locals := 82 }).room s m args below meth c H locs 0 0 (zTQ below s "java/lang/IllegalArgumentException") (F0 m 55 ls []) := by
  obtain ⟨hx, hb, hr, hml, hown, ht, hlocks⟩ := id hc
  unfold v_ND_typeT1_55 at hv
  refine lv_iinc (v := (x3 + (-8 : Int32))) (lv' := [(3, .int (x3 + (-8 : Int32))), (0, .ref h0), (1, .int x1), (2, .int x2)]) hx hb d_ND_type_55 hl (k := 3) rfl rfl (by decide) rfl (fun ls hl => ?_)
  refine lv_goto (tgt := 5) hx hb d_ND_type_58 (by decide) ?_
  exact hk5 x2 (x3 + (-8 : Int32)) _ _ _ (lv_sub hl [1, 2, 3, 0] rfl) hK hP hD hS eH eL hv
set_option maxHeartbeats 4000000 in
set_option maxRecDepth 100000 in
theorem b_ND_typeT1_47 {h0 : Nat} {a0_2 : Nat} {a0_3 : Nat} {a0_4 : Nat} {a0_5 : Nat} {a0_6 : Nat} {h1 : Nat} {cA1 : ClassId} {I0 : Nat → Int32} {n1 : Nat} {f1 : Nat → Int32} {x1 : Int32} {x2 : Int32} {x3 : Int32} {x4 : Int32} {k5 : Int32 → Int32 → Prop} {Z : Unit → Prop} {H : Heap} {locs : List Loc} {ls : Array Slot} (hc : zC p s m args meth c prog_1_method_2_code (some .int) 5 "NumberDress") (hA : ∀ q : Nat, s.heap.size ≤ q → A q) (hE : zE gE A s) (hlt : l.stackTraces = false) (hemp : c.exceptionTable.isEmpty = true) (hk5 : ∀ (x2 : Int32) (x3 : Int32) (H : Heap) (locs : List Loc) (ls : Array Slot), lv_has ls 5 [(0, .ref h0), (1, .int x1), (2, .int x2), (3, .int x3)] → va_K (dC, dI) zCl [(cA1, .char)] s → va_P (dC, dI) zCl [(h0, .inr (0, o_ND I0 h1 a0_2 a0_3 a0_4 a0_5 a0_6)), (h1, .inl (cA1, n1, .inl f1))] H → va_D A [(h0, .inr (0, o_ND I0 h1 a0_2 a0_3 a0_4 a0_5 a0_6)), (h1, .inl (cA1, n1, .inl f1))] → va_S A s.heap H locs → H = s.heap → locs = [] → k5 x2 x3 → W p l e (headSpec (Cond.code (⟨"NumberDress", "type", "(I)I"⟩ : MethodName) prog_1_method_2_code 5 (some .int) :: zT) { frames := 6, cells := 1, slots := 6, locals := 82 }).room s m args below meth c H locs 0 0 (zTQ below s "java/lang/IllegalArgumentException") (F0 m 5 ls [])) (hl : lv_has ls 5 [(0, .ref h0), (1, .int x1), (2, .int x2), (3, .int x3), (4, .int x4)]) (hK : va_K (dC, dI) zCl [(cA1, .char)] s) (hP : va_P (dC, dI) zCl [(h0, .inr (0, o_ND I0 h1 a0_2 a0_3 a0_4 a0_5 a0_6)), (h1, .inl (cA1, n1, .inl f1))] H) (hD : va_D A [(h0, .inr (0, o_ND I0 h1 a0_2 a0_3 a0_4 a0_5 a0_6)), (h1, .inl (cA1, n1, .inl f1))]) (hS : va_S A s.heap H locs) (eH : H = s.heap) (eL : locs = []) (hv : v_ND_typeT1_47 I0 n1 f1 x1 x2 x3 x4 k5 Z) : W p l e (headSpec (Cond.code (⟨"NumberDress", "type", "(I)I"⟩ : MethodName) prog_1_method_2_code 5 (some .int) :: zT) { frames := 6, cells := 1, slots := 6, locals := 82 }).room s m args below meth c H locs 0 0 (zTQ below s "java/lang/IllegalArgumentException") (F0 m 47 ls []) := by
  obtain ⟨hx, hb, hr, hml, hown, ht, hlocks⟩ := id hc
  unfold v_ND_typeT1_47 at hv
  refine lv_iload hx hb d_ND_type_47 (lv_at hl 4 rfl) ?_
  refine lv_if_eq (tgt := 55) hx hb d_ND_type_49 (by decide) (fun c_1 => ?_) (fun c_1 => ?_)
  · have hv := hv.1 c_1
    exact b_ND_typeT1_55 hc hA hE hlt hemp hk5 (lv_sub hl [0, 1, 2, 3] rfl) hK hP hD hS eH eL hv
  · have hv := hv.2 c_1
    refine lv_iinc (v := (x2 + (1 : Int32))) (lv' := [(2, .int (x2 + (1 : Int32))), (0, .ref h0), (1, .int x1), (3, .int x3), (4, .int x4)]) hx hb d_ND_type_52 hl (k := 2) rfl rfl (by decide) rfl (fun ls hl => ?_)
    exact b_ND_typeT1_55 hc hA hE hlt hemp hk5 (lv_sub hl [1, 2, 0, 3] rfl) hK hP hD hS eH eL hv
set_option maxHeartbeats 4000000 in
set_option maxRecDepth 100000 in
theorem b_ND_typeT1_144 {h0 : Nat} {a0_2 : Nat} {a0_3 : Nat} {a0_4 : Nat} {a0_5 : Nat} {a0_6 : Nat} {h1 : Nat} {cA1 : ClassId} {I0 : Nat → Int32} {n1 : Nat} {f1 : Nat → Int32} {x1 : Int32} {x3 : Int32} {k85 : Int32 → Prop} {Z : Unit → Prop} {H : Heap} {locs : List Loc} {ls : Array Slot} (hc : zC p s m args meth c prog_1_method_2_code (some .int) 5 "NumberDress") (hA : ∀ q : Nat, s.heap.size ≤ q → A q) (hE : zE gE A s) (hlt : l.stackTraces = false) (hemp : c.exceptionTable.isEmpty = true) (hk85 : ∀ (x3 : Int32) (H : Heap) (locs : List Loc) (ls : Array Slot), lv_has ls 5 [(0, .ref h0), (1, .int x1), (3, .int x3)] → va_K (dC, dI) zCl [(cA1, .char)] s → va_P (dC, dI) zCl [(h0, .inr (0, o_ND I0 h1 a0_2 a0_3 a0_4 a0_5 a0_6)), (h1, .inl (cA1, n1, .inl f1))] H → va_D A [(h0, .inr (0, o_ND I0 h1 a0_2 a0_3 a0_4 a0_5 a0_6)), (h1, .inl (cA1, n1, .inl f1))] → va_S A s.heap H locs → H = s.heap → locs = [] → k85 x3 → W p l e (headSpec (Cond.code (⟨"NumberDress", "type", "(I)I"⟩ : MethodName) prog_1_method_2_code 5 (some .int) :: zT) { frames := 6, cells := 1, slots := 6, locals := 82 }).room s m args below meth c H locs 0 0 (zTQ below s "java/lang/IllegalArgumentException") (F0 m 85 ls [])) (hl : lv_has ls 5 [(0, .ref h0), (1, .int x1), (3, .int x3)]) (hK : va_K (dC, dI) zCl [(cA1, .char)] s) (hP : va_P (dC, dI) zCl [(h0, .inr (0, o_ND I0 h1 a0_2 a0_3 a0_4 a0_5 a0_6)), (h1, .inl (cA1, n1, .inl f1))] H) (hD : va_D A [(h0, .inr (0, o_ND I0 h1 a0_2 a0_3 a0_4 a0_5 a0_6)), (h1, .inl (cA1, n1, .inl f1))]) (hS : va_S A s.heap H locs) (eH : H = s.heap) (eL : locs = []) (hv : v_ND_typeT1_144 I0 n1 f1 x1 x3 k85 Z) : W p l e (headSpec (Cond.code (⟨"NumberDress", "type", "(I)I"⟩ : MethodName) prog_1_method_2_code 5 (some .int) :: zT) { frames := 6, cells := 1, slots := 6, locals := 82 }).room s m args below meth c H locs 0 0 (zTQ below s "java/lang/IllegalArgumentException") (F0 m 144 ls []) := by
  obtain ⟨hx, hb, hr, hml, hown, ht, hlocks⟩ := id hc
  unfold v_ND_typeT1_144 at hv
  refine lv_iinc (v := (x3 + (-8 : Int32))) (lv' := [(3, .int (x3 + (-8 : Int32))), (0, .ref h0), (1, .int x1)]) hx hb d_ND_type_144 hl (k := 2) rfl rfl (by decide) rfl (fun ls hl => ?_)
  refine lv_goto (tgt := 85) hx hb d_ND_type_147 (by decide) ?_
  exact hk85 (x3 + (-8 : Int32)) _ _ _ (lv_sub hl [1, 2, 0] rfl) hK hP hD hS eH eL hv
set_option maxHeartbeats 4000000 in
set_option maxRecDepth 100000 in
theorem b_ND_typeT1_85 {h0 : Nat} {a0_2 : Nat} {a0_3 : Nat} {a0_4 : Nat} {a0_5 : Nat} {a0_6 : Nat} {h1 : Nat} {cA1 : ClassId} {I0 : Nat → Int32} {n1 : Nat} {f1 : Nat → Int32} {x1 : Int32}  {Z : Unit → Prop} (hc : zC p s m args meth c prog_1_method_2_code (some .int) 5 "NumberDress") (hA : ∀ q : Nat, s.heap.size ≤ q → A q) (hE : zE gE A s) (hlt : l.stackTraces = false) (hemp : c.exceptionTable.isEmpty = true) : ∀ (N : Nat) (x3 : Int32) (H : Heap) (locs : List Loc) (ls : Array Slot), lv_has ls 5 [(0, .ref h0), (1, .int x1), (3, .int x3)] → va_K (dC, dI) zCl [(cA1, .char)] s → va_P (dC, dI) zCl [(h0, .inr (0, o_ND I0 h1 a0_2 a0_3 a0_4 a0_5 a0_6)), (h1, .inl (cA1, n1, .inl f1))] H → va_D A [(h0, .inr (0, o_ND I0 h1 a0_2 a0_3 a0_4 a0_5 a0_6)), (h1, .inl (cA1, n1, .inl f1))] → va_S A s.heap H locs → H = s.heap → locs = [] → v_ND_typeT1_85 I0 n1 f1 x1  Z N x3 → W p l e (headSpec (Cond.code (⟨"NumberDress", "type", "(I)I"⟩ : MethodName) prog_1_method_2_code 5 (some .int) :: zT) { frames := 6, cells := 1, slots := 6, locals := 82 }).room s m args below meth c H locs 0 0 (zTQ below s "java/lang/IllegalArgumentException") (F0 m 85 ls []) := by
  obtain ⟨hx, hb, hr, hml, hown, ht, hlocks⟩ := id hc
  intro N
  induction N with
  | zero => intro x3 H locs ls hl hK hP hD hS eH eL hv; exact hv.elim
  | succ N hk85 =>
    intro x3 H locs ls hl hK hP hD hS eH eL hv
    unfold v_ND_typeT1_85 at hv
    refine lv_iload_n hx hb d_ND_type_85 rfl (lv_at hl 2 rfl) ?_
    refine lv_if_lt (tgt := 150) hx hb d_ND_type_86 (by decide) (fun c_1 => ?_) (fun c_1 => ?_)
    · have hv := hv.1 c_1
      refine lv_aload_n hx hb d_ND_type_150 rfl (lv_at hl 0 rfl) ?_
      refine va_get (D := (dC, dI)) (ci := 0) (v := .int (I0 1)) (C := "NumberDress") (T := T_ND) (N := 7) hx hb ht zin_ND hown hK hP 0 rfl rfl 1 (by decide) (ht _ zw_468) (fun _ h9 => h9) rfl d_ND_type_151 ?_
      exact hv.elim
    · have hv := hv.2 c_1
      refine lv_iload_n hx hb d_ND_type_89 rfl (lv_at hl 1 rfl) ?_
      refine lv_iload_n hx hb d_ND_type_90 rfl (lv_at hl 2 rfl) ?_
      refine lv_iushr hx hb d_ND_type_91 rfl ?_
      refine lv_sipush (v := (255 : Int32)) hx hb d_ND_type_92 (by decide) ?_
      refine lv_iand hx hb d_ND_type_95 ?_
      refine lv_topi (fun y_2 ey_2 => ?_)
      have hv := hv y_2 ey_2
      refine lv_istore (lv' := [(4, .int y_2), (0, .ref h0), (1, .int x1), (3, .int x3)]) hx hb d_ND_type_96 hl (by decide) rfl (fun ls hl => ?_)
      refine lv_iload hx hb d_ND_type_98 (lv_at hl 0 rfl) ?_
      refine lv_if_eq (tgt := 144) hx hb d_ND_type_100 (by decide) (fun c_3 => ?_) (fun c_3 => ?_)
      · have hv := hv.1 c_3
        exact b_ND_typeT1_144 hc hA hE hlt hemp hk85 (lv_sub hl [1, 2, 3] rfl) hK hP hD hS eH eL hv
      · have hv := hv.2 c_3
        refine lv_aload_n hx hb d_ND_type_103 rfl (lv_at hl 1 rfl) ?_
        refine va_get (D := (dC, dI)) (ci := 0) (v := .int (I0 1)) (C := "NumberDress") (T := T_ND) (N := 7) hx hb ht zin_ND hown hK hP 0 rfl rfl 1 (by decide) (ht _ zw_468) (fun _ h9 => h9) rfl d_ND_type_104 ?_
        refine lv_if_lt (tgt := 144) hx hb d_ND_type_107 (by decide) (fun c_4 => ?_) (fun c_4 => ?_)
        · have hv := hv.1 c_4
          exact b_ND_typeT1_144 hc hA hE hlt hemp hk85 (lv_sub hl [1, 2, 3] rfl) hK hP hD hS eH eL hv
        · have hv := hv.2 c_4
          refine lv_aload_n hx hb d_ND_type_110 rfl (lv_at hl 1 rfl) ?_
          refine va_get (D := (dC, dI)) (ci := 0) (v := .int (I0 1)) (C := "NumberDress") (T := T_ND) (N := 7) hx hb ht zin_ND hown hK hP 0 rfl rfl 1 (by decide) (ht _ zw_468) (fun _ h9 => h9) rfl d_ND_type_111 ?_
          refine lv_aload_n hx hb d_ND_type_114 rfl (lv_at hl 1 rfl) ?_
          refine va_get (D := (dC, dI)) (ci := 0) (v := .ref h1) (C := "NumberDress") (T := T_ND) (N := 7) hx hb ht zin_ND hown hK hP 0 rfl rfl 0 (by decide) (ht _ zw_467) (fun _ h9 => h9) rfl d_ND_type_115 ?_
          refine va_alen (v := (nI n1)) hx hb hK hP 1 0 rfl rfl rfl d_ND_type_118 ?_
          refine lv_icmp_ge (tgt := 144) hx hb d_ND_type_119 (by decide) (fun c_5 => ?_) (fun c_5 => ?_)
          · have hv := hv.1 c_5
            exact b_ND_typeT1_144 hc hA hE hlt hemp hk85 (lv_sub hl [1, 2, 3] rfl) hK hP hD hS eH eL hv
          · have hv := hv.2 c_5
            refine lv_aload_n hx hb d_ND_type_122 rfl (lv_at hl 1 rfl) ?_
            refine va_get (D := (dC, dI)) (ci := 0) (v := .ref h1) (C := "NumberDress") (T := T_ND) (N := 7) hx hb ht zin_ND hown hK hP 0 rfl rfl 0 (by decide) (ht _ zw_467) (fun _ h9 => h9) rfl d_ND_type_123 ?_
            refine lv_aload_n hx hb d_ND_type_126 rfl (lv_at hl 1 rfl) ?_
            refine va_get (D := (dC, dI)) (ci := 0) (v := .int (I0 1)) (C := "NumberDress") (T := T_ND) (N := 7) hx hb ht zin_ND hown hK hP 0 rfl rfl 1 (by decide) (ht _ zw_468) (fun _ h9 => h9) rfl d_ND_type_127 ?_
            refine lv_iload hx hb d_ND_type_130 (lv_at hl 0 rfl) ?_
            refine lv_i2c (v := (y_2.toUInt32 % 65536).toInt32) hx hb d_ND_type_132 rfl ?_
            exact hv.elim
set_option maxHeartbeats 4000000 in
set_option maxRecDepth 100000 in
theorem b_ND_typeT1_5 {h0 : Nat} {a0_2 : Nat} {a0_3 : Nat} {a0_4 : Nat} {a0_5 : Nat} {a0_6 : Nat} {h1 : Nat} {cA1 : ClassId} {I0 : Nat → Int32} {n1 : Nat} {f1 : Nat → Int32} {x1 : Int32}  {Z : Unit → Prop} (hc : zC p s m args meth c prog_1_method_2_code (some .int) 5 "NumberDress") (hA : ∀ q : Nat, s.heap.size ≤ q → A q) (hE : zE gE A s) (hlt : l.stackTraces = false) (hemp : c.exceptionTable.isEmpty = true) : ∀ (N : Nat) (x2 : Int32) (x3 : Int32) (H : Heap) (locs : List Loc) (ls : Array Slot), lv_has ls 5 [(0, .ref h0), (1, .int x1), (2, .int x2), (3, .int x3)] → va_K (dC, dI) zCl [(cA1, .char)] s → va_P (dC, dI) zCl [(h0, .inr (0, o_ND I0 h1 a0_2 a0_3 a0_4 a0_5 a0_6)), (h1, .inl (cA1, n1, .inl f1))] H → va_D A [(h0, .inr (0, o_ND I0 h1 a0_2 a0_3 a0_4 a0_5 a0_6)), (h1, .inl (cA1, n1, .inl f1))] → va_S A s.heap H locs → H = s.heap → locs = [] → v_ND_typeT1_5 I0 n1 f1 x1  Z N x2 x3 → W p l e (headSpec (Cond.code (⟨"NumberDress", "type", "(I)I"⟩ : MethodName) prog_1_method_2_code 5 (some .int) :: zT) { frames := 6, cells := 1, slots := 6, locals := 82 }).room s m args below meth c H locs 0 0 (zTQ below s "java/lang/IllegalArgumentException") (F0 m 5 ls []) := by
  obtain ⟨hx, hb, hr, hml, hown, ht, hlocks⟩ := id hc
  intro N
  induction N with
  | zero => intro x2 x3 H locs ls hl hK hP hD hS eH eL hv; exact hv.elim
  | succ N hk5 =>
    intro x2 x3 H locs ls hl hK hP hD hS eH eL hv
    unfold v_ND_typeT1_5 at hv
    refine lv_iload_n hx hb d_ND_type_5 rfl (lv_at hl 3 rfl) ?_
    refine lv_if_lt (tgt := 61) hx hb d_ND_type_6 (by decide) (fun c_1 => ?_) (fun c_1 => ?_)
    · have hv := hv.1 c_1
      refine lv_aload_n hx hb d_ND_type_61 rfl (lv_at hl 0 rfl) ?_
      refine va_get (D := (dC, dI)) (ci := 0) (v := .int (I0 1)) (C := "NumberDress") (T := T_ND) (N := 7) hx hb ht zin_ND hown hK hP 0 rfl rfl 1 (by decide) (ht _ zw_468) (fun _ h9 => h9) rfl d_ND_type_62 ?_
      refine lv_iload_n hx hb d_ND_type_65 rfl (lv_at hl 2 rfl) ?_
      refine lv_iadd hx hb d_ND_type_66 ?_
      refine lv_bipush (v := (64 : Int32)) hx hb d_ND_type_67 (by decide) ?_
      refine lv_icmp_le (tgt := 82) hx hb d_ND_type_69 (by decide) (fun c_2 => ?_) (fun c_2 => ?_)
      · have hv := hv.1 c_2
        refine lv_bipush (v := (24 : Int32)) hx hb d_ND_type_82 (by decide) ?_
        refine lv_istore_n (lv' := [(3, .int (24 : Int32)), (0, .ref h0), (1, .int x1), (2, .int x2)]) hx hb d_ND_type_84 rfl hl (by decide) rfl (fun ls hl => ?_)
        obtain ⟨Nx, hv⟩ := hv
        exact b_ND_typeT1_85 hc hA hE hlt hemp  Nx (24 : Int32) _ _ _ (lv_sub hl [1, 2, 0] rfl) hK hP hD hS eH eL hv
      · have hv := hv.2 c_2
        exact hv.elim
    · have hv := hv.2 c_1
      refine lv_iload_n hx hb d_ND_type_9 rfl (lv_at hl 1 rfl) ?_
      refine lv_iload_n hx hb d_ND_type_10 rfl (lv_at hl 3 rfl) ?_
      refine lv_iushr hx hb d_ND_type_11 rfl ?_
      refine lv_sipush (v := (255 : Int32)) hx hb d_ND_type_12 (by decide) ?_
      refine lv_iand hx hb d_ND_type_15 ?_
      refine lv_topi (fun y_3 ey_3 => ?_)
      have hv := hv y_3 ey_3
      refine lv_istore (lv' := [(4, .int y_3), (0, .ref h0), (1, .int x1), (2, .int x2), (3, .int x3)]) hx hb d_ND_type_16 hl (by decide) rfl (fun ls hl => ?_)
      refine lv_iload hx hb d_ND_type_18 (lv_at hl 0 rfl) ?_
      refine lv_if_eq (tgt := 47) hx hb d_ND_type_20 (by decide) (fun c_4 => ?_) (fun c_4 => ?_)
      · have hv := hv.1 c_4
        exact b_ND_typeT1_47 hc hA hE hlt hemp hk5 (lv_sub hl [1, 2, 3, 4, 0] rfl) hK hP hD hS eH eL hv
      · have hv := hv.2 c_4
        refine lv_iload hx hb d_ND_type_23 (lv_at hl 0 rfl) ?_
        refine lv_bipush (v := (32 : Int32)) hx hb d_ND_type_25 (by decide) ?_
        refine lv_icmp_lt (tgt := 37) hx hb d_ND_type_27 (by decide) (fun c_5 => ?_) (fun c_5 => ?_)
        · have hv := hv.1 c_5
          exact b_ND_typeT1_37 hc hA hE hlt hemp  (lv_sub hl [] rfl) hK hP hD hS eH eL hv
        · have hv := hv.2 c_5
          refine lv_iload hx hb d_ND_type_30 (lv_at hl 0 rfl) ?_
          refine lv_bipush (v := (126 : Int32)) hx hb d_ND_type_32 (by decide) ?_
          refine lv_icmp_le (tgt := 47) hx hb d_ND_type_34 (by decide) (fun c_6 => ?_) (fun c_6 => ?_)
          · have hv := hv.1 c_6
            exact b_ND_typeT1_47 hc hA hE hlt hemp hk5 (lv_sub hl [1, 2, 3, 4, 0] rfl) hK hP hD hS eH eL hv
          · have hv := hv.2 c_6
            exact b_ND_typeT1_37 hc hA hE hlt hemp  (lv_sub hl [] rfl) hK hP hD hS eH eL hv
set_option maxHeartbeats 4000000 in
set_option maxRecDepth 100000 in
theorem b_ND_typeT1_0 {h0 : Nat} {a0_2 : Nat} {a0_3 : Nat} {a0_4 : Nat} {a0_5 : Nat} {a0_6 : Nat} {h1 : Nat} {cA1 : ClassId} {I0 : Nat → Int32} {n1 : Nat} {f1 : Nat → Int32} {x1 : Int32}  {Z : Unit → Prop} {H : Heap} {locs : List Loc} {ls : Array Slot} (hc : zC p s m args meth c prog_1_method_2_code (some .int) 5 "NumberDress") (hA : ∀ q : Nat, s.heap.size ≤ q → A q) (hE : zE gE A s) (hlt : l.stackTraces = false) (hemp : c.exceptionTable.isEmpty = true) (hl : lv_has ls 5 [(0, .ref h0), (1, .int x1)]) (hK : va_K (dC, dI) zCl [(cA1, .char)] s) (hP : va_P (dC, dI) zCl [(h0, .inr (0, o_ND I0 h1 a0_2 a0_3 a0_4 a0_5 a0_6)), (h1, .inl (cA1, n1, .inl f1))] H) (hD : va_D A [(h0, .inr (0, o_ND I0 h1 a0_2 a0_3 a0_4 a0_5 a0_6)), (h1, .inl (cA1, n1, .inl f1))]) (hS : va_S A s.heap H locs) (eH : H = s.heap) (eL : locs = []) (hv : v_ND_typeT1_0 I0 n1 f1 x1  Z) : W p l e (headSpec (Cond.code (⟨"NumberDress", "type", "(I)I"⟩ : MethodName) prog_1_method_2_code 5 (some .int) :: zT) { frames := 6, cells := 1, slots := 6, locals := 82 }).room s m args below meth c H locs 0 0 (zTQ below s "java/lang/IllegalArgumentException") (F0 m 0 ls []) := by
  obtain ⟨hx, hb, hr, hml, hown, ht, hlocks⟩ := id hc
  unfold v_ND_typeT1_0 at hv
  refine lv_iconst (v := (0 : Int32)) hx hb d_ND_type_0 (by decide) ?_
  refine lv_istore_n (lv' := [(2, .int (0 : Int32)), (0, .ref h0), (1, .int x1)]) hx hb d_ND_type_1 rfl hl (by decide) rfl (fun ls hl => ?_)
  refine lv_bipush (v := (24 : Int32)) hx hb d_ND_type_2 (by decide) ?_
  refine lv_istore_n (lv' := [(3, .int (24 : Int32)), (2, .int (0 : Int32)), (0, .ref h0), (1, .int x1)]) hx hb d_ND_type_4 rfl hl (by decide) rfl (fun ls hl => ?_)
  obtain ⟨Nx, hv⟩ := hv
  exact b_ND_typeT1_5 hc hA hE hlt hemp  Nx (0 : Int32) (24 : Int32) _ _ _ (lv_sub hl [2, 3, 1, 0] rfl) hK hP hD hS eH eL hv
set_option maxHeartbeats 4000000 in
set_option maxRecDepth 100000 in
theorem m_ND_typeT1 (l : Launch) (hlt : l.stackTraces = false) (dC : Nat → ClassId) (dI : Nat → Nat → Nat) {gE : zG} {h0 : Nat} {a0_2 : Nat} {a0_3 : Nat} {a0_4 : Nat} {a0_5 : Nat} {a0_6 : Nat} {h1 : Nat} {cA1 : ClassId} {I0 : Nat → Int32} {n1 : Nat} {f1 : Nat → Int32} {x1 : Int32} {sz : Nat} (hv : v_ND_typeT1_0 I0 n1 f1 x1 (fun _ => True)) : zMetT l (⟨"NumberDress", "type", "(I)I"⟩ : MethodName) (Cond.code (⟨"NumberDress", "type", "(I)I"⟩ : MethodName) prog_1_method_2_code 5 (some .int) :: zT) { frames := 6, cells := 1, slots := 6, locals := 82 } (zPc gE (dC, dI) zCl [(cA1, .char)] [.ref h0, .int x1] sz [(h0, .inr (0, o_ND I0 h1 a0_2 a0_3 a0_4 a0_5 a0_6)), (h1, .inl (cA1, n1, .inl f1))]) "java/lang/IllegalArgumentException" := by
  refine zMetT.ofW (cc := prog_1_method_2_code) (maxL := 5) (ret := (some .int)) (by decide +kernel) rfl ?_
  intro p e s m args below meth c s₁ B hml hemp hp
  obtain ⟨rfl, hsz, hP, hK, hD0, hE⟩ := hp
  have hts := atoms_spec (ws := (Cond.code (⟨"NumberDress", "type", "(I)I"⟩ : MethodName) prog_1_method_2_code 5 (some .int) :: zT)) B.pre
  have hown : s.vm.findClass "NumberDress" = some m.cls := findClass_of_methodNamed B.named
  have hc : zC p s m _ meth c prog_1_method_2_code (some .int) 5 "NumberDress" := ⟨B.exec, B.bytes, B.returns, hml, hown, fun w h => hts w (List.mem_cons_of_mem _ h), B.notSynchronized⟩
  subst hsz
  have hD := hD0.self (sz := s.heap.size)
  generalize hAe : va_A [(h0, .inr (0, o_ND I0 h1 a0_2 a0_3 a0_4 a0_5 a0_6)), (h1, .inl (cA1, n1, .inl f1))] s.heap.size = A at hD hE
  have hA : ∀ q : Nat, s.heap.size ≤ q → A q := fun q h => by rw [← hAe]; exact Or.inr h
  have hl := lv_entry ([.ref h0, .int x1]) (n := 5) (Nat.le_of_ble_eq_true rfl)
  rw [lg_entry_eq]
  exact b_ND_typeT1_0 hc hA hE hlt hemp hl hK hP hD va_S.rf rfl rfl hv
theorem d_ND_type_75 : decode prog_1_method_2_code 75 = .ok (.dup, 1) := by decide +kernel
theorem d_ND_type_76 : decode prog_1_method_2_code 76 = .ok (.ldc 61, 2) := by decide +kernel
theorem d_ND_type_78 : decode prog_1_method_2_code 78 = .ok (.invokespecial 63, 3) := by decide +kernel
theorem d_ND_type_81 : decode prog_1_method_2_code 81 = .ok (.athrow, 1) := by decide +kernel
set_option maxHeartbeats 4000000 in
set_option maxRecDepth 100000 in
theorem b_ND_typeT2_37 {h0 : Nat} {a0_2 : Nat} {a0_3 : Nat} {a0_4 : Nat} {a0_5 : Nat} {a0_6 : Nat} {h1 : Nat} {cA1 : ClassId} {I0 : Nat → Int32} {n1 : Nat} {f1 : Nat → Int32}  {Z : Unit → Prop} {H : Heap} {locs : List Loc} {ls : Array Slot} (hc : zC p s m args meth c prog_1_method_2_code (some .int) 5 "NumberDress") (hA : ∀ q : Nat, s.heap.size ≤ q → A q) (hE : zE gE A s) (hlt : l.stackTraces = false) (hemp : c.exceptionTable.isEmpty = true) (hl : lv_has ls 5 []) (hK : va_K (dC, dI) zCl [(cA1, .char)] s) (hP : va_P (dC, dI) zCl [(h0, .inr (0, o_ND I0 h1 a0_2 a0_3 a0_4 a0_5 a0_6)), (h1, .inl (cA1, n1, .inl f1))] H) (hD : va_D A [(h0, .inr (0, o_ND I0 h1 a0_2 a0_3 a0_4 a0_5 a0_6)), (h1, .inl (cA1, n1, .inl f1))]) (hS : va_S A s.heap H locs) (eH : H = s.heap) (eL : locs = []) (hv : v_ND_typeT2_37 I0 n1 f1  Z) : W p l e (headSpec (Cond.code (⟨"NumberDress", "type", "(I)I"⟩ : MethodName) prog_1_method_2_code 5 (some .int) :: zT) { frames := 6, cells := 1, slots := 6, locals := 82 }).room s m args below meth c H locs 0 0 (zTQ below s "java/lang/IllegalStateException") (F0 m 37 ls []) := by
  obtain ⟨hx, hb, hr, hml, hown, ht, hlocks⟩ := id hc
  unfold v_ND_typeT2_37 at hv
  exact hv.elim
set_option maxHeartbeats 4000000 in
set_option maxRecDepth 100000 in
theorem b_ND_typeT2_55 {h0 : Nat} {a0_2 : Nat} {a0_3 : Nat} {a0_4 : Nat} {a0_5 : Nat} {a0_6 : Nat} {h1 : Nat} {cA1 : ClassId} {I0 : Nat → Int32} {n1 : Nat} {f1 : Nat → Int32} {x1 : Int32} {x2 : Int32} {x3 : Int32} {k5 : Int32 → Int32 → Prop} {Z : Unit → Prop} {H : Heap} {locs : List Loc} {ls : Array Slot} (hc : zC p s m args meth c prog_1_method_2_code (some .int) 5 "NumberDress") (hA : ∀ q : Nat, s.heap.size ≤ q → A q) (hE : zE gE A s) (hlt : l.stackTraces = false) (hemp : c.exceptionTable.isEmpty = true) (hk5 : ∀ (x2 : Int32) (x3 : Int32) (H : Heap) (locs : List Loc) (ls : Array Slot), lv_has ls 5 [(0, .ref h0), (1, .int x1), (2, .int x2), (3, .int x3)] → va_K (dC, dI) zCl [(cA1, .char)] s → va_P (dC, dI) zCl [(h0, .inr (0, o_ND I0 h1 a0_2 a0_3 a0_4 a0_5 a0_6)), (h1, .inl (cA1, n1, .inl f1))] H → va_D A [(h0, .inr (0, o_ND I0 h1 a0_2 a0_3 a0_4 a0_5 a0_6)), (h1, .inl (cA1, n1, .inl f1))] → va_S A s.heap H locs → H = s.heap → locs = [] → k5 x2 x3 → W p l e (headSpec (Cond.code (⟨"NumberDress", "type", "(I)I"⟩ : MethodName) prog_1_method_2_code 5 (some .int) :: zT) { frames := 6, cells := 1, slots := 6, locals := 82 }).room s m args below meth c H locs 0 0 (zTQ below s "java/lang/IllegalStateException") (F0 m 5 ls [])) (hl : lv_has ls 5 [(0, .ref h0), (1, .int x1), (2, .int x2), (3, .int x3)]) (hK : va_K (dC, dI) zCl [(cA1, .char)] s) (hP : va_P (dC, dI) zCl [(h0, .inr (0, o_ND I0 h1 a0_2 a0_3 a0_4 a0_5 a0_6)), (h1, .inl (cA1, n1, .inl f1))] H) (hD : va_D A [(h0, .inr (0, o_ND I0 h1 a0_2 a0_3 a0_4 a0_5 a0_6)), (h1, .inl (cA1, n1, .inl f1))]) (hS : va_S A s.heap H locs) (eH : H = s.heap) (eL : locs = []) (hv : v_ND_typeT2_55 I0 n1 f1 x1 x2 x3 k5 Z) : W p l e (headSpec (Cond.code (⟨"NumberDress", "type", "(I)I"⟩ : MethodName) prog_1_method_2_code 5 (some .int) :: zT) { frames := 6, cells := 1, slots := 6, locals := 82 }).room s m args below meth c H locs 0 0 (zTQ below s "java/lang/IllegalStateException") (F0 m 55 ls []) := by
  obtain ⟨hx, hb, hr, hml, hown, ht, hlocks⟩ := id hc
  unfold v_ND_typeT2_55 at hv
  refine lv_iinc (v := (x3 + (-8 : Int32))) (lv' := [(3, .int (x3 + (-8 : Int32))), (0, .ref h0), (1, .int x1), (2, .int x2)]) hx hb d_ND_type_55 hl (k := 3) rfl rfl (by decide) rfl (fun ls hl => ?_)
  refine lv_goto (tgt := 5) hx hb d_ND_type_58 (by decide) ?_
  exact hk5 x2 (x3 + (-8 : Int32)) _ _ _ (lv_sub hl [1, 2, 3, 0] rfl) hK hP hD hS eH eL hv
set_option maxHeartbeats 4000000 in
set_option maxRecDepth 100000 in
theorem b_ND_typeT2_47 {h0 : Nat} {a0_2 : Nat} {a0_3 : Nat} {a0_4 : Nat} {a0_5 : Nat} {a0_6 : Nat} {h1 : Nat} {cA1 : ClassId} {I0 : Nat → Int32} {n1 : Nat} {f1 : Nat → Int32} {x1 : Int32} {x2 : Int32} {x3 : Int32} {x4 : Int32} {k5 : Int32 → Int32 → Prop} {Z : Unit → Prop} {H : Heap} {locs : List Loc} {ls : Array Slot} (hc : zC p s m args meth c prog_1_method_2_code (some .int) 5 "NumberDress") (hA : ∀ q : Nat, s.heap.size ≤ q → A q) (hE : zE gE A s) (hlt : l.stackTraces = false) (hemp : c.exceptionTable.isEmpty = true) (hk5 : ∀ (x2 : Int32) (x3 : Int32) (H : Heap) (locs : List Loc) (ls : Array Slot), lv_has ls 5 [(0, .ref h0), (1, .int x1), (2, .int x2), (3, .int x3)] → va_K (dC, dI) zCl [(cA1, .char)] s → va_P (dC, dI) zCl [(h0, .inr (0, o_ND I0 h1 a0_2 a0_3 a0_4 a0_5 a0_6)), (h1, .inl (cA1, n1, .inl f1))] H → va_D A [(h0, .inr (0, o_ND I0 h1 a0_2 a0_3 a0_4 a0_5 a0_6)), (h1, .inl (cA1, n1, .inl f1))] → va_S A s.heap H locs → H = s.heap → locs = [] → k5 x2 x3 → W p l e (headSpec (Cond.code (⟨"NumberDress", "type", "(I)I"⟩ : MethodName) prog_1_method_2_code 5 (some .int) :: zT) { frames := 6, cells := 1, slots := 6, locals := 82 }).room s m args below meth c H locs 0 0 (zTQ below s "java/lang/IllegalStateException") (F0 m 5 ls [])) (hl : lv_has ls 5 [(0, .ref h0), (1, .int x1), (2, .int x2), (3, .int x3), (4, .int x4)]) (hK : va_K (dC, dI) zCl [(cA1, .char)] s) (hP : va_P (dC, dI) zCl [(h0, .inr (0, o_ND I0 h1 a0_2 a0_3 a0_4 a0_5 a0_6)), (h1, .inl (cA1, n1, .inl f1))] H) (hD : va_D A [(h0, .inr (0, o_ND I0 h1 a0_2 a0_3 a0_4 a0_5 a0_6)), (h1, .inl (cA1, n1, .inl f1))]) (hS : va_S A s.heap H locs) (eH : H = s.heap) (eL : locs = []) (hv : v_ND_typeT2_47 I0 n1 f1 x1 x2 x3 x4 k5 Z) : W p l e (headSpec (Cond.code (⟨"NumberDress", "type", "(I)I"⟩ : MethodName) prog_1_method_2_code 5 (some .int) :: zT) { frames := 6, cells := 1, slots := 6, locals := 82 }).room s m args below meth c H locs 0 0 (zTQ below s "java/lang/IllegalStateException") (F0 m 47 ls []) := by
  obtain ⟨hx, hb, hr, hml, hown, ht, hlocks⟩ := id hc
  unfold v_ND_typeT2_47 at hv
  refine lv_iload hx hb d_ND_type_47 (lv_at hl 4 rfl) ?_
  refine lv_if_eq (tgt := 55) hx hb d_ND_type_49 (by decide) (fun c_1 => ?_) (fun c_1 => ?_)
  · have hv := hv.1 c_1
    exact b_ND_typeT2_55 hc hA hE hlt hemp hk5 (lv_sub hl [0, 1, 2, 3] rfl) hK hP hD hS eH eL hv
  · have hv := hv.2 c_1
    refine lv_iinc (v := (x2 + (1 : Int32))) (lv' := [(2, .int (x2 + (1 : Int32))), (0, .ref h0), (1, .int x1), (3, .int x3), (4, .int x4)]) hx hb d_ND_type_52 hl (k := 2) rfl rfl (by decide) rfl (fun ls hl => ?_)
    exact b_ND_typeT2_55 hc hA hE hlt hemp hk5 (lv_sub hl [1, 2, 0, 3] rfl) hK hP hD hS eH eL hv
set_option maxHeartbeats 4000000 in
set_option maxRecDepth 100000 in
theorem b_ND_typeT2_144 {h0 : Nat} {a0_2 : Nat} {a0_3 : Nat} {a0_4 : Nat} {a0_5 : Nat} {a0_6 : Nat} {h1 : Nat} {cA1 : ClassId} {I0 : Nat → Int32} {n1 : Nat} {f1 : Nat → Int32} {x1 : Int32} {x3 : Int32} {k85 : Int32 → Prop} {Z : Unit → Prop} {H : Heap} {locs : List Loc} {ls : Array Slot} (hc : zC p s m args meth c prog_1_method_2_code (some .int) 5 "NumberDress") (hA : ∀ q : Nat, s.heap.size ≤ q → A q) (hE : zE gE A s) (hlt : l.stackTraces = false) (hemp : c.exceptionTable.isEmpty = true) (hk85 : ∀ (x3 : Int32) (H : Heap) (locs : List Loc) (ls : Array Slot), lv_has ls 5 [(0, .ref h0), (1, .int x1), (3, .int x3)] → va_K (dC, dI) zCl [(cA1, .char)] s → va_P (dC, dI) zCl [(h0, .inr (0, o_ND I0 h1 a0_2 a0_3 a0_4 a0_5 a0_6)), (h1, .inl (cA1, n1, .inl f1))] H → va_D A [(h0, .inr (0, o_ND I0 h1 a0_2 a0_3 a0_4 a0_5 a0_6)), (h1, .inl (cA1, n1, .inl f1))] → va_S A s.heap H locs → H = s.heap → locs = [] → k85 x3 → W p l e (headSpec (Cond.code (⟨"NumberDress", "type", "(I)I"⟩ : MethodName) prog_1_method_2_code 5 (some .int) :: zT) { frames := 6, cells := 1, slots := 6, locals := 82 }).room s m args below meth c H locs 0 0 (zTQ below s "java/lang/IllegalStateException") (F0 m 85 ls [])) (hl : lv_has ls 5 [(0, .ref h0), (1, .int x1), (3, .int x3)]) (hK : va_K (dC, dI) zCl [(cA1, .char)] s) (hP : va_P (dC, dI) zCl [(h0, .inr (0, o_ND I0 h1 a0_2 a0_3 a0_4 a0_5 a0_6)), (h1, .inl (cA1, n1, .inl f1))] H) (hD : va_D A [(h0, .inr (0, o_ND I0 h1 a0_2 a0_3 a0_4 a0_5 a0_6)), (h1, .inl (cA1, n1, .inl f1))]) (hS : va_S A s.heap H locs) (eH : H = s.heap) (eL : locs = []) (hv : v_ND_typeT2_144 I0 n1 f1 x1 x3 k85 Z) : W p l e (headSpec (Cond.code (⟨"NumberDress", "type", "(I)I"⟩ : MethodName) prog_1_method_2_code 5 (some .int) :: zT) { frames := 6, cells := 1, slots := 6, locals := 82 }).room s m args below meth c H locs 0 0 (zTQ below s "java/lang/IllegalStateException") (F0 m 144 ls []) := by
  obtain ⟨hx, hb, hr, hml, hown, ht, hlocks⟩ := id hc
  unfold v_ND_typeT2_144 at hv
  refine lv_iinc (v := (x3 + (-8 : Int32))) (lv' := [(3, .int (x3 + (-8 : Int32))), (0, .ref h0), (1, .int x1)]) hx hb d_ND_type_144 hl (k := 2) rfl rfl (by decide) rfl (fun ls hl => ?_)
  refine lv_goto (tgt := 85) hx hb d_ND_type_147 (by decide) ?_
  exact hk85 (x3 + (-8 : Int32)) _ _ _ (lv_sub hl [1, 2, 0] rfl) hK hP hD hS eH eL hv
set_option maxHeartbeats 4000000 in
set_option maxRecDepth 100000 in
theorem b_ND_typeT2_85 {h0 : Nat} {a0_2 : Nat} {a0_3 : Nat} {a0_4 : Nat} {a0_5 : Nat} {a0_6 : Nat} {h1 : Nat} {cA1 : ClassId} {I0 : Nat → Int32} {n1 : Nat} {f1 : Nat → Int32} {x1 : Int32}  {Z : Unit → Prop} (hc : zC p s m args meth c prog_1_method_2_code (some .int) 5 "NumberDress") (hA : ∀ q : Nat, s.heap.size ≤ q → A q) (hE : zE gE A s) (hlt : l.stackTraces = false) (hemp : c.exceptionTable.isEmpty = true) : ∀ (N : Nat) (x3 : Int32) (H : Heap) (locs : List Loc) (ls : Array Slot), lv_has ls 5 [(0, .ref h0), (1, .int x1), (3, .int x3)] → va_K (dC, dI) zCl [(cA1, .char)] s → va_P (dC, dI) zCl [(h0, .inr (0, o_ND I0 h1 a0_2 a0_3 a0_4 a0_5 a0_6)), (h1, .inl (cA1, n1, .inl f1))] H → va_D A [(h0, .inr (0, o_ND I0 h1 a0_2 a0_3 a0_4 a0_5 a0_6)), (h1, .inl (cA1, n1, .inl f1))] → va_S A s.heap H locs → H = s.heap → locs = [] → v_ND_typeT2_85 I0 n1 f1 x1  Z N x3 → W p l e (headSpec (Cond.code (⟨"NumberDress", "type", "(I)I"⟩ : MethodName) prog_1_method_2_code 5 (some .int) :: zT) { frames := 6, cells := 1, slots := 6, locals := 82 }).room s m args below meth c H locs 0 0 (zTQ below s "java/lang/IllegalStateException") (F0 m 85 ls []) := by
  obtain ⟨hx, hb, hr, hml, hown, ht, hlocks⟩ := id hc
  intro N
  induction N with
  | zero => intro x3 H locs ls hl hK hP hD hS eH eL hv; exact hv.elim
  | succ N hk85 =>
    intro x3 H locs ls hl hK hP hD hS eH eL hv
    unfold v_ND_typeT2_85 at hv
    refine lv_iload_n hx hb d_ND_type_85 rfl (lv_at hl 2 rfl) ?_
    refine lv_if_lt (tgt := 150) hx hb d_ND_type_86 (by decide) (fun c_1 => ?_) (fun c_1 => ?_)
    · have hv := hv.1 c_1
      refine lv_aload_n hx hb d_ND_type_150 rfl (lv_at hl 0 rfl) ?_
      refine va_get (D := (dC, dI)) (ci := 0) (v := .int (I0 1)) (C := "NumberDress") (T := T_ND) (N := 7) hx hb ht zin_ND hown hK hP 0 rfl rfl 1 (by decide) (ht _ zw_468) (fun _ h9 => h9) rfl d_ND_type_151 ?_
      exact hv.elim
    · have hv := hv.2 c_1
      refine lv_iload_n hx hb d_ND_type_89 rfl (lv_at hl 1 rfl) ?_
      refine lv_iload_n hx hb d_ND_type_90 rfl (lv_at hl 2 rfl) ?_
      refine lv_iushr hx hb d_ND_type_91 rfl ?_
      refine lv_sipush (v := (255 : Int32)) hx hb d_ND_type_92 (by decide) ?_
      refine lv_iand hx hb d_ND_type_95 ?_
      refine lv_topi (fun y_2 ey_2 => ?_)
      have hv := hv y_2 ey_2
      refine lv_istore (lv' := [(4, .int y_2), (0, .ref h0), (1, .int x1), (3, .int x3)]) hx hb d_ND_type_96 hl (by decide) rfl (fun ls hl => ?_)
      refine lv_iload hx hb d_ND_type_98 (lv_at hl 0 rfl) ?_
      refine lv_if_eq (tgt := 144) hx hb d_ND_type_100 (by decide) (fun c_3 => ?_) (fun c_3 => ?_)
      · have hv := hv.1 c_3
        exact b_ND_typeT2_144 hc hA hE hlt hemp hk85 (lv_sub hl [1, 2, 3] rfl) hK hP hD hS eH eL hv
      · have hv := hv.2 c_3
        refine lv_aload_n hx hb d_ND_type_103 rfl (lv_at hl 1 rfl) ?_
        refine va_get (D := (dC, dI)) (ci := 0) (v := .int (I0 1)) (C := "NumberDress") (T := T_ND) (N := 7) hx hb ht zin_ND hown hK hP 0 rfl rfl 1 (by decide) (ht _ zw_468) (fun _ h9 => h9) rfl d_ND_type_104 ?_
        refine lv_if_lt (tgt := 144) hx hb d_ND_type_107 (by decide) (fun c_4 => ?_) (fun c_4 => ?_)
        · have hv := hv.1 c_4
          exact b_ND_typeT2_144 hc hA hE hlt hemp hk85 (lv_sub hl [1, 2, 3] rfl) hK hP hD hS eH eL hv
        · have hv := hv.2 c_4
          refine lv_aload_n hx hb d_ND_type_110 rfl (lv_at hl 1 rfl) ?_
          refine va_get (D := (dC, dI)) (ci := 0) (v := .int (I0 1)) (C := "NumberDress") (T := T_ND) (N := 7) hx hb ht zin_ND hown hK hP 0 rfl rfl 1 (by decide) (ht _ zw_468) (fun _ h9 => h9) rfl d_ND_type_111 ?_
          refine lv_aload_n hx hb d_ND_type_114 rfl (lv_at hl 1 rfl) ?_
          refine va_get (D := (dC, dI)) (ci := 0) (v := .ref h1) (C := "NumberDress") (T := T_ND) (N := 7) hx hb ht zin_ND hown hK hP 0 rfl rfl 0 (by decide) (ht _ zw_467) (fun _ h9 => h9) rfl d_ND_type_115 ?_
          refine va_alen (v := (nI n1)) hx hb hK hP 1 0 rfl rfl rfl d_ND_type_118 ?_
          refine lv_icmp_ge (tgt := 144) hx hb d_ND_type_119 (by decide) (fun c_5 => ?_) (fun c_5 => ?_)
          · have hv := hv.1 c_5
            exact b_ND_typeT2_144 hc hA hE hlt hemp hk85 (lv_sub hl [1, 2, 3] rfl) hK hP hD hS eH eL hv
          · have hv := hv.2 c_5
            refine lv_aload_n hx hb d_ND_type_122 rfl (lv_at hl 1 rfl) ?_
            refine va_get (D := (dC, dI)) (ci := 0) (v := .ref h1) (C := "NumberDress") (T := T_ND) (N := 7) hx hb ht zin_ND hown hK hP 0 rfl rfl 0 (by decide) (ht _ zw_467) (fun _ h9 => h9) rfl d_ND_type_123 ?_
            refine lv_aload_n hx hb d_ND_type_126 rfl (lv_at hl 1 rfl) ?_
            refine va_get (D := (dC, dI)) (ci := 0) (v := .int (I0 1)) (C := "NumberDress") (T := T_ND) (N := 7) hx hb ht zin_ND hown hK hP 0 rfl rfl 1 (by decide) (ht _ zw_468) (fun _ h9 => h9) rfl d_ND_type_127 ?_
            refine lv_iload hx hb d_ND_type_130 (lv_at hl 0 rfl) ?_
            refine lv_i2c (v := (y_2.toUInt32 % 65536).toInt32) hx hb d_ND_type_132 rfl ?_
            exact hv.elim
set_option maxHeartbeats 4000000 in
set_option maxRecDepth 100000 in
theorem b_ND_typeT2_5 {h0 : Nat} {a0_2 : Nat} {a0_3 : Nat} {a0_4 : Nat} {a0_5 : Nat} {a0_6 : Nat} {h1 : Nat} {cA1 : ClassId} {I0 : Nat → Int32} {n1 : Nat} {f1 : Nat → Int32} {x1 : Int32}  {Z : Unit → Prop} (hc : zC p s m args meth c prog_1_method_2_code (some .int) 5 "NumberDress") (hA : ∀ q : Nat, s.heap.size ≤ q → A q) (hE : zE gE A s) (hlt : l.stackTraces = false) (hemp : c.exceptionTable.isEmpty = true) : ∀ (N : Nat) (x2 : Int32) (x3 : Int32) (H : Heap) (locs : List Loc) (ls : Array Slot), lv_has ls 5 [(0, .ref h0), (1, .int x1), (2, .int x2), (3, .int x3)] → va_K (dC, dI) zCl [(cA1, .char)] s → va_P (dC, dI) zCl [(h0, .inr (0, o_ND I0 h1 a0_2 a0_3 a0_4 a0_5 a0_6)), (h1, .inl (cA1, n1, .inl f1))] H → va_D A [(h0, .inr (0, o_ND I0 h1 a0_2 a0_3 a0_4 a0_5 a0_6)), (h1, .inl (cA1, n1, .inl f1))] → va_S A s.heap H locs → H = s.heap → locs = [] → v_ND_typeT2_5 I0 n1 f1 x1  Z N x2 x3 → W p l e (headSpec (Cond.code (⟨"NumberDress", "type", "(I)I"⟩ : MethodName) prog_1_method_2_code 5 (some .int) :: zT) { frames := 6, cells := 1, slots := 6, locals := 82 }).room s m args below meth c H locs 0 0 (zTQ below s "java/lang/IllegalStateException") (F0 m 5 ls []) := by
  obtain ⟨hx, hb, hr, hml, hown, ht, hlocks⟩ := id hc
  intro N
  induction N with
  | zero => intro x2 x3 H locs ls hl hK hP hD hS eH eL hv; exact hv.elim
  | succ N hk5 =>
    intro x2 x3 H locs ls hl hK hP hD hS eH eL hv
    unfold v_ND_typeT2_5 at hv
    refine lv_iload_n hx hb d_ND_type_5 rfl (lv_at hl 3 rfl) ?_
    refine lv_if_lt (tgt := 61) hx hb d_ND_type_6 (by decide) (fun c_1 => ?_) (fun c_1 => ?_)
    · have hv := hv.1 c_1
      refine lv_aload_n hx hb d_ND_type_61 rfl (lv_at hl 0 rfl) ?_
      refine va_get (D := (dC, dI)) (ci := 0) (v := .int (I0 1)) (C := "NumberDress") (T := T_ND) (N := 7) hx hb ht zin_ND hown hK hP 0 rfl rfl 1 (by decide) (ht _ zw_468) (fun _ h9 => h9) rfl d_ND_type_62 ?_
      refine lv_iload_n hx hb d_ND_type_65 rfl (lv_at hl 2 rfl) ?_
      refine lv_iadd hx hb d_ND_type_66 ?_
      refine lv_bipush (v := (64 : Int32)) hx hb d_ND_type_67 (by decide) ?_
      refine lv_icmp_le (tgt := 82) hx hb d_ND_type_69 (by decide) (fun c_2 => ?_) (fun c_2 => ?_)
      · have hv := hv.1 c_2
        refine lv_bipush (v := (24 : Int32)) hx hb d_ND_type_82 (by decide) ?_
        refine lv_istore_n (lv' := [(3, .int (24 : Int32)), (0, .ref h0), (1, .int x1), (2, .int x2)]) hx hb d_ND_type_84 rfl hl (by decide) rfl (fun ls hl => ?_)
        obtain ⟨Nx, hv⟩ := hv
        exact b_ND_typeT2_85 hc hA hE hlt hemp  Nx (24 : Int32) _ _ _ (lv_sub hl [1, 2, 0] rfl) hK hP hD hS eH eL hv
      · have hv := hv.2 c_2
        subst eH
        subst eL
        refine W.newc hx hb hown (ht _ zw_1214) (ht _ zw_1215) (ht _ zw_127) (g := F0 m 72 ls []) rfl d_ND_type_72 (Nat.le_of_ble_eq_true rfl) (Nat.le_of_ble_eq_true rfl) (fun cC kC h1 h2 h3 h4 => ?_)
        refine W.eq (g2 := F0 m 75 ls [.ref s.heap.size]) rfl ?_
        refine lv_dup hx hb d_ND_type_75 rfl ?_
        refine va_ldcS hx hb hown (hE.str (i := 33) (by decide)) d_ND_type_76 ?_
        exact z_throwEnd hx hb hlt hlocks hemp (hl.1.trans hml.symm) hown (names := zUp) (by decide +kernel) (by decide +kernel) (fun a ha => hE.xs.all _ a (List.mem_append_right _ ha)) h1 h2 d_ND_type_78 d_ND_type_81 (Nat.le_of_ble_eq_true rfl) (Nat.le_of_ble_eq_true rfl)
    · have hv := hv.2 c_1
      refine lv_iload_n hx hb d_ND_type_9 rfl (lv_at hl 1 rfl) ?_
      refine lv_iload_n hx hb d_ND_type_10 rfl (lv_at hl 3 rfl) ?_
      refine lv_iushr hx hb d_ND_type_11 rfl ?_
      refine lv_sipush (v := (255 : Int32)) hx hb d_ND_type_12 (by decide) ?_
      refine lv_iand hx hb d_ND_type_15 ?_
      refine lv_topi (fun y_3 ey_3 => ?_)
      have hv := hv y_3 ey_3
      refine lv_istore (lv' := [(4, .int y_3), (0, .ref h0), (1, .int x1), (2, .int x2), (3, .int x3)]) hx hb d_ND_type_16 hl (by decide) rfl (fun ls hl => ?_)
      refine lv_iload hx hb d_ND_type_18 (lv_at hl 0 rfl) ?_
      refine lv_if_eq (tgt := 47) hx hb d_ND_type_20 (by decide) (fun c_4 => ?_) (fun c_4 => ?_)
      · have hv := hv.1 c_4
        exact b_ND_typeT2_47 hc hA hE hlt hemp hk5 (lv_sub hl [1, 2, 3, 4, 0] rfl) hK hP hD hS eH eL hv
      · have hv := hv.2 c_4
        refine lv_iload hx hb d_ND_type_23 (lv_at hl 0 rfl) ?_
        refine lv_bipush (v := (32 : Int32)) hx hb d_ND_type_25 (by decide) ?_
        refine lv_icmp_lt (tgt := 37) hx hb d_ND_type_27 (by decide) (fun c_5 => ?_) (fun c_5 => ?_)
        · have hv := hv.1 c_5
          exact b_ND_typeT2_37 hc hA hE hlt hemp  (lv_sub hl [] rfl) hK hP hD hS eH eL hv
        · have hv := hv.2 c_5
          refine lv_iload hx hb d_ND_type_30 (lv_at hl 0 rfl) ?_
          refine lv_bipush (v := (126 : Int32)) hx hb d_ND_type_32 (by decide) ?_
          refine lv_icmp_le (tgt := 47) hx hb d_ND_type_34 (by decide) (fun c_6 => ?_) (fun c_6 => ?_)
          · have hv := hv.1 c_6
            exact b_ND_typeT2_47 hc hA hE hlt hemp hk5 (lv_sub hl [1, 2, 3, 4, 0] rfl) hK hP hD hS eH eL hv
          · have hv := hv.2 c_6
            exact b_ND_typeT2_37 hc hA hE hlt hemp  (lv_sub hl [] rfl) hK hP hD hS eH eL hv
set_option maxHeartbeats 4000000 in
set_option maxRecDepth 100000 in
theorem b_ND_typeT2_0 {h0 : Nat} {a0_2 : Nat} {a0_3 : Nat} {a0_4 : Nat} {a0_5 : Nat} {a0_6 : Nat} {h1 : Nat} {cA1 : ClassId} {I0 : Nat → Int32} {n1 : Nat} {f1 : Nat → Int32} {x1 : Int32}  {Z : Unit → Prop} {H : Heap} {locs : List Loc} {ls : Array Slot} (hc : zC p s m args meth c prog_1_method_2_code (some .int) 5 "NumberDress") (hA : ∀ q : Nat, s.heap.size ≤ q → A q) (hE : zE gE A s) (hlt : l.stackTraces = false) (hemp : c.exceptionTable.isEmpty = true) (hl : lv_has ls 5 [(0, .ref h0), (1, .int x1)]) (hK : va_K (dC, dI) zCl [(cA1, .char)] s) (hP : va_P (dC, dI) zCl [(h0, .inr (0, o_ND I0 h1 a0_2 a0_3 a0_4 a0_5 a0_6)), (h1, .inl (cA1, n1, .inl f1))] H) (hD : va_D A [(h0, .inr (0, o_ND I0 h1 a0_2 a0_3 a0_4 a0_5 a0_6)), (h1, .inl (cA1, n1, .inl f1))]) (hS : va_S A s.heap H locs) (eH : H = s.heap) (eL : locs = []) (hv : v_ND_typeT2_0 I0 n1 f1 x1  Z) : W p l e (headSpec (Cond.code (⟨"NumberDress", "type", "(I)I"⟩ : MethodName) prog_1_method_2_code 5 (some .int) :: zT) { frames := 6, cells := 1, slots := 6, locals := 82 }).room s m args below meth c H locs 0 0 (zTQ below s "java/lang/IllegalStateException") (F0 m 0 ls []) := by
  obtain ⟨hx, hb, hr, hml, hown, ht, hlocks⟩ := id hc
  unfold v_ND_typeT2_0 at hv
  refine lv_iconst (v := (0 : Int32)) hx hb d_ND_type_0 (by decide) ?_
  refine lv_istore_n (lv' := [(2, .int (0 : Int32)), (0, .ref h0), (1, .int x1)]) hx hb d_ND_type_1 rfl hl (by decide) rfl (fun ls hl => ?_)
  refine lv_bipush (v := (24 : Int32)) hx hb d_ND_type_2 (by decide) ?_
  refine lv_istore_n (lv' := [(3, .int (24 : Int32)), (2, .int (0 : Int32)), (0, .ref h0), (1, .int x1)]) hx hb d_ND_type_4 rfl hl (by decide) rfl (fun ls hl => ?_)
  obtain ⟨Nx, hv⟩ := hv
  exact b_ND_typeT2_5 hc hA hE hlt hemp  Nx (0 : Int32) (24 : Int32) _ _ _ (lv_sub hl [2, 3, 1, 0] rfl) hK hP hD hS eH eL hv
set_option maxHeartbeats 4000000 in
set_option maxRecDepth 100000 in
theorem m_ND_typeT2 (l : Launch) (hlt : l.stackTraces = false) (dC : Nat → ClassId) (dI : Nat → Nat → Nat) {gE : zG} {h0 : Nat} {a0_2 : Nat} {a0_3 : Nat} {a0_4 : Nat} {a0_5 : Nat} {a0_6 : Nat} {h1 : Nat} {cA1 : ClassId} {I0 : Nat → Int32} {n1 : Nat} {f1 : Nat → Int32} {x1 : Int32} {sz : Nat} (hv : v_ND_typeT2_0 I0 n1 f1 x1 (fun _ => True)) : zMetT l (⟨"NumberDress", "type", "(I)I"⟩ : MethodName) (Cond.code (⟨"NumberDress", "type", "(I)I"⟩ : MethodName) prog_1_method_2_code 5 (some .int) :: zT) { frames := 6, cells := 1, slots := 6, locals := 82 } (zPc gE (dC, dI) zCl [(cA1, .char)] [.ref h0, .int x1] sz [(h0, .inr (0, o_ND I0 h1 a0_2 a0_3 a0_4 a0_5 a0_6)), (h1, .inl (cA1, n1, .inl f1))]) "java/lang/IllegalStateException" := by
  refine zMetT.ofW (cc := prog_1_method_2_code) (maxL := 5) (ret := (some .int)) (by decide +kernel) rfl ?_
  intro p e s m args below meth c s₁ B hml hemp hp
  obtain ⟨rfl, hsz, hP, hK, hD0, hE⟩ := hp
  have hts := atoms_spec (ws := (Cond.code (⟨"NumberDress", "type", "(I)I"⟩ : MethodName) prog_1_method_2_code 5 (some .int) :: zT)) B.pre
  have hown : s.vm.findClass "NumberDress" = some m.cls := findClass_of_methodNamed B.named
  have hc : zC p s m _ meth c prog_1_method_2_code (some .int) 5 "NumberDress" := ⟨B.exec, B.bytes, B.returns, hml, hown, fun w h => hts w (List.mem_cons_of_mem _ h), B.notSynchronized⟩
  subst hsz
  have hD := hD0.self (sz := s.heap.size)
  generalize hAe : va_A [(h0, .inr (0, o_ND I0 h1 a0_2 a0_3 a0_4 a0_5 a0_6)), (h1, .inl (cA1, n1, .inl f1))] s.heap.size = A at hD hE
  have hA : ∀ q : Nat, s.heap.size ≤ q → A q := fun q h => by rw [← hAe]; exact Or.inr h
  have hl := lv_entry ([.ref h0, .int x1]) (n := 5) (Nat.le_of_ble_eq_true rfl)
  rw [lg_entry_eq]
  exact b_ND_typeT2_0 hc hA hE hlt hemp hl hK hP hD va_S.rf rfl rfl hv
theorem d_ND_number_39 : decode prog_1_method_5_code 39 = .ok (.dup, 1) := by decide +kernel
theorem d_ND_number_40 : decode prog_1_method_5_code 40 = .ok (.ldc 78, 2) := by decide +kernel
theorem d_ND_number_42 : decode prog_1_method_5_code 42 = .ok (.invokespecial 52, 3) := by decide +kernel
theorem d_ND_number_45 : decode prog_1_method_5_code 45 = .ok (.athrow, 1) := by decide +kernel
set_option maxHeartbeats 4000000 in
set_option maxRecDepth 100000 in
theorem b_ND_numberT1_36 {h0 : Nat} {a0_0 : Nat} {a0_2 : Nat} {a0_3 : Nat} {a0_5 : Nat} {h1 : Nat} {a1_4 : Nat} {h2 : Nat} {a2_0 : Nat} {I0 : Nat → Int32} {I1 : Nat → Int32} {J1 : Nat → Int64} {I2 : Nat → Int32}  {Z : Unit → Prop} {H : Heap} {locs : List Loc} {ls : Array Slot} (hc : zC p s m args meth c prog_1_method_5_code none 5 "NumberDress") (hA : ∀ q : Nat, s.heap.size ≤ q → A q) (hE : zE gE A s) (hlt : l.stackTraces = false) (hemp : c.exceptionTable.isEmpty = true) (hl : lv_has ls 5 []) (hK : va_K (dC, dI) zCl [] s) (hP : va_P (dC, dI) zCl [(h0, .inr (0, o_ND I0 a0_0 a0_2 a0_3 h1 a0_5 h2)), (h1, .inr (11, o_Value I1 J1 a1_4)), (h2, .inr (6, o_Look I2 a2_0))] H) (hD : va_D A [(h0, .inr (0, o_ND I0 a0_0 a0_2 a0_3 h1 a0_5 h2)), (h1, .inr (11, o_Value I1 J1 a1_4)), (h2, .inr (6, o_Look I2 a2_0))]) (hS : va_S A s.heap H locs) (eH : H = s.heap) (eL : locs = []) (hv : v_ND_numberT1_36 I0 I1 J1 I2  Z) : W p l e (headSpec (Cond.code (⟨"NumberDress", "number", "(ZIII)V"⟩ : MethodName) prog_1_method_5_code 5 none :: zT) { frames := 6, cells := 1, slots := 6, locals := 82 }).room s m args below meth c H locs 0 0 (zTQ below s "java/lang/IllegalArgumentException") (F0 m 36 ls []) := by
  obtain ⟨hx, hb, hr, hml, hown, ht, hlocks⟩ := id hc
  unfold v_ND_numberT1_36 at hv
  subst eH
  subst eL
  refine W.newc hx hb hown (ht _ zw_1148) (ht _ zw_1149) (ht _ zw_126) (g := F0 m 36 ls []) rfl d_ND_number_36 (Nat.le_of_ble_eq_true rfl) (Nat.le_of_ble_eq_true rfl) (fun cC kC h1 h2 h3 h4 => ?_)
  refine W.eq (g2 := F0 m 39 ls [.ref s.heap.size]) rfl ?_
  refine lv_dup hx hb d_ND_number_39 rfl ?_
  refine va_ldcS hx hb hown (hE.str (i := 34) (by decide)) d_ND_number_40 ?_
  exact z_throwEnd hx hb hlt hlocks hemp (hl.1.trans hml.symm) hown (names := zUp) (by decide +kernel) (by decide +kernel) (fun a ha => hE.xs.all _ a (List.mem_append_left _ ha)) h1 h2 d_ND_number_42 d_ND_number_45 (Nat.le_of_ble_eq_true rfl) (Nat.le_of_ble_eq_true rfl)
set_option maxHeartbeats 4000000 in
set_option maxRecDepth 100000 in
theorem b_ND_numberT1_0 {h0 : Nat} {a0_0 : Nat} {a0_2 : Nat} {a0_3 : Nat} {a0_5 : Nat} {h1 : Nat} {a1_4 : Nat} {h2 : Nat} {a2_0 : Nat} {I0 : Nat → Int32} {I1 : Nat → Int32} {J1 : Nat → Int64} {I2 : Nat → Int32} {x1 : Int32} {x2 : Int32} {x3 : Int32} {x4 : Int32}  {Z : Unit → Prop} {H : Heap} {locs : List Loc} {ls : Array Slot} (hc : zC p s m args meth c prog_1_method_5_code none 5 "NumberDress") (hA : ∀ q : Nat, s.heap.size ≤ q → A q) (hE : zE gE A s) (hlt : l.stackTraces = false) (hemp : c.exceptionTable.isEmpty = true) (hl : lv_has ls 5 [(0, .ref h0), (1, .int x1), (2, .int x2), (3, .int x3), (4, .int x4)]) (hK : va_K (dC, dI) zCl [] s) (hP : va_P (dC, dI) zCl [(h0, .inr (0, o_ND I0 a0_0 a0_2 a0_3 h1 a0_5 h2)), (h1, .inr (11, o_Value I1 J1 a1_4)), (h2, .inr (6, o_Look I2 a2_0))] H) (hD : va_D A [(h0, .inr (0, o_ND I0 a0_0 a0_2 a0_3 h1 a0_5 h2)), (h1, .inr (11, o_Value I1 J1 a1_4)), (h2, .inr (6, o_Look I2 a2_0))]) (hS : va_S A s.heap H locs) (eH : H = s.heap) (eL : locs = []) (hv : v_ND_numberT1_0 I0 I1 J1 I2 x1 x2 x3 x4  Z) : W p l e (headSpec (Cond.code (⟨"NumberDress", "number", "(ZIII)V"⟩ : MethodName) prog_1_method_5_code 5 none :: zT) { frames := 6, cells := 1, slots := 6, locals := 82 }).room s m args below meth c H locs 0 0 (zTQ below s "java/lang/IllegalArgumentException") (F0 m 0 ls []) := by
  obtain ⟨hx, hb, hr, hml, hown, ht, hlocks⟩ := id hc
  unfold v_ND_numberT1_0 at hv
  refine lv_iload_n hx hb d_ND_number_0 rfl (lv_at hl 2 rfl) ?_
  refine lv_if_lt (tgt := 36) hx hb d_ND_number_1 (by decide) (fun c_1 => ?_) (fun c_1 => ?_)
  · have hv := hv.1 c_1
    exact b_ND_numberT1_36 hc hA hE hlt hemp  (lv_sub hl [] rfl) hK hP hD hS eH eL hv
  · have hv := hv.2 c_1
    refine lv_iload_n hx hb d_ND_number_4 rfl (lv_at hl 2 rfl) ?_
    refine lv_ldc (v := (99999999 : Int32)) hx hb hown (ht _ zw_1237) d_ND_number_5 ?_
    refine lv_icmp_gt (tgt := 36) hx hb d_ND_number_7 (by decide) (fun c_2 => ?_) (fun c_2 => ?_)
    · have hv := hv.1 c_2
      exact b_ND_numberT1_36 hc hA hE hlt hemp  (lv_sub hl [] rfl) hK hP hD hS eH eL hv
    · have hv := hv.2 c_2
      refine lv_iload_n hx hb d_ND_number_10 rfl (lv_at hl 3 rfl) ?_
      refine lv_if_lt (tgt := 36) hx hb d_ND_number_11 (by decide) (fun c_3 => ?_) (fun c_3 => ?_)
      · have hv := hv.1 c_3
        exact b_ND_numberT1_36 hc hA hE hlt hemp  (lv_sub hl [] rfl) hK hP hD hS eH eL hv
      · have hv := hv.2 c_3
        refine lv_iload_n hx hb d_ND_number_14 rfl (lv_at hl 3 rfl) ?_
        refine lv_ldc (v := (999999999 : Int32)) hx hb hown (ht _ zw_1238) d_ND_number_15 ?_
        refine lv_icmp_gt (tgt := 36) hx hb d_ND_number_17 (by decide) (fun c_4 => ?_) (fun c_4 => ?_)
        · have hv := hv.1 c_4
          exact b_ND_numberT1_36 hc hA hE hlt hemp  (lv_sub hl [] rfl) hK hP hD hS eH eL hv
        · have hv := hv.2 c_4
          refine lv_iload hx hb d_ND_number_20 (lv_at hl 4 rfl) ?_
          refine lv_sipush (v := (-350 : Int32)) hx hb d_ND_number_22 (by decide) ?_
          refine lv_icmp_lt (tgt := 36) hx hb d_ND_number_25 (by decide) (fun c_5 => ?_) (fun c_5 => ?_)
          · have hv := hv.1 c_5
            exact b_ND_numberT1_36 hc hA hE hlt hemp  (lv_sub hl [] rfl) hK hP hD hS eH eL hv
          · have hv := hv.2 c_5
            refine lv_iload hx hb d_ND_number_28 (lv_at hl 4 rfl) ?_
            refine lv_sipush (v := (300 : Int32)) hx hb d_ND_number_30 (by decide) ?_
            refine lv_icmp_le (tgt := 46) hx hb d_ND_number_33 (by decide) (fun c_6 => ?_) (fun c_6 => ?_)
            · have hv := hv.1 c_6
              refine lv_aload_n hx hb d_ND_number_46 rfl (lv_at hl 0 rfl) ?_
              refine va_get (D := (dC, dI)) (ci := 0) (v := .ref h1) (C := "NumberDress") (T := T_ND) (N := 7) hx hb ht zin_ND hown hK hP 0 rfl rfl 4 (by decide) (ht _ zw_471) (fun _ h9 => h9) rfl d_ND_number_47 ?_
              refine lv_iload_n hx hb d_ND_number_50 rfl (lv_at hl 1 rfl) ?_
              refine lv_iload_n hx hb d_ND_number_51 rfl (lv_at hl 2 rfl) ?_
              refine lv_i2l (v := x2.toInt64) hx hb d_ND_number_52 rfl ?_
              refine lv_ldc2 (v := (1000000000 : Int64)) hx hb hown (ht _ zw_1240) d_ND_number_53 ?_
              refine lv_lmul hx hb d_ND_number_56 ?_
              refine lv_iload_n hx hb d_ND_number_57 rfl (lv_at hl 3 rfl) ?_
              refine lv_i2l (v := x3.toInt64) hx hb d_ND_number_58 rfl ?_
              refine lv_ladd hx hb d_ND_number_59 ?_
              refine lv_iload hx hb d_ND_number_60 (lv_at hl 4 rfl) ?_
              exact hv.elim
            · have hv := hv.2 c_6
              exact b_ND_numberT1_36 hc hA hE hlt hemp  (lv_sub hl [] rfl) hK hP hD hS eH eL hv
set_option maxHeartbeats 4000000 in
set_option maxRecDepth 100000 in
theorem m_ND_numberT1 (l : Launch) (hlt : l.stackTraces = false) (dC : Nat → ClassId) (dI : Nat → Nat → Nat) {gE : zG} {h0 : Nat} {a0_0 : Nat} {a0_2 : Nat} {a0_3 : Nat} {a0_5 : Nat} {h1 : Nat} {a1_4 : Nat} {h2 : Nat} {a2_0 : Nat} {I0 : Nat → Int32} {I1 : Nat → Int32} {J1 : Nat → Int64} {I2 : Nat → Int32} {x1 : Int32} {x2 : Int32} {x3 : Int32} {x4 : Int32} {sz : Nat} (hv : v_ND_numberT1_0 I0 I1 J1 I2 x1 x2 x3 x4 (fun _ => True)) : zMetT l (⟨"NumberDress", "number", "(ZIII)V"⟩ : MethodName) (Cond.code (⟨"NumberDress", "number", "(ZIII)V"⟩ : MethodName) prog_1_method_5_code 5 none :: zT) { frames := 6, cells := 1, slots := 6, locals := 82 } (zPc gE (dC, dI) zCl [] [.ref h0, .int x1, .int x2, .int x3, .int x4] sz [(h0, .inr (0, o_ND I0 a0_0 a0_2 a0_3 h1 a0_5 h2)), (h1, .inr (11, o_Value I1 J1 a1_4)), (h2, .inr (6, o_Look I2 a2_0))]) "java/lang/IllegalArgumentException" := by
  refine zMetT.ofW (cc := prog_1_method_5_code) (maxL := 5) (ret := none) (by decide +kernel) rfl ?_
  intro p e s m args below meth c s₁ B hml hemp hp
  obtain ⟨rfl, hsz, hP, hK, hD0, hE⟩ := hp
  have hts := atoms_spec (ws := (Cond.code (⟨"NumberDress", "number", "(ZIII)V"⟩ : MethodName) prog_1_method_5_code 5 none :: zT)) B.pre
  have hown : s.vm.findClass "NumberDress" = some m.cls := findClass_of_methodNamed B.named
  have hc : zC p s m _ meth c prog_1_method_5_code none 5 "NumberDress" := ⟨B.exec, B.bytes, B.returns, hml, hown, fun w h => hts w (List.mem_cons_of_mem _ h), B.notSynchronized⟩
  subst hsz
  have hD := hD0.self (sz := s.heap.size)
  generalize hAe : va_A [(h0, .inr (0, o_ND I0 a0_0 a0_2 a0_3 h1 a0_5 h2)), (h1, .inr (11, o_Value I1 J1 a1_4)), (h2, .inr (6, o_Look I2 a2_0))] s.heap.size = A at hD hE
  have hA : ∀ q : Nat, s.heap.size ≤ q → A q := fun q h => by rw [← hAe]; exact Or.inr h
  have hl := lv_entry ([.ref h0, .int x1, .int x2, .int x3, .int x4]) (n := 5) (Nat.le_of_ble_eq_true rfl)
  rw [lg_entry_eq]
  exact b_ND_numberT1_0 hc hA hE hlt hemp hl hK hP hD va_S.rf rfl rfl hv
theorem d_ND_about_12 : decode prog_1_method_9_code 12 = .ok (.dup, 1) := by decide +kernel
theorem d_ND_about_13 : decode prog_1_method_9_code 13 = .ok (.ldc 101, 2) := by decide +kernel
theorem d_ND_about_15 : decode prog_1_method_9_code 15 = .ok (.invokespecial 52, 3) := by decide +kernel
theorem d_ND_about_18 : decode prog_1_method_9_code 18 = .ok (.athrow, 1) := by decide +kernel
set_option maxHeartbeats 4000000 in
set_option maxRecDepth 100000 in
theorem b_ND_aboutT1_9 {h0 : Nat} {a0_0 : Nat} {a0_3 : Nat} {a0_5 : Nat} {a0_6 : Nat} {h1 : Nat} {a1_2 : Nat} {a1_3 : Nat} {h2 : Nat} {cA2 : ClassId} {ad2 : Nat → Nat} {h3 : Nat} {a3_4 : Nat} {I0 : Nat → Int32} {I1 : Nat → Int32} {I3 : Nat → Int32} {J3 : Nat → Int64} {I4 : Nat → Int32} {I5 : Nat → Int32} {I6 : Nat → Int32} {I7 : Nat → Int32}  {Z : Unit → Prop} {H : Heap} {locs : List Loc} {ls : Array Slot} (hc : zC p s m args meth c prog_1_method_9_code (some .int) 3 "NumberDress") (hA : ∀ q : Nat, s.heap.size ≤ q → A q) (hE : zE gE A s) (hlt : l.stackTraces = false) (hemp : c.exceptionTable.isEmpty = true) (hl : lv_has ls 3 []) (hK : va_K (dC, dI) zCl [(cA2, .object "NumberDress$Section")] s) (hP : va_P (dC, dI) zCl [(h0, .inr (0, o_ND I0 a0_0 h1 a0_3 h3 a0_5 a0_6)), (h1, .inr (1, o_Code I1 h2 a1_2 a1_3)), (h2, .inl (cA2, 4, .inr (.inr (.inr (.inr (zra ad2 4)))))), (h3, .inr (11, o_Value I3 J3 a3_4)), ((ad2 0), .inr (9, o_Section I4)), ((ad2 1), .inr (9, o_Section I5)), ((ad2 2), .inr (9, o_Section I6)), ((ad2 3), .inr (9, o_Section I7))] H) (hD : va_D A [(h0, .inr (0, o_ND I0 a0_0 h1 a0_3 h3 a0_5 a0_6)), (h1, .inr (1, o_Code I1 h2 a1_2 a1_3)), (h2, .inl (cA2, 4, .inr (.inr (.inr (.inr (zra ad2 4)))))), (h3, .inr (11, o_Value I3 J3 a3_4)), ((ad2 0), .inr (9, o_Section I4)), ((ad2 1), .inr (9, o_Section I5)), ((ad2 2), .inr (9, o_Section I6)), ((ad2 3), .inr (9, o_Section I7))]) (hS : va_S A s.heap H locs) (eH : H = s.heap) (eL : locs = []) (hv : v_ND_aboutT1_9 I0 I1 I3 J3 I4 I5 I6 I7  Z) : W p l e (headSpec (Cond.code (⟨"NumberDress", "about", "(I)I"⟩ : MethodName) prog_1_method_9_code 3 (some .int) :: zT) { frames := 6, cells := 1, slots := 6, locals := 82 }).room s m args below meth c H locs 0 0 (zTQ below s "java/lang/IllegalArgumentException") (F0 m 9 ls []) := by
  obtain ⟨hx, hb, hr, hml, hown, ht, hlocks⟩ := id hc
  unfold v_ND_aboutT1_9 at hv
  subst eH
  subst eL
  refine W.newc hx hb hown (ht _ zw_1148) (ht _ zw_1149) (ht _ zw_126) (g := F0 m 9 ls []) rfl d_ND_about_9 (Nat.le_of_ble_eq_true rfl) (Nat.le_of_ble_eq_true rfl) (fun cC kC h1 h2 h3 h4 => ?_)
  refine W.eq (g2 := F0 m 12 ls [.ref s.heap.size]) rfl ?_
  refine lv_dup hx hb d_ND_about_12 rfl ?_
  refine va_ldcS hx hb hown (hE.str (i := 35) (by decide)) d_ND_about_13 ?_
  exact z_throwEnd hx hb hlt hlocks hemp (hl.1.trans hml.symm) hown (names := zUp) (by decide +kernel) (by decide +kernel) (fun a ha => hE.xs.all _ a (List.mem_append_left _ ha)) h1 h2 d_ND_about_15 d_ND_about_18 (Nat.le_of_ble_eq_true rfl) (Nat.le_of_ble_eq_true rfl)
set_option maxHeartbeats 4000000 in
set_option maxRecDepth 100000 in
theorem b_ND_aboutT1_0 {h0 : Nat} {a0_0 : Nat} {a0_3 : Nat} {a0_5 : Nat} {a0_6 : Nat} {h1 : Nat} {a1_2 : Nat} {a1_3 : Nat} {h2 : Nat} {cA2 : ClassId} {ad2 : Nat → Nat} {h3 : Nat} {a3_4 : Nat} {I0 : Nat → Int32} {I1 : Nat → Int32} {I3 : Nat → Int32} {J3 : Nat → Int64} {I4 : Nat → Int32} {I5 : Nat → Int32} {I6 : Nat → Int32} {I7 : Nat → Int32} {x1 : Int32}  {Z : Unit → Prop} {H : Heap} {locs : List Loc} {ls : Array Slot} (hc : zC p s m args meth c prog_1_method_9_code (some .int) 3 "NumberDress") (hA : ∀ q : Nat, s.heap.size ≤ q → A q) (hE : zE gE A s) (hlt : l.stackTraces = false) (hemp : c.exceptionTable.isEmpty = true) (hl : lv_has ls 3 [(0, .ref h0), (1, .int x1)]) (hK : va_K (dC, dI) zCl [(cA2, .object "NumberDress$Section")] s) (hP : va_P (dC, dI) zCl [(h0, .inr (0, o_ND I0 a0_0 h1 a0_3 h3 a0_5 a0_6)), (h1, .inr (1, o_Code I1 h2 a1_2 a1_3)), (h2, .inl (cA2, 4, .inr (.inr (.inr (.inr (zra ad2 4)))))), (h3, .inr (11, o_Value I3 J3 a3_4)), ((ad2 0), .inr (9, o_Section I4)), ((ad2 1), .inr (9, o_Section I5)), ((ad2 2), .inr (9, o_Section I6)), ((ad2 3), .inr (9, o_Section I7))] H) (hD : va_D A [(h0, .inr (0, o_ND I0 a0_0 h1 a0_3 h3 a0_5 a0_6)), (h1, .inr (1, o_Code I1 h2 a1_2 a1_3)), (h2, .inl (cA2, 4, .inr (.inr (.inr (.inr (zra ad2 4)))))), (h3, .inr (11, o_Value I3 J3 a3_4)), ((ad2 0), .inr (9, o_Section I4)), ((ad2 1), .inr (9, o_Section I5)), ((ad2 2), .inr (9, o_Section I6)), ((ad2 3), .inr (9, o_Section I7))]) (hS : va_S A s.heap H locs) (eH : H = s.heap) (eL : locs = []) (hv : v_ND_aboutT1_0 I0 I1 I3 J3 I4 I5 I6 I7 x1  Z) : W p l e (headSpec (Cond.code (⟨"NumberDress", "about", "(I)I"⟩ : MethodName) prog_1_method_9_code 3 (some .int) :: zT) { frames := 6, cells := 1, slots := 6, locals := 82 }).room s m args below meth c H locs 0 0 (zTQ below s "java/lang/IllegalArgumentException") (F0 m 0 ls []) := by
  obtain ⟨hx, hb, hr, hml, hown, ht, hlocks⟩ := id hc
  unfold v_ND_aboutT1_0 at hv
  refine lv_iload_n hx hb d_ND_about_0 rfl (lv_at hl 1 rfl) ?_
  refine lv_if_lt (tgt := 9) hx hb d_ND_about_1 (by decide) (fun c_1 => ?_) (fun c_1 => ?_)
  · have hv := hv.1 c_1
    exact b_ND_aboutT1_9 hc hA hE hlt hemp  (lv_sub hl [] rfl) hK hP hD hS eH eL hv
  · have hv := hv.2 c_1
    refine lv_iload_n hx hb d_ND_about_4 rfl (lv_at hl 1 rfl) ?_
    refine lv_iconst (v := (5 : Int32)) hx hb d_ND_about_5 (by decide) ?_
    refine lv_icmp_le (tgt := 19) hx hb d_ND_about_6 (by decide) (fun c_2 => ?_) (fun c_2 => ?_)
    · have hv := hv.1 c_2
      refine lv_iload_n hx hb d_ND_about_19 rfl (lv_at hl 1 rfl) ?_
      refine lv_if_ne (tgt := 31) hx hb d_ND_about_20 (by decide) (fun c_3 => ?_) (fun c_3 => ?_)
      · have hv := hv.1 c_3
        refine lv_iload_n hx hb d_ND_about_31 rfl (lv_at hl 1 rfl) ?_
        refine lv_iconst (v := (5 : Int32)) hx hb d_ND_about_32 (by decide) ?_
        refine lv_icmp_ne (tgt := 50) hx hb d_ND_about_33 (by decide) (fun c_4 => ?_) (fun c_4 => ?_)
        · have hv := hv.1 c_4
          refine lv_aload_n hx hb d_ND_about_50 rfl (lv_at hl 0 rfl) ?_
          refine va_get (D := (dC, dI)) (ci := 0) (v := .ref h1) (C := "NumberDress") (T := T_ND) (N := 7) hx hb ht zin_ND hown hK hP 0 rfl rfl 2 (by decide) (ht _ zw_469) (fun _ h9 => h9) rfl d_ND_about_51 ?_
          refine lv_iload_n hx hb d_ND_about_54 rfl (lv_at hl 1 rfl) ?_
          refine lv_iconst (v := (1 : Int32)) hx hb d_ND_about_55 (by decide) ?_
          refine lv_isub hx hb d_ND_about_56 ?_
          exact hv.elim
        · have hv := hv.2 c_4
          refine lv_aload_n hx hb d_ND_about_36 rfl (lv_at hl 0 rfl) ?_
          refine va_get (D := (dC, dI)) (ci := 0) (v := .ref h1) (C := "NumberDress") (T := T_ND) (N := 7) hx hb ht zin_ND hown hK hP 0 rfl rfl 2 (by decide) (ht _ zw_469) (fun _ h9 => h9) rfl d_ND_about_37 ?_
          refine lv_aload_n hx hb d_ND_about_40 rfl (lv_at hl 0 rfl) ?_
          refine va_get (D := (dC, dI)) (ci := 0) (v := .ref h3) (C := "NumberDress") (T := T_ND) (N := 7) hx hb ht zin_ND hown hK hP 0 rfl rfl 4 (by decide) (ht _ zw_471) (fun _ h9 => h9) rfl d_ND_about_41 ?_
          exact hv.elim
      · have hv := hv.2 c_3
        refine lv_aload_n hx hb d_ND_about_23 rfl (lv_at hl 0 rfl) ?_
        refine va_get (D := (dC, dI)) (ci := 0) (v := .ref h1) (C := "NumberDress") (T := T_ND) (N := 7) hx hb ht zin_ND hown hK hP 0 rfl rfl 2 (by decide) (ht _ zw_469) (fun _ h9 => h9) rfl d_ND_about_24 ?_
        refine va_get (D := (dC, dI)) (ci := 1) (v := .int (I1 1)) (C := "NumberDress$Code") (T := T_Code) (N := 5) hx hb ht zin_Code hown hK hP 1 rfl rfl 1 (by decide) (ht _ zw_245) (fun _ h9 => h9) rfl d_ND_about_27 ?_
        exact hv.elim
    · have hv := hv.2 c_2
      exact b_ND_aboutT1_9 hc hA hE hlt hemp  (lv_sub hl [] rfl) hK hP hD hS eH eL hv
set_option maxHeartbeats 4000000 in
set_option maxRecDepth 100000 in
theorem m_ND_aboutT1 (l : Launch) (hlt : l.stackTraces = false) (dC : Nat → ClassId) (dI : Nat → Nat → Nat) {gE : zG} {h0 : Nat} {a0_0 : Nat} {a0_3 : Nat} {a0_5 : Nat} {a0_6 : Nat} {h1 : Nat} {a1_2 : Nat} {a1_3 : Nat} {h2 : Nat} {cA2 : ClassId} {ad2 : Nat → Nat} {h3 : Nat} {a3_4 : Nat} {I0 : Nat → Int32} {I1 : Nat → Int32} {I3 : Nat → Int32} {J3 : Nat → Int64} {I4 : Nat → Int32} {I5 : Nat → Int32} {I6 : Nat → Int32} {I7 : Nat → Int32} {x1 : Int32} {sz : Nat} (hv : v_ND_aboutT1_0 I0 I1 I3 J3 I4 I5 I6 I7 x1 (fun _ => True)) : zMetT l (⟨"NumberDress", "about", "(I)I"⟩ : MethodName) (Cond.code (⟨"NumberDress", "about", "(I)I"⟩ : MethodName) prog_1_method_9_code 3 (some .int) :: zT) { frames := 6, cells := 1, slots := 6, locals := 82 } (zPc gE (dC, dI) zCl [(cA2, .object "NumberDress$Section")] [.ref h0, .int x1] sz [(h0, .inr (0, o_ND I0 a0_0 h1 a0_3 h3 a0_5 a0_6)), (h1, .inr (1, o_Code I1 h2 a1_2 a1_3)), (h2, .inl (cA2, 4, .inr (.inr (.inr (.inr (zra ad2 4)))))), (h3, .inr (11, o_Value I3 J3 a3_4)), ((ad2 0), .inr (9, o_Section I4)), ((ad2 1), .inr (9, o_Section I5)), ((ad2 2), .inr (9, o_Section I6)), ((ad2 3), .inr (9, o_Section I7))]) "java/lang/IllegalArgumentException" := by
  refine zMetT.ofW (cc := prog_1_method_9_code) (maxL := 3) (ret := (some .int)) (by decide +kernel) rfl ?_
  intro p e s m args below meth c s₁ B hml hemp hp
  obtain ⟨rfl, hsz, hP, hK, hD0, hE⟩ := hp
  have hts := atoms_spec (ws := (Cond.code (⟨"NumberDress", "about", "(I)I"⟩ : MethodName) prog_1_method_9_code 3 (some .int) :: zT)) B.pre
  have hown : s.vm.findClass "NumberDress" = some m.cls := findClass_of_methodNamed B.named
  have hc : zC p s m _ meth c prog_1_method_9_code (some .int) 3 "NumberDress" := ⟨B.exec, B.bytes, B.returns, hml, hown, fun w h => hts w (List.mem_cons_of_mem _ h), B.notSynchronized⟩
  subst hsz
  have hD := hD0.self (sz := s.heap.size)
  generalize hAe : va_A [(h0, .inr (0, o_ND I0 a0_0 h1 a0_3 h3 a0_5 a0_6)), (h1, .inr (1, o_Code I1 h2 a1_2 a1_3)), (h2, .inl (cA2, 4, .inr (.inr (.inr (.inr (zra ad2 4)))))), (h3, .inr (11, o_Value I3 J3 a3_4)), ((ad2 0), .inr (9, o_Section I4)), ((ad2 1), .inr (9, o_Section I5)), ((ad2 2), .inr (9, o_Section I6)), ((ad2 3), .inr (9, o_Section I7))] s.heap.size = A at hD hE
  have hA : ∀ q : Nat, s.heap.size ≤ q → A q := fun q h => by rw [← hAe]; exact Or.inr h
  have hl := lv_entry ([.ref h0, .int x1]) (n := 3) (Nat.le_of_ble_eq_true rfl)
  rw [lg_entry_eq]
  exact b_ND_aboutT1_0 hc hA hE hlt hemp hl hK hP hD va_S.rf rfl rfl hv
theorem d_L_type_0 : decode method_3_code 0 = .ok (.aload_n 2, 1) := by decide +kernel
theorem d_L_type_1 : decode method_3_code 1 = .ok (.iconst 0, 1) := by decide +kernel
theorem d_L_type_2 : decode method_3_code 2 = .ok (.aload_n 0, 1) := by decide +kernel
theorem d_L_type_3 : decode method_3_code 3 = .ok (.iload_n 1, 1) := by decide +kernel
theorem d_L_type_4 : decode method_3_code 4 = .ok (.invokevirtual 7, 3) := by decide +kernel
theorem d_L_type_7 : decode method_3_code 7 = .ok (.i2l, 1) := by decide +kernel
theorem d_L_type_8 : decode method_3_code 8 = .ok (.lastore, 1) := by decide +kernel
theorem d_L_type_9 : decode method_3_code 9 = .ok (.goto 9, 3) := by decide +kernel
theorem d_L_type_12 : decode method_3_code 12 = .ok (.astore_n 3, 1) := by decide +kernel
theorem d_L_type_13 : decode method_3_code 13 = .ok (.iconst 1, 1) := by decide +kernel
theorem d_L_type_14 : decode method_3_code 14 = .ok (.ireturn, 1) := by decide +kernel
theorem d_L_type_15 : decode method_3_code 15 = .ok (.astore_n 3, 1) := by decide +kernel
theorem d_L_type_16 : decode method_3_code 16 = .ok (.iconst 2, 1) := by decide +kernel
theorem d_L_type_17 : decode method_3_code 17 = .ok (.ireturn, 1) := by decide +kernel
theorem d_L_type_18 : decode method_3_code 18 = .ok (.iconst 0, 1) := by decide +kernel
theorem d_L_type_19 : decode method_3_code 19 = .ok (.ireturn, 1) := by decide +kernel
set_option maxHeartbeats 4000000 in
set_option maxRecDepth 100000 in
theorem b_L_type_12 {h0 : Nat} {a0_2 : Nat} {a0_3 : Nat} {a0_4 : Nat} {a0_5 : Nat} {a0_6 : Nat} {h1 : Nat} {cA1 : ClassId} {h2 : Nat} {cA2 : ClassId} {as0 : Nat} {I0 : Nat → Int32} {n1 : Nat} {f1 : Nat → Int32} {n2 : Nat} {f2 : Nat → Int64}  {Z : Int32 → (Nat → Int32) × (Nat → Int32) × (Nat → Int64) → Prop} {H : Heap} {locs : List Loc} {ls : Array Slot} (hc : zC p s m args meth c method_3_code (some .int) 4 "NumberDressLaw") (hA : ∀ q : Nat, s.heap.size ≤ q → A q) (hE : zE gE A s) (hlt : l.stackTraces = false) (htb : c.exceptionTable.toList.map zHt = [(0, 9, 12, 13), (0, 9, 15, 15)]) (hl : lv_has ls 4 []) (hK : va_K (dC, dI) zCl [(cA1, .char), (cA2, .long)] s) (hP : va_P (dC, dI) zCl [(h0, .inr (0, o_ND I0 h1 a0_2 a0_3 a0_4 a0_5 a0_6)), (h1, .inl (cA1, n1, .inl f1)), (h2, .inl (cA2, n2, .inr (.inl f2)))] H) (hD : va_D A [(h0, .inr (0, o_ND I0 h1 a0_2 a0_3 a0_4 a0_5 a0_6)), (h1, .inl (cA1, n1, .inl f1)), (h2, .inl (cA2, n2, .inr (.inl f2)))]) (hS : va_S A s.heap H locs) (hv : v_L_type_12 I0 n1 f1 n2 f2  Z) : W p l e (headSpec (Cond.codeWith (⟨"NumberDressLaw", "type", "(LNumberDress;I[J)I"⟩ : MethodName) method_3_code 4 (some .int) [(0, 9, 12, 13), (0, 9, 15, 15)] :: zT) { frames := 7, cells := 1, slots := 6, locals := 106 }).room s m args below meth c H locs 1 6 (MQ below (va_Qi Z (zB (dC, dI) zCl [(cA1, .char), (cA2, .long)] A (fun u : (Nat → Int32) × (Nat → Int32) × (Nat → Int64) => [(h0, .inr (0, o_ND u.1 h1 a0_2 a0_3 a0_4 a0_5 a0_6)), (h1, .inl (cA1, n1, .inl u.2.1)), (h2, .inl (cA2, n2, .inr (.inl u.2.2)))])) A) args s 1 6 A) (F0 m 12 ls [.ref as0]) := by
  obtain ⟨hx, hb, hr, hml, hown, ht, hlocks⟩ := id hc
  unfold v_L_type_12 at hv
  refine lv_astore_n (lv' := [(3, .ref as0)]) hx hb d_L_type_12 rfl hl (by decide) rfl (fun ls hl => ?_)
  refine lv_iconst (v := (1 : Int32)) hx hb d_L_type_13 (by decide) ?_
  refine W.widen (k := 1) (n := 6) (Nat.le_of_ble_eq_true rfl) (Nat.le_of_ble_eq_true rfl) ?_
  exact W.iret (v := (1 : Int32)) hx hb hr (fun t ht hW => ⟨⟨_, (I0, f1, f2), rfl, hv, ⟨by rw [ht]; exact hP, va_K.moved hW.alike hK, hD⟩⟩, hS.F ht⟩) hS.2.2 d_L_type_14
set_option maxHeartbeats 4000000 in
set_option maxRecDepth 100000 in
theorem b_L_type_15 {h0 : Nat} {a0_2 : Nat} {a0_3 : Nat} {a0_4 : Nat} {a0_5 : Nat} {a0_6 : Nat} {h1 : Nat} {cA1 : ClassId} {h2 : Nat} {cA2 : ClassId} {as0 : Nat} {I0 : Nat → Int32} {n1 : Nat} {f1 : Nat → Int32} {n2 : Nat} {f2 : Nat → Int64}  {Z : Int32 → (Nat → Int32) × (Nat → Int32) × (Nat → Int64) → Prop} {H : Heap} {locs : List Loc} {ls : Array Slot} (hc : zC p s m args meth c method_3_code (some .int) 4 "NumberDressLaw") (hA : ∀ q : Nat, s.heap.size ≤ q → A q) (hE : zE gE A s) (hlt : l.stackTraces = false) (htb : c.exceptionTable.toList.map zHt = [(0, 9, 12, 13), (0, 9, 15, 15)]) (hl : lv_has ls 4 []) (hK : va_K (dC, dI) zCl [(cA1, .char), (cA2, .long)] s) (hP : va_P (dC, dI) zCl [(h0, .inr (0, o_ND I0 h1 a0_2 a0_3 a0_4 a0_5 a0_6)), (h1, .inl (cA1, n1, .inl f1)), (h2, .inl (cA2, n2, .inr (.inl f2)))] H) (hD : va_D A [(h0, .inr (0, o_ND I0 h1 a0_2 a0_3 a0_4 a0_5 a0_6)), (h1, .inl (cA1, n1, .inl f1)), (h2, .inl (cA2, n2, .inr (.inl f2)))]) (hS : va_S A s.heap H locs) (hv : v_L_type_15 I0 n1 f1 n2 f2  Z) : W p l e (headSpec (Cond.codeWith (⟨"NumberDressLaw", "type", "(LNumberDress;I[J)I"⟩ : MethodName) method_3_code 4 (some .int) [(0, 9, 12, 13), (0, 9, 15, 15)] :: zT) { frames := 7, cells := 1, slots := 6, locals := 106 }).room s m args below meth c H locs 1 6 (MQ below (va_Qi Z (zB (dC, dI) zCl [(cA1, .char), (cA2, .long)] A (fun u : (Nat → Int32) × (Nat → Int32) × (Nat → Int64) => [(h0, .inr (0, o_ND u.1 h1 a0_2 a0_3 a0_4 a0_5 a0_6)), (h1, .inl (cA1, n1, .inl u.2.1)), (h2, .inl (cA2, n2, .inr (.inl u.2.2)))])) A) args s 1 6 A) (F0 m 15 ls [.ref as0]) := by
  obtain ⟨hx, hb, hr, hml, hown, ht, hlocks⟩ := id hc
  unfold v_L_type_15 at hv
  refine lv_astore_n (lv' := [(3, .ref as0)]) hx hb d_L_type_15 rfl hl (by decide) rfl (fun ls hl => ?_)
  refine lv_iconst (v := (2 : Int32)) hx hb d_L_type_16 (by decide) ?_
  refine W.widen (k := 1) (n := 6) (Nat.le_of_ble_eq_true rfl) (Nat.le_of_ble_eq_true rfl) ?_
  exact W.iret (v := (2 : Int32)) hx hb hr (fun t ht hW => ⟨⟨_, (I0, f1, f2), rfl, hv, ⟨by rw [ht]; exact hP, va_K.moved hW.alike hK, hD⟩⟩, hS.F ht⟩) hS.2.2 d_L_type_17
set_option maxHeartbeats 4000000 in
set_option maxRecDepth 100000 in
theorem b_L_type_7 {h0 : Nat} {a0_2 : Nat} {a0_3 : Nat} {a0_4 : Nat} {a0_5 : Nat} {a0_6 : Nat} {h1 : Nat} {cA1 : ClassId} {h2 : Nat} {cA2 : ClassId} {I0 : Nat → Int32} {n1 : Nat} {f1 : Nat → Int32} {n2 : Nat} {f2 : Nat → Int64} {s1 : Int32} {s2 : Int32}  {Z : Int32 → (Nat → Int32) × (Nat → Int32) × (Nat → Int64) → Prop} {H : Heap} {locs : List Loc} {ls : Array Slot} (hc : zC p s m args meth c method_3_code (some .int) 4 "NumberDressLaw") (hA : ∀ q : Nat, s.heap.size ≤ q → A q) (hE : zE gE A s) (hlt : l.stackTraces = false) (htb : c.exceptionTable.toList.map zHt = [(0, 9, 12, 13), (0, 9, 15, 15)]) (hl : lv_has ls 4 []) (hK : va_K (dC, dI) zCl [(cA1, .char), (cA2, .long)] s) (hP : va_P (dC, dI) zCl [(h0, .inr (0, o_ND I0 h1 a0_2 a0_3 a0_4 a0_5 a0_6)), (h1, .inl (cA1, n1, .inl f1)), (h2, .inl (cA2, n2, .inr (.inl f2)))] H) (hD : va_D A [(h0, .inr (0, o_ND I0 h1 a0_2 a0_3 a0_4 a0_5 a0_6)), (h1, .inl (cA1, n1, .inl f1)), (h2, .inl (cA2, n2, .inr (.inl f2)))]) (hS : va_S A s.heap H locs) (hv : v_L_type_7 I0 n1 f1 n2 f2 s1 s2  Z) : W p l e (headSpec (Cond.codeWith (⟨"NumberDressLaw", "type", "(LNumberDress;I[J)I"⟩ : MethodName) method_3_code 4 (some .int) [(0, 9, 12, 13), (0, 9, 15, 15)] :: zT) { frames := 7, cells := 1, slots := 6, locals := 106 }).room s m args below meth c H locs 0 0 (MQ below (va_Qi Z (zB (dC, dI) zCl [(cA1, .char), (cA2, .long)] A (fun u : (Nat → Int32) × (Nat → Int32) × (Nat → Int64) => [(h0, .inr (0, o_ND u.1 h1 a0_2 a0_3 a0_4 a0_5 a0_6)), (h1, .inl (cA1, n1, .inl u.2.1)), (h2, .inl (cA2, n2, .inr (.inl u.2.2)))])) A) args s 1 6 A) (F0 m 7 ls [.int s2, .int s1, .ref h2]) := by
  obtain ⟨hx, hb, hr, hml, hown, ht, hlocks⟩ := id hc
  unfold v_L_type_7 at hv
  refine lv_i2l (v := s2.toInt64) hx hb d_L_type_7 rfl ?_
  obtain ⟨q_1, hv⟩ := hv
  refine va_last hx hb hK hP hD hS 2 1 rfl rfl q_1 d_L_type_8 (fun H locs hP hD hS => ?_)
  have hP : va_P (dC, dI) zCl [(h0, .inr (0, o_ND I0 h1 a0_2 a0_3 a0_4 a0_5 a0_6)), (h1, .inl (cA1, n1, .inl f1)), (h2, .inl (cA2, n2, .inr (.inl (vp_updL f2 s1.toNatClampNeg s2.toInt64))))] H := hP
  have hD : va_D A [(h0, .inr (0, o_ND I0 h1 a0_2 a0_3 a0_4 a0_5 a0_6)), (h1, .inl (cA1, n1, .inl f1)), (h2, .inl (cA2, n2, .inr (.inl (vp_updL f2 s1.toNatClampNeg s2.toInt64))))] := hD
  refine lv_goto (tgt := 18) hx hb d_L_type_9 (by decide) ?_
  refine lv_iconst (v := (0 : Int32)) hx hb d_L_type_18 (by decide) ?_
  refine W.widen (k := 1) (n := 6) (Nat.le_of_ble_eq_true rfl) (Nat.le_of_ble_eq_true rfl) ?_
  exact W.iret (v := (0 : Int32)) hx hb hr (fun t ht hW => ⟨⟨_, (I0, f1, (vp_updL f2 s1.toNatClampNeg s2.toInt64)), rfl, hv, ⟨by rw [ht]; exact hP, va_K.moved hW.alike hK, hD⟩⟩, hS.F ht⟩) hS.2.2 d_L_type_19
set_option maxHeartbeats 4000000 in
set_option maxRecDepth 100000 in
theorem b_L_type_0 {h0 : Nat} {a0_2 : Nat} {a0_3 : Nat} {a0_4 : Nat} {a0_5 : Nat} {a0_6 : Nat} {h1 : Nat} {cA1 : ClassId} {h2 : Nat} {cA2 : ClassId} {I0 : Nat → Int32} {n1 : Nat} {f1 : Nat → Int32} {n2 : Nat} {f2 : Nat → Int64} {x1 : Int32}  {Z : Int32 → (Nat → Int32) × (Nat → Int32) × (Nat → Int64) → Prop} {H : Heap} {locs : List Loc} {ls : Array Slot} (hc : zC p s m args meth c method_3_code (some .int) 4 "NumberDressLaw") (hA : ∀ q : Nat, s.heap.size ≤ q → A q) (hE : zE gE A s) (hlt : l.stackTraces = false) (htb : c.exceptionTable.toList.map zHt = [(0, 9, 12, 13), (0, 9, 15, 15)]) (hl : lv_has ls 4 [(0, .ref h0), (1, .int x1), (2, .ref h2)]) (hK : va_K (dC, dI) zCl [(cA1, .char), (cA2, .long)] s) (hP : va_P (dC, dI) zCl [(h0, .inr (0, o_ND I0 h1 a0_2 a0_3 a0_4 a0_5 a0_6)), (h1, .inl (cA1, n1, .inl f1)), (h2, .inl (cA2, n2, .inr (.inl f2)))] H) (hD : va_D A [(h0, .inr (0, o_ND I0 h1 a0_2 a0_3 a0_4 a0_5 a0_6)), (h1, .inl (cA1, n1, .inl f1)), (h2, .inl (cA2, n2, .inr (.inl f2)))]) (hS : va_S A s.heap H locs) (hv : v_L_type_0 I0 n1 f1 n2 f2 x1  Z) : W p l e (headSpec (Cond.codeWith (⟨"NumberDressLaw", "type", "(LNumberDress;I[J)I"⟩ : MethodName) method_3_code 4 (some .int) [(0, 9, 12, 13), (0, 9, 15, 15)] :: zT) { frames := 7, cells := 1, slots := 6, locals := 106 }).room s m args below meth c H locs 0 0 (MQ below (va_Qi Z (zB (dC, dI) zCl [(cA1, .char), (cA2, .long)] A (fun u : (Nat → Int32) × (Nat → Int32) × (Nat → Int64) => [(h0, .inr (0, o_ND u.1 h1 a0_2 a0_3 a0_4 a0_5 a0_6)), (h1, .inl (cA1, n1, .inl u.2.1)), (h2, .inl (cA2, n2, .inr (.inl u.2.2)))])) A) args s 1 6 A) (F0 m 0 ls []) := by
  obtain ⟨hx, hb, hr, hml, hown, ht, hlocks⟩ := id hc
  unfold v_L_type_0 at hv
  refine lv_aload_n hx hb d_L_type_0 rfl (lv_at hl 2 rfl) ?_
  refine lv_iconst (v := (0 : Int32)) hx hb d_L_type_1 (by decide) ?_
  refine lv_aload_n hx hb d_L_type_2 rfl (lv_at hl 0 rfl) ?_
  refine lv_iload_n hx hb d_L_type_3 rfl (lv_at hl 1 rfl) ?_
  rcases hv with hv | hv | hv
  · skip
    refine z_calli (wc := [(h0, .inr (0, o_ND I0 h1 a0_2 a0_3 a0_4 a0_5 a0_6)), (h1, .inl (cA1, n1, .inl f1))]) (wr := [(h2, .inl (cA2, n2, .inr (.inl f2)))]) [0, 1] [2] (va_runV (As := [.int x1]) (rest := [.int (0 : Int32), .ref h2]) ⟨hx, hb, hml, hown, ht⟩ (m_ND_type l dC dI hv) ⟨(callB_of 1 ht (zG_in zi_ND_type) rfl rfl rfl (ht _ zw_110) (ht _ zw_1144) zh_ND_type ⟨Nat.le_of_ble_eq_true rfl, Nat.le_of_ble_eq_true rfl⟩), (ht _ zw_1145), (ht _ zw_1146)⟩ ⟨zPc_blind, va_recv hK hP (ci := 0) (q0 := 0) rfl rfl, zPc_pre hP hK hD hS hA hE [0, 1] [0] rfl rfl (by decide) rfl⟩ rfl rfl hl.1 rfl (lv_room (Nat.le_of_ble_eq_true rfl)) d_L_type_4 ⟨Nat.le_of_ble_eq_true rfl, Nat.le_of_ble_eq_true rfl⟩) hP hD hS hA rfl rfl (by decide) (by decide) (fun r u H locs hv hP hD hS => ?_)
    have hP : va_P (dC, dI) zCl [(h0, .inr (0, o_ND u.1 h1 a0_2 a0_3 a0_4 a0_5 a0_6)), (h1, .inl (cA1, n1, .inl u.2)), (h2, .inl (cA2, n2, .inr (.inl f2)))] H := hP.sub [1, 2, 0] rfl
    have hD : va_D A [(h0, .inr (0, o_ND u.1 h1 a0_2 a0_3 a0_4 a0_5 a0_6)), (h1, .inl (cA1, n1, .inl u.2)), (h2, .inl (cA2, n2, .inr (.inl f2)))] := hD.sub [1, 2, 0] (by decide) rfl
    exact b_L_type_7 hc hA hE hlt htb  (lv_sub hl [] rfl) hK hP hD hS hv
  · obtain ⟨hv, hz⟩ := hv
    obtain ⟨e1, e2, etab, r1, r2⟩ := z_tab2 htb
    obtain ⟨p1, p2, p3, p4⟩ := z_row r1
    obtain ⟨u1, u2, u3, u4⟩ := z_row r2
    refine z_wcatch1 (As := [.int x1]) (rest := [.int (0 : Int32), .ref h2]) ⟨hx, hb, hml, hown, ht⟩ ⟨m_ND_typeT1 l hlt dC dI hv, (callB_of 1 ht (zG_in zi_ND_type) rfl rfl rfl (ht _ zw_110) (ht _ zw_1144) zh_ND_type ⟨Nat.le_of_ble_eq_true rfl, Nat.le_of_ble_eq_true rfl⟩), (ht _ zw_1145), (ht _ zw_1146), fun a U hW => word_at hW (Or.inl rfl) (ht _ zw_110), zPc_blind, va_recv hK hP (ci := 0) (q0 := 0) rfl rfl, zPc_pre hP hK hD hS hA hE [0, 1] [0] rfl rfl (by decide) rfl⟩ hl.1 (Nat.le_of_ble_eq_true rfl) d_L_type_4 ⟨Nat.le_of_ble_eq_true rfl, Nat.le_of_ble_eq_true rfl⟩ etab (z_cov p1 p2 (by decide)) (by rw [p4]; decide) (by rw [p4]; exact (ht _ zw_1142)) p3 hP hS (fun x9 H hP hS => ?_)
    have hv := hz
    exact b_L_type_12 hc hA hE hlt htb  (lv_sub hl [] rfl) hK hP hD hS hv
  · obtain ⟨hv, hz⟩ := hv
    obtain ⟨e1, e2, etab, r1, r2⟩ := z_tab2 htb
    obtain ⟨p1, p2, p3, p4⟩ := z_row r1
    obtain ⟨u1, u2, u3, u4⟩ := z_row r2
    refine z_wcatch2 (As := [.int x1]) (rest := [.int (0 : Int32), .ref h2]) ⟨hx, hb, hml, hown, ht⟩ ⟨m_ND_typeT2 l hlt dC dI hv, (callB_of 1 ht (zG_in zi_ND_type) rfl rfl rfl (ht _ zw_110) (ht _ zw_1144) zh_ND_type ⟨Nat.le_of_ble_eq_true rfl, Nat.le_of_ble_eq_true rfl⟩), (ht _ zw_1145), (ht _ zw_1146), fun a U hW => word_at hW (Or.inl rfl) (ht _ zw_110), zPc_blind, va_recv hK hP (ci := 0) (q0 := 0) rfl rfl, zPc_pre hP hK hD hS hA hE [0, 1] [0] rfl rfl (by decide) rfl⟩ hl.1 (Nat.le_of_ble_eq_true rfl) d_L_type_4 ⟨Nat.le_of_ble_eq_true rfl, Nat.le_of_ble_eq_true rfl⟩ etab (z_cov p1 p2 (by decide)) (by rw [p4]; decide) (z_cov u1 u2 (by decide)) (by rw [u4]; decide) (by rw [p4]; exact (ht _ zw_1142)) (by rw [u4]; exact (ht _ zw_1143)) u3 hE.xs.nc hP hS (fun x9 H hP hS => ?_)
    have hv := hz
    exact b_L_type_15 hc hA hE hlt htb  (lv_sub hl [] rfl) hK hP hD hS hv
theorem zh_L_type : (((⟨"NumberDressLaw", "type", "(LNumberDress;I[J)I"⟩ : MethodName)).cls ≠ "java/lang/invoke/MethodHandle" ∧ ((⟨"NumberDressLaw", "type", "(LNumberDress;I[J)I"⟩ : MethodName)).cls ≠ "java/lang/invoke/VarHandle" ∧ (parseMethodDescriptor ((⟨"NumberDressLaw", "type", "(LNumberDress;I[J)I"⟩ : MethodName)).desc).map (fun d => d.parameters.length) = some 3) := by decide +kernel
theorem zi_L_type : Cond.codeWith (⟨"NumberDressLaw", "type", "(LNumberDress;I[J)I"⟩ : MethodName) method_3_code 4 (some .int) [(0, 9, 12, 13), (0, 9, 15, 15)] ∈ zT := zw_1141
set_option maxHeartbeats 4000000 in
set_option maxRecDepth 100000 in
theorem m_L_type (l : Launch) (hlt : l.stackTraces = false) (dC : Nat → ClassId) (dI : Nat → Nat → Nat) {gE : zG} {h0 : Nat} {a0_2 : Nat} {a0_3 : Nat} {a0_4 : Nat} {a0_5 : Nat} {a0_6 : Nat} {h1 : Nat} {cA1 : ClassId} {h2 : Nat} {cA2 : ClassId} {I0 : Nat → Int32} {n1 : Nat} {f1 : Nat → Int32} {n2 : Nat} {f2 : Nat → Int64} {x1 : Int32} {sz : Nat} {Z : Int32 → (Nat → Int32) × (Nat → Int32) × (Nat → Int64) → Prop} (hv : v_L_type_0 I0 n1 f1 n2 f2 x1 Z) : Met l (⟨"NumberDressLaw", "type", "(LNumberDress;I[J)I"⟩ : MethodName) (Cond.codeWith (⟨"NumberDressLaw", "type", "(LNumberDress;I[J)I"⟩ : MethodName) method_3_code 4 (some .int) [(0, 9, 12, 13), (0, 9, 15, 15)] :: zT) { frames := 7, cells := 1, slots := 6, locals := 106 } (zPc gE (dC, dI) zCl [(cA1, .char), (cA2, .long)] [.ref h0, .int x1, .ref h2] sz [(h0, .inr (0, o_ND I0 h1 a0_2 a0_3 a0_4 a0_5 a0_6)), (h1, .inl (cA1, n1, .inl f1)), (h2, .inl (cA2, n2, .inr (.inl f2)))]) (va_Qi Z (zB (dC, dI) zCl [(cA1, .char), (cA2, .long)] (va_A [(h0, .inr (0, o_ND I0 h1 a0_2 a0_3 a0_4 a0_5 a0_6)), (h1, .inl (cA1, n1, .inl f1)), (h2, .inl (cA2, n2, .inr (.inl f2)))] sz) (fun u : (Nat → Int32) × (Nat → Int32) × (Nat → Int64) => [(h0, .inr (0, o_ND u.1 h1 a0_2 a0_3 a0_4 a0_5 a0_6)), (h1, .inl (cA1, n1, .inl u.2.1)), (h2, .inl (cA2, n2, .inr (.inl u.2.2)))])) (va_A [(h0, .inr (0, o_ND I0 h1 a0_2 a0_3 a0_4 a0_5 a0_6)), (h1, .inl (cA1, n1, .inl f1)), (h2, .inl (cA2, n2, .inr (.inl f2)))] sz)) 1 6 (va_A [(h0, .inr (0, o_ND I0 h1 a0_2 a0_3 a0_4 a0_5 a0_6)), (h1, .inl (cA1, n1, .inl f1)), (h2, .inl (cA2, n2, .inr (.inl f2)))] sz) := by
  refine va_MetW (cc := method_3_code) (maxL := 4) (ret := (some .int)) (hh := [(0, 9, 12, 13), (0, 9, 15, 15)]) (by decide +kernel) rfl ?_
  intro p e s m args below meth c s₁ B hml hp
  obtain ⟨rfl, hsz, hP, hK, hD0, hE⟩ := hp
  have hts := atoms_spec (ws := (Cond.codeWith (⟨"NumberDressLaw", "type", "(LNumberDress;I[J)I"⟩ : MethodName) method_3_code 4 (some .int) [(0, 9, 12, 13), (0, 9, 15, 15)] :: zT)) B.pre
  obtain ⟨m9, meth9, c9, en1, en2, en3, -, -, htb, -⟩ := Cond.codeWith_spec (hts _ List.mem_cons_self)
  cases en1.symm.trans B.named
  have em : meth9 = meth := Option.some.inj (en2.symm.trans B.method)
  subst em
  have ec : c9 = c := Option.some.inj (en3.symm.trans (Stand.of_body B).code)
  subst ec
  have hown : s.vm.findClass "NumberDressLaw" = some m.cls := findClass_of_methodNamed B.named
  have hc : zC p s m _ meth9 c9 method_3_code (some .int) 4 "NumberDressLaw" := ⟨B.exec, B.bytes, B.returns, hml, hown, fun w h => hts w (List.mem_cons_of_mem _ h), B.notSynchronized⟩
  subst hsz
  have hD := hD0.self (sz := s.heap.size)
  generalize hAe : va_A [(h0, .inr (0, o_ND I0 h1 a0_2 a0_3 a0_4 a0_5 a0_6)), (h1, .inl (cA1, n1, .inl f1)), (h2, .inl (cA2, n2, .inr (.inl f2)))] s.heap.size = A at hD hE ⊢
  have hA : ∀ q : Nat, s.heap.size ≤ q → A q := fun q h => by rw [← hAe]; exact Or.inr h
  have hl := lv_entry ([.ref h0, .int x1, .ref h2]) (n := 4) (Nat.le_of_ble_eq_true rfl)
  rw [lg_entry_eq]
  exact b_L_type_0 hc hA hE hlt htb hl hK hP hD va_S.rf hv
end
