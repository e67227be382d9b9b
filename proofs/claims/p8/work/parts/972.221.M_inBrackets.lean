section
variable {p : Program} {l : Launch} {e : Env} {s : State} {m : MethodId} {args : Array Value} {below : List Frame} {meth : Method} {c : Code} {dC : Nat → ClassId} {dI : Nat → Nat → Nat} {A : Nat → Prop} {gE : zG}
theorem d_M_inBrackets_0 : decode prog_14_method_14_code 0 = .ok (.aload_n 0, 1) := by decide +kernel
theorem d_M_inBrackets_1 : decode prog_14_method_14_code 1 = .ok (.iload_n 1, 1) := by decide +kernel
theorem d_M_inBrackets_2 : decode prog_14_method_14_code 2 = .ok (.iconst 1, 1) := by decide +kernel
theorem d_M_inBrackets_3 : decode prog_14_method_14_code 3 = .ok (.iadd, 1) := by decide +kernel
theorem d_M_inBrackets_4 : decode prog_14_method_14_code 4 = .ok (.invokevirtual 94, 3) := by decide +kernel
theorem d_M_inBrackets_7 : decode prog_14_method_14_code 7 = .ok (.istore_n 2, 1) := by decide +kernel
theorem d_M_inBrackets_8 : decode prog_14_method_14_code 8 = .ok (.aload_n 0, 1) := by decide +kernel
theorem d_M_inBrackets_9 : decode prog_14_method_14_code 9 = .ok (.iload_n 1, 1) := by decide +kernel
theorem d_M_inBrackets_10 : decode prog_14_method_14_code 10 = .ok (.invokevirtual 62, 3) := by decide +kernel
theorem d_M_inBrackets_13 : decode prog_14_method_14_code 13 = .ok (.bipush 91, 2) := by decide +kernel
theorem d_M_inBrackets_15 : decode prog_14_method_14_code 15 = .ok (.if_icmp .ne 21, 3) := by decide +kernel
theorem d_M_inBrackets_18 : decode prog_14_method_14_code 18 = .ok (.iload_n 2, 1) := by decide +kernel
theorem d_M_inBrackets_19 : decode prog_14_method_14_code 19 = .ok (.bipush 104, 2) := by decide +kernel
theorem d_M_inBrackets_21 : decode prog_14_method_14_code 21 = .ok (.if_icmp .eq 17, 3) := by decide +kernel
theorem d_M_inBrackets_24 : decode prog_14_method_14_code 24 = .ok (.iload_n 2, 1) := by decide +kernel
theorem d_M_inBrackets_25 : decode prog_14_method_14_code 25 = .ok (.bipush 109, 2) := by decide +kernel
theorem d_M_inBrackets_27 : decode prog_14_method_14_code 27 = .ok (.if_icmp .eq 11, 3) := by decide +kernel
theorem d_M_inBrackets_30 : decode prog_14_method_14_code 30 = .ok (.iload_n 2, 1) := by decide +kernel
theorem d_M_inBrackets_31 : decode prog_14_method_14_code 31 = .ok (.bipush 115, 2) := by decide +kernel
theorem d_M_inBrackets_33 : decode prog_14_method_14_code 33 = .ok (.if_icmp .eq 5, 3) := by decide +kernel
theorem d_M_inBrackets_36 : decode prog_14_method_14_code 36 = .ok (.iconst 0, 1) := by decide +kernel
theorem d_M_inBrackets_37 : decode prog_14_method_14_code 37 = .ok (.ireturn, 1) := by decide +kernel
theorem d_M_inBrackets_38 : decode prog_14_method_14_code 38 = .ok (.iconst 0, 1) := by decide +kernel
theorem d_M_inBrackets_39 : decode prog_14_method_14_code 39 = .ok (.istore_n 3, 1) := by decide +kernel
theorem d_M_inBrackets_40 : decode prog_14_method_14_code 40 = .ok (.aload_n 0, 1) := by decide +kernel
theorem d_M_inBrackets_41 : decode prog_14_method_14_code 41 = .ok (.iload_n 1, 1) := by decide +kernel
theorem d_M_inBrackets_42 : decode prog_14_method_14_code 42 = .ok (.iconst 1, 1) := by decide +kernel
theorem d_M_inBrackets_43 : decode prog_14_method_14_code 43 = .ok (.iadd, 1) := by decide +kernel
theorem d_M_inBrackets_44 : decode prog_14_method_14_code 44 = .ok (.iload_n 3, 1) := by decide +kernel
theorem d_M_inBrackets_45 : decode prog_14_method_14_code 45 = .ok (.iadd, 1) := by decide +kernel
theorem d_M_inBrackets_46 : decode prog_14_method_14_code 46 = .ok (.invokevirtual 94, 3) := by decide +kernel
theorem d_M_inBrackets_49 : decode prog_14_method_14_code 49 = .ok (.iload_n 2, 1) := by decide +kernel
theorem d_M_inBrackets_50 : decode prog_14_method_14_code 50 = .ok (.if_icmp .ne 9, 3) := by decide +kernel
theorem d_M_inBrackets_53 : decode prog_14_method_14_code 53 = .ok (.iinc 3 1, 3) := by decide +kernel
theorem d_M_inBrackets_56 : decode prog_14_method_14_code 56 = .ok (.goto (-16), 3) := by decide +kernel
theorem d_M_inBrackets_59 : decode prog_14_method_14_code 59 = .ok (.aload_n 0, 1) := by decide +kernel
theorem d_M_inBrackets_60 : decode prog_14_method_14_code 60 = .ok (.iload_n 1, 1) := by decide +kernel
theorem d_M_inBrackets_61 : decode prog_14_method_14_code 61 = .ok (.iconst 1, 1) := by decide +kernel
theorem d_M_inBrackets_62 : decode prog_14_method_14_code 62 = .ok (.iadd, 1) := by decide +kernel
theorem d_M_inBrackets_63 : decode prog_14_method_14_code 63 = .ok (.iload_n 3, 1) := by decide +kernel
theorem d_M_inBrackets_64 : decode prog_14_method_14_code 64 = .ok (.iadd, 1) := by decide +kernel
theorem d_M_inBrackets_65 : decode prog_14_method_14_code 65 = .ok (.invokevirtual 62, 3) := by decide +kernel
theorem d_M_inBrackets_68 : decode prog_14_method_14_code 68 = .ok (.bipush 93, 2) := by decide +kernel
theorem d_M_inBrackets_70 : decode prog_14_method_14_code 70 = .ok (.if_icmp .ne 7, 3) := by decide +kernel
theorem d_M_inBrackets_73 : decode prog_14_method_14_code 73 = .ok (.iload_n 3, 1) := by decide +kernel
theorem d_M_inBrackets_74 : decode prog_14_method_14_code 74 = .ok (.goto 4, 3) := by decide +kernel
theorem d_M_inBrackets_77 : decode prog_14_method_14_code 77 = .ok (.iconst 0, 1) := by decide +kernel
theorem d_M_inBrackets_78 : decode prog_14_method_14_code 78 = .ok (.ireturn, 1) := by decide +kernel
set_option maxHeartbeats 4000000 in
set_option maxRecDepth 100000 in
theorem b_M_inBrackets_68 {h0 : Nat} {a0_4 : Nat} {a0_5 : Nat} {a0_6 : Nat} {a0_7 : Nat} {a0_8 : Nat} {a0_9 : Nat} {a0_10 : Nat} {a0_11 : Nat} {a0_22 : Nat} {a0_26 : Nat} {a0_29 : Nat} {a0_31 : Nat} {a0_32 : Nat} {a0_34 : Nat} {h1 : Nat} {cA1 : ClassId} {I0 : Nat → Int32} {J0 : Nat → Int64} {n1 : Nat} {f1 : Nat → Int32} {x3 : Int32} {s0 : Int32}  {Z : Int32 → Unit → Prop} {H : Heap} {locs : List Loc} {ls : Array Slot} (hc : zC p s m args meth c prog_14_method_14_code (some .int) 4 "NumberDressModel") (hA : ∀ q : Nat, s.heap.size ≤ q → A q) (hE : zE gE A s) (hl : lv_has ls 4 [(3, .int x3)]) (hK : va_K (dC, dI) zCl [(cA1, .int)] s) (hP : va_P (dC, dI) zCl [(h0, .inr (12, o_M I0 J0 h1 a0_4 a0_5 a0_6 a0_7 a0_8 a0_9 a0_10 a0_11 a0_22 a0_26 a0_29 a0_31 a0_32 a0_34)), (h1, .inl (cA1, n1, .inl f1))] H) (hD : va_D A [(h0, .inr (12, o_M I0 J0 h1 a0_4 a0_5 a0_6 a0_7 a0_8 a0_9 a0_10 a0_11 a0_22 a0_26 a0_29 a0_31 a0_32 a0_34)), (h1, .inl (cA1, n1, .inl f1))]) (hS : va_S A s.heap H locs) (hv : v_M_inBrackets_68 I0 J0 n1 f1 x3 s0  Z) : W p l e (headSpec (Cond.code (⟨"NumberDressModel", "inBrackets", "(I)I"⟩ : MethodName) prog_14_method_14_code 4 (some .int) :: zT) { frames := 2, cells := 0, slots := 0, locals := 42 }).room s m args below meth c H locs 0 0 (MQ below (va_Qi Z (zB (dC, dI) zCl [(cA1, .int)] A (fun u : Unit => [(h0, .inr (12, o_M I0 J0 h1 a0_4 a0_5 a0_6 a0_7 a0_8 a0_9 a0_10 a0_11 a0_22 a0_26 a0_29 a0_31 a0_32 a0_34)), (h1, .inl (cA1, n1, .inl f1))])) A) args s 0 0 A) (F0 m 68 ls [.int s0]) := by
  obtain ⟨hx, hb, hr, hml, hown, ht, hlocks⟩ := id hc
  unfold v_M_inBrackets_68 at hv
  refine lv_bipush (v := (93 : Int32)) hx hb d_M_inBrackets_68 (by decide) ?_
  refine lv_icmp_ne (tgt := 77) hx hb d_M_inBrackets_70 (by decide) (fun c_1 => ?_) (fun c_1 => ?_)
  · have hv := hv.1 c_1
    refine lv_iconst (v := (0 : Int32)) hx hb d_M_inBrackets_77 (by decide) ?_
    exact W.iret (v := (0 : Int32)) hx hb hr (fun t ht hW => ⟨⟨_, (), rfl, hv, ⟨by rw [ht]; exact hP, va_K.moved hW.alike hK, hD⟩⟩, hS.F ht⟩) hS.2.2 d_M_inBrackets_78
  · have hv := hv.2 c_1
    refine lv_iload_n hx hb d_M_inBrackets_73 rfl (lv_at hl 0 rfl) ?_
    refine lv_goto (tgt := 78) hx hb d_M_inBrackets_74 (by decide) ?_
    exact W.iret (v := x3) hx hb hr (fun t ht hW => ⟨⟨_, (), rfl, hv, ⟨by rw [ht]; exact hP, va_K.moved hW.alike hK, hD⟩⟩, hS.F ht⟩) hS.2.2 d_M_inBrackets_78
set_option maxHeartbeats 4000000 in
set_option maxRecDepth 100000 in
theorem b_M_inBrackets_49 {h0 : Nat} {a0_4 : Nat} {a0_5 : Nat} {a0_6 : Nat} {a0_7 : Nat} {a0_8 : Nat} {a0_9 : Nat} {a0_10 : Nat} {a0_11 : Nat} {a0_22 : Nat} {a0_26 : Nat} {a0_29 : Nat} {a0_31 : Nat} {a0_32 : Nat} {a0_34 : Nat} {h1 : Nat} {cA1 : ClassId} {I0 : Nat → Int32} {J0 : Nat → Int64} {n1 : Nat} {f1 : Nat → Int32} {x1 : Int32} {x2 : Int32} {x3 : Int32} {s0 : Int32} {k40 : Int32 → Prop} {Z : Int32 → Unit → Prop} {H : Heap} {locs : List Loc} {ls : Array Slot} (hc : zC p s m args meth c prog_14_method_14_code (some .int) 4 "NumberDressModel") (hA : ∀ q : Nat, s.heap.size ≤ q → A q) (hE : zE gE A s) (hk40 : ∀ (x3 : Int32) (H : Heap) (locs : List Loc) (ls : Array Slot), lv_has ls 4 [(0, .ref h0), (1, .int x1), (2, .int x2), (3, .int x3)] → va_K (dC, dI) zCl [(cA1, .int)] s → va_P (dC, dI) zCl [(h0, .inr (12, o_M I0 J0 h1 a0_4 a0_5 a0_6 a0_7 a0_8 a0_9 a0_10 a0_11 a0_22 a0_26 a0_29 a0_31 a0_32 a0_34)), (h1, .inl (cA1, n1, .inl f1))] H → va_D A [(h0, .inr (12, o_M I0 J0 h1 a0_4 a0_5 a0_6 a0_7 a0_8 a0_9 a0_10 a0_11 a0_22 a0_26 a0_29 a0_31 a0_32 a0_34)), (h1, .inl (cA1, n1, .inl f1))] → va_S A s.heap H locs → k40 x3 → W p l e (headSpec (Cond.code (⟨"NumberDressModel", "inBrackets", "(I)I"⟩ : MethodName) prog_14_method_14_code 4 (some .int) :: zT) { frames := 2, cells := 0, slots := 0, locals := 42 }).room s m args below meth c H locs 0 0 (MQ below (va_Qi Z (zB (dC, dI) zCl [(cA1, .int)] A (fun u : Unit => [(h0, .inr (12, o_M I0 J0 h1 a0_4 a0_5 a0_6 a0_7 a0_8 a0_9 a0_10 a0_11 a0_22 a0_26 a0_29 a0_31 a0_32 a0_34)), (h1, .inl (cA1, n1, .inl f1))])) A) args s 0 0 A) (F0 m 40 ls [])) (hl : lv_has ls 4 [(0, .ref h0), (1, .int x1), (2, .int x2), (3, .int x3)]) (hK : va_K (dC, dI) zCl [(cA1, .int)] s) (hP : va_P (dC, dI) zCl [(h0, .inr (12, o_M I0 J0 h1 a0_4 a0_5 a0_6 a0_7 a0_8 a0_9 a0_10 a0_11 a0_22 a0_26 a0_29 a0_31 a0_32 a0_34)), (h1, .inl (cA1, n1, .inl f1))] H) (hD : va_D A [(h0, .inr (12, o_M I0 J0 h1 a0_4 a0_5 a0_6 a0_7 a0_8 a0_9 a0_10 a0_11 a0_22 a0_26 a0_29 a0_31 a0_32 a0_34)), (h1, .inl (cA1, n1, .inl f1))]) (hS : va_S A s.heap H locs) (hv : v_M_inBrackets_49 I0 J0 n1 f1 x1 x2 x3 s0 k40 Z) : W p l e (headSpec (Cond.code (⟨"NumberDressModel", "inBrackets", "(I)I"⟩ : MethodName) prog_14_method_14_code 4 (some .int) :: zT) { frames := 2, cells := 0, slots := 0, locals := 42 }).room s m args below meth c H locs 0 0 (MQ below (va_Qi Z (zB (dC, dI) zCl [(cA1, .int)] A (fun u : Unit => [(h0, .inr (12, o_M I0 J0 h1 a0_4 a0_5 a0_6 a0_7 a0_8 a0_9 a0_10 a0_11 a0_22 a0_26 a0_29 a0_31 a0_32 a0_34)), (h1, .inl (cA1, n1, .inl f1))])) A) args s 0 0 A) (F0 m 49 ls [.int s0]) := by
  obtain ⟨hx, hb, hr, hml, hown, ht, hlocks⟩ := id hc
  unfold v_M_inBrackets_49 at hv
  refine lv_iload_n hx hb d_M_inBrackets_49 rfl (lv_at hl 2 rfl) ?_
  refine lv_icmp_ne (tgt := 59) hx hb d_M_inBrackets_50 (by decide) (fun c_1 => ?_) (fun c_1 => ?_)
  · have hv := hv.1 c_1
    refine lv_aload_n hx hb d_M_inBrackets_59 rfl (lv_at hl 0 rfl) ?_
    refine lv_iload_n hx hb d_M_inBrackets_60 rfl (lv_at hl 1 rfl) ?_
    refine lv_iconst (v := (1 : Int32)) hx hb d_M_inBrackets_61 (by decide) ?_
    refine lv_iadd hx hb d_M_inBrackets_62 ?_
    refine lv_iload_n hx hb d_M_inBrackets_63 rfl (lv_at hl 3 rfl) ?_
    refine lv_iadd hx hb d_M_inBrackets_64 ?_
    refine z_calli (wc := [(h0, .inr (12, o_M I0 J0 h1 a0_4 a0_5 a0_6 a0_7 a0_8 a0_9 a0_10 a0_11 a0_22 a0_26 a0_29 a0_31 a0_32 a0_34)), (h1, .inl (cA1, n1, .inl f1))]) (wr := []) [0, 1] [] (va_runV (As := [.int ((x1 + (1 : Int32)) + x3)]) (rest := []) ⟨hx, hb, hml, hown, ht⟩ (m_M_ch l dC dI hv) ⟨(callB_of 1 ht (zG_in zi_M_ch) rfl rfl rfl (ht _ zw_122) (ht _ zw_1421) zh_M_ch ⟨Nat.le_of_ble_eq_true rfl, Nat.le_of_ble_eq_true rfl⟩), (ht _ zw_1423), (ht _ zw_63)⟩ ⟨zPc_blind, va_recv hK hP (ci := 12) (q0 := 0) rfl rfl, zPc_pre hP hK hD hS hA hE [0, 1] [0] rfl rfl (by decide) rfl⟩ rfl rfl hl.1 rfl (lv_room (Nat.le_of_ble_eq_true rfl)) d_M_inBrackets_65 ⟨Nat.le_of_ble_eq_true rfl, Nat.le_of_ble_eq_true rfl⟩) hP hD hS hA rfl rfl (by decide) (by decide) (fun r u H locs hv hP hD hS => ?_)
    have hP : va_P (dC, dI) zCl [(h0, .inr (12, o_M I0 J0 h1 a0_4 a0_5 a0_6 a0_7 a0_8 a0_9 a0_10 a0_11 a0_22 a0_26 a0_29 a0_31 a0_32 a0_34)), (h1, .inl (cA1, n1, .inl f1))] H := hP.sub [0, 1] rfl
    have hD : va_D A [(h0, .inr (12, o_M I0 J0 h1 a0_4 a0_5 a0_6 a0_7 a0_8 a0_9 a0_10 a0_11 a0_22 a0_26 a0_29 a0_31 a0_32 a0_34)), (h1, .inl (cA1, n1, .inl f1))] := hD.sub [0, 1] (by decide) rfl
    exact b_M_inBrackets_68 hc hA hE  (lv_sub hl [3] rfl) hK hP hD hS hv
  · have hv := hv.2 c_1
    refine lv_iinc (v := (x3 + (1 : Int32))) (lv' := [(3, .int (x3 + (1 : Int32))), (0, .ref h0), (1, .int x1), (2, .int x2)]) hx hb d_M_inBrackets_53 hl (k := 3) rfl rfl (by decide) rfl (fun ls hl => ?_)
    refine lv_goto (tgt := 40) hx hb d_M_inBrackets_56 (by decide) ?_
    exact hk40 (x3 + (1 : Int32)) _ _ _ (lv_sub hl [1, 2, 3, 0] rfl) hK hP hD hS hv
set_option maxHeartbeats 4000000 in
set_option maxRecDepth 100000 in
theorem b_M_inBrackets_40 {h0 : Nat} {a0_4 : Nat} {a0_5 : Nat} {a0_6 : Nat} {a0_7 : Nat} {a0_8 : Nat} {a0_9 : Nat} {a0_10 : Nat} {a0_11 : Nat} {a0_22 : Nat} {a0_26 : Nat} {a0_29 : Nat} {a0_31 : Nat} {a0_32 : Nat} {a0_34 : Nat} {h1 : Nat} {cA1 : ClassId} {I0 : Nat → Int32} {J0 : Nat → Int64} {n1 : Nat} {f1 : Nat → Int32} {x1 : Int32} {x2 : Int32}  {Z : Int32 → Unit → Prop} (hc : zC p s m args meth c prog_14_method_14_code (some .int) 4 "NumberDressModel") (hA : ∀ q : Nat, s.heap.size ≤ q → A q) (hE : zE gE A s) : ∀ (N : Nat) (x3 : Int32) (H : Heap) (locs : List Loc) (ls : Array Slot), lv_has ls 4 [(0, .ref h0), (1, .int x1), (2, .int x2), (3, .int x3)] → va_K (dC, dI) zCl [(cA1, .int)] s → va_P (dC, dI) zCl [(h0, .inr (12, o_M I0 J0 h1 a0_4 a0_5 a0_6 a0_7 a0_8 a0_9 a0_10 a0_11 a0_22 a0_26 a0_29 a0_31 a0_32 a0_34)), (h1, .inl (cA1, n1, .inl f1))] H → va_D A [(h0, .inr (12, o_M I0 J0 h1 a0_4 a0_5 a0_6 a0_7 a0_8 a0_9 a0_10 a0_11 a0_22 a0_26 a0_29 a0_31 a0_32 a0_34)), (h1, .inl (cA1, n1, .inl f1))] → va_S A s.heap H locs → v_M_inBrackets_40 I0 J0 n1 f1 x1 x2  Z N x3 → W p l e (headSpec (Cond.code (⟨"NumberDressModel", "inBrackets", "(I)I"⟩ : MethodName) prog_14_method_14_code 4 (some .int) :: zT) { frames := 2, cells := 0, slots := 0, locals := 42 }).room s m args below meth c H locs 0 0 (MQ below (va_Qi Z (zB (dC, dI) zCl [(cA1, .int)] A (fun u : Unit => [(h0, .inr (12, o_M I0 J0 h1 a0_4 a0_5 a0_6 a0_7 a0_8 a0_9 a0_10 a0_11 a0_22 a0_26 a0_29 a0_31 a0_32 a0_34)), (h1, .inl (cA1, n1, .inl f1))])) A) args s 0 0 A) (F0 m 40 ls []) := by
  obtain ⟨hx, hb, hr, hml, hown, ht, hlocks⟩ := id hc
  intro N
  induction N with
  | zero => intro x3 H locs ls hl hK hP hD hS hv; exact hv.elim
  | succ N hk40 =>
    intro x3 H locs ls hl hK hP hD hS hv
    unfold v_M_inBrackets_40 at hv
    refine lv_aload_n hx hb d_M_inBrackets_40 rfl (lv_at hl 0 rfl) ?_
    refine lv_iload_n hx hb d_M_inBrackets_41 rfl (lv_at hl 1 rfl) ?_
    refine lv_iconst (v := (1 : Int32)) hx hb d_M_inBrackets_42 (by decide) ?_
    refine lv_iadd hx hb d_M_inBrackets_43 ?_
    refine lv_iload_n hx hb d_M_inBrackets_44 rfl (lv_at hl 3 rfl) ?_
    refine lv_iadd hx hb d_M_inBrackets_45 ?_
    refine z_calli (wc := [(h0, .inr (12, o_M I0 J0 h1 a0_4 a0_5 a0_6 a0_7 a0_8 a0_9 a0_10 a0_11 a0_22 a0_26 a0_29 a0_31 a0_32 a0_34)), (h1, .inl (cA1, n1, .inl f1))]) (wr := []) [0, 1] [] (va_runV (As := [.int ((x1 + (1 : Int32)) + x3)]) (rest := []) ⟨hx, hb, hml, hown, ht⟩ (m_M_low l dC dI hv) ⟨(callB_of 1 ht (zG_in zi_M_low) rfl rfl rfl (ht _ zw_122) (ht _ zw_1438) zh_M_low ⟨Nat.le_of_ble_eq_true rfl, Nat.le_of_ble_eq_true rfl⟩), (ht _ zw_1440), (ht _ zw_67)⟩ ⟨zPc_blind, va_recv hK hP (ci := 12) (q0 := 0) rfl rfl, zPc_pre hP hK hD hS hA hE [0, 1] [0] rfl rfl (by decide) rfl⟩ rfl rfl hl.1 rfl (lv_room (Nat.le_of_ble_eq_true rfl)) d_M_inBrackets_46 ⟨Nat.le_of_ble_eq_true rfl, Nat.le_of_ble_eq_true rfl⟩) hP hD hS hA rfl rfl (by decide) (by decide) (fun r u H locs hv hP hD hS => ?_)
    have hP : va_P (dC, dI) zCl [(h0, .inr (12, o_M I0 J0 h1 a0_4 a0_5 a0_6 a0_7 a0_8 a0_9 a0_10 a0_11 a0_22 a0_26 a0_29 a0_31 a0_32 a0_34)), (h1, .inl (cA1, n1, .inl f1))] H := hP.sub [0, 1] rfl
    have hD : va_D A [(h0, .inr (12, o_M I0 J0 h1 a0_4 a0_5 a0_6 a0_7 a0_8 a0_9 a0_10 a0_11 a0_22 a0_26 a0_29 a0_31 a0_32 a0_34)), (h1, .inl (cA1, n1, .inl f1))] := hD.sub [0, 1] (by decide) rfl
    exact b_M_inBrackets_49 hc hA hE hk40 (lv_sub hl [0, 1, 2, 3] rfl) hK hP hD hS hv
set_option maxHeartbeats 4000000 in
set_option maxRecDepth 100000 in
theorem b_M_inBrackets_38 {h0 : Nat} {a0_4 : Nat} {a0_5 : Nat} {a0_6 : Nat} {a0_7 : Nat} {a0_8 : Nat} {a0_9 : Nat} {a0_10 : Nat} {a0_11 : Nat} {a0_22 : Nat} {a0_26 : Nat} {a0_29 : Nat} {a0_31 : Nat} {a0_32 : Nat} {a0_34 : Nat} {h1 : Nat} {cA1 : ClassId} {I0 : Nat → Int32} {J0 : Nat → Int64} {n1 : Nat} {f1 : Nat → Int32} {x1 : Int32} {x2 : Int32}  {Z : Int32 → Unit → Prop} {H : Heap} {locs : List Loc} {ls : Array Slot} (hc : zC p s m args meth c prog_14_method_14_code (some .int) 4 "NumberDressModel") (hA : ∀ q : Nat, s.heap.size ≤ q → A q) (hE : zE gE A s) (hl : lv_has ls 4 [(0, .ref h0), (1, .int x1), (2, .int x2)]) (hK : va_K (dC, dI) zCl [(cA1, .int)] s) (hP : va_P (dC, dI) zCl [(h0, .inr (12, o_M I0 J0 h1 a0_4 a0_5 a0_6 a0_7 a0_8 a0_9 a0_10 a0_11 a0_22 a0_26 a0_29 a0_31 a0_32 a0_34)), (h1, .inl (cA1, n1, .inl f1))] H) (hD : va_D A [(h0, .inr (12, o_M I0 J0 h1 a0_4 a0_5 a0_6 a0_7 a0_8 a0_9 a0_10 a0_11 a0_22 a0_26 a0_29 a0_31 a0_32 a0_34)), (h1, .inl (cA1, n1, .inl f1))]) (hS : va_S A s.heap H locs) (hv : v_M_inBrackets_38 I0 J0 n1 f1 x1 x2  Z) : W p l e (headSpec (Cond.code (⟨"NumberDressModel", "inBrackets", "(I)I"⟩ : MethodName) prog_14_method_14_code 4 (some .int) :: zT) { frames := 2, cells := 0, slots := 0, locals := 42 }).room s m args below meth c H locs 0 0 (MQ below (va_Qi Z (zB (dC, dI) zCl [(cA1, .int)] A (fun u : Unit => [(h0, .inr (12, o_M I0 J0 h1 a0_4 a0_5 a0_6 a0_7 a0_8 a0_9 a0_10 a0_11 a0_22 a0_26 a0_29 a0_31 a0_32 a0_34)), (h1, .inl (cA1, n1, .inl f1))])) A) args s 0 0 A) (F0 m 38 ls []) := by
  obtain ⟨hx, hb, hr, hml, hown, ht, hlocks⟩ := id hc
  unfold v_M_inBrackets_38 at hv
  refine lv_iconst (v := (0 : Int32)) hx hb d_M_inBrackets_38 (by decide) ?_
  refine lv_istore_n (lv' := [(3, .int (0 : Int32)), (0, .ref h0), (1, .int x1), (2, .int x2)]) hx hb d_M_inBrackets_39 rfl hl (by decide) rfl (fun ls hl => ?_)
  obtain ⟨Nx, hv⟩ := hv
  exact b_M_inBrackets_40 hc hA hE  Nx (0 : Int32) _ _ _ (lv_sub hl [1, 2, 3, 0] rfl) hK hP hD hS hv
set_option maxHeartbeats 4000000 in
set_option maxRecDepth 100000 in
theorem b_M_inBrackets_13 {h0 : Nat} {a0_4 : Nat} {a0_5 : Nat} {a0_6 : Nat} {a0_7 : Nat} {a0_8 : Nat} {a0_9 : Nat} {a0_10 : Nat} {a0_11 : Nat} {a0_22 : Nat} {a0_26 : Nat} {a0_29 : Nat} {a0_31 : Nat} {a0_32 : Nat} {a0_34 : Nat} {h1 : Nat} {cA1 : ClassId} {I0 : Nat → Int32} {J0 : Nat → Int64} {n1 : Nat} {f1 : Nat → Int32} {x1 : Int32} {x2 : Int32} {s0 : Int32}  {Z : Int32 → Unit → Prop} {H : Heap} {locs : List Loc} {ls : Array Slot} (hc : zC p s m args meth c prog_14_method_14_code (some .int) 4 "NumberDressModel") (hA : ∀ q : Nat, s.heap.size ≤ q → A q) (hE : zE gE A s) (hl : lv_has ls 4 [(0, .ref h0), (1, .int x1), (2, .int x2)]) (hK : va_K (dC, dI) zCl [(cA1, .int)] s) (hP : va_P (dC, dI) zCl [(h0, .inr (12, o_M I0 J0 h1 a0_4 a0_5 a0_6 a0_7 a0_8 a0_9 a0_10 a0_11 a0_22 a0_26 a0_29 a0_31 a0_32 a0_34)), (h1, .inl (cA1, n1, .inl f1))] H) (hD : va_D A [(h0, .inr (12, o_M I0 J0 h1 a0_4 a0_5 a0_6 a0_7 a0_8 a0_9 a0_10 a0_11 a0_22 a0_26 a0_29 a0_31 a0_32 a0_34)), (h1, .inl (cA1, n1, .inl f1))]) (hS : va_S A s.heap H locs) (hv : v_M_inBrackets_13 I0 J0 n1 f1 x1 x2 s0  Z) : W p l e (headSpec (Cond.code (⟨"NumberDressModel", "inBrackets", "(I)I"⟩ : MethodName) prog_14_method_14_code 4 (some .int) :: zT) { frames := 2, cells := 0, slots := 0, locals := 42 }).room s m args below meth c H locs 0 0 (MQ below (va_Qi Z (zB (dC, dI) zCl [(cA1, .int)] A (fun u : Unit => [(h0, .inr (12, o_M I0 J0 h1 a0_4 a0_5 a0_6 a0_7 a0_8 a0_9 a0_10 a0_11 a0_22 a0_26 a0_29 a0_31 a0_32 a0_34)), (h1, .inl (cA1, n1, .inl f1))])) A) args s 0 0 A) (F0 m 13 ls [.int s0]) := by
  obtain ⟨hx, hb, hr, hml, hown, ht, hlocks⟩ := id hc
  unfold v_M_inBrackets_13 at hv
  refine lv_bipush (v := (91 : Int32)) hx hb d_M_inBrackets_13 (by decide) ?_
  refine lv_icmp_ne (tgt := 36) hx hb d_M_inBrackets_15 (by decide) (fun c_1 => ?_) (fun c_1 => ?_)
  · have hv := hv.1 c_1
    refine lv_iconst (v := (0 : Int32)) hx hb d_M_inBrackets_36 (by decide) ?_
    exact W.iret (v := (0 : Int32)) hx hb hr (fun t ht hW => ⟨⟨_, (), rfl, hv, ⟨by rw [ht]; exact hP, va_K.moved hW.alike hK, hD⟩⟩, hS.F ht⟩) hS.2.2 d_M_inBrackets_37
  · have hv := hv.2 c_1
    refine lv_iload_n hx hb d_M_inBrackets_18 rfl (lv_at hl 2 rfl) ?_
    refine lv_bipush (v := (104 : Int32)) hx hb d_M_inBrackets_19 (by decide) ?_
    refine lv_icmp_eq (tgt := 38) hx hb d_M_inBrackets_21 (by decide) (fun c_2 => ?_) (fun c_2 => ?_)
    · have hv := hv.1 c_2
      exact b_M_inBrackets_38 hc hA hE  (lv_sub hl [0, 1, 2] rfl) hK hP hD hS hv
    · have hv := hv.2 c_2
      refine lv_iload_n hx hb d_M_inBrackets_24 rfl (lv_at hl 2 rfl) ?_
      refine lv_bipush (v := (109 : Int32)) hx hb d_M_inBrackets_25 (by decide) ?_
      refine lv_icmp_eq (tgt := 38) hx hb d_M_inBrackets_27 (by decide) (fun c_3 => ?_) (fun c_3 => ?_)
      · have hv := hv.1 c_3
        exact b_M_inBrackets_38 hc hA hE  (lv_sub hl [0, 1, 2] rfl) hK hP hD hS hv
      · have hv := hv.2 c_3
        refine lv_iload_n hx hb d_M_inBrackets_30 rfl (lv_at hl 2 rfl) ?_
        refine lv_bipush (v := (115 : Int32)) hx hb d_M_inBrackets_31 (by decide) ?_
        refine lv_icmp_eq (tgt := 38) hx hb d_M_inBrackets_33 (by decide) (fun c_4 => ?_) (fun c_4 => ?_)
        · have hv := hv.1 c_4
          exact b_M_inBrackets_38 hc hA hE  (lv_sub hl [0, 1, 2] rfl) hK hP hD hS hv
        · have hv := hv.2 c_4
          refine lv_iconst (v := (0 : Int32)) hx hb d_M_inBrackets_36 (by decide) ?_
          exact W.iret (v := (0 : Int32)) hx hb hr (fun t ht hW => ⟨⟨_, (), rfl, hv, ⟨by rw [ht]; exact hP, va_K.moved hW.alike hK, hD⟩⟩, hS.F ht⟩) hS.2.2 d_M_inBrackets_37
set_option maxHeartbeats 4000000 in
set_option maxRecDepth 100000 in
theorem b_M_inBrackets_7 {h0 : Nat} {a0_4 : Nat} {a0_5 : Nat} {a0_6 : Nat} {a0_7 : Nat} {a0_8 : Nat} {a0_9 : Nat} {a0_10 : Nat} {a0_11 : Nat} {a0_22 : Nat} {a0_26 : Nat} {a0_29 : Nat} {a0_31 : Nat} {a0_32 : Nat} {a0_34 : Nat} {h1 : Nat} {cA1 : ClassId} {I0 : Nat → Int32} {J0 : Nat → Int64} {n1 : Nat} {f1 : Nat → Int32} {x1 : Int32} {s0 : Int32}  {Z : Int32 → Unit → Prop} {H : Heap} {locs : List Loc} {ls : Array Slot} (hc : zC p s m args meth c prog_14_method_14_code (some .int) 4 "NumberDressModel") (hA : ∀ q : Nat, s.heap.size ≤ q → A q) (hE : zE gE A s) (hl : lv_has ls 4 [(0, .ref h0), (1, .int x1)]) (hK : va_K (dC, dI) zCl [(cA1, .int)] s) (hP : va_P (dC, dI) zCl [(h0, .inr (12, o_M I0 J0 h1 a0_4 a0_5 a0_6 a0_7 a0_8 a0_9 a0_10 a0_11 a0_22 a0_26 a0_29 a0_31 a0_32 a0_34)), (h1, .inl (cA1, n1, .inl f1))] H) (hD : va_D A [(h0, .inr (12, o_M I0 J0 h1 a0_4 a0_5 a0_6 a0_7 a0_8 a0_9 a0_10 a0_11 a0_22 a0_26 a0_29 a0_31 a0_32 a0_34)), (h1, .inl (cA1, n1, .inl f1))]) (hS : va_S A s.heap H locs) (hv : v_M_inBrackets_7 I0 J0 n1 f1 x1 s0  Z) : W p l e (headSpec (Cond.code (⟨"NumberDressModel", "inBrackets", "(I)I"⟩ : MethodName) prog_14_method_14_code 4 (some .int) :: zT) { frames := 2, cells := 0, slots := 0, locals := 42 }).room s m args below meth c H locs 0 0 (MQ below (va_Qi Z (zB (dC, dI) zCl [(cA1, .int)] A (fun u : Unit => [(h0, .inr (12, o_M I0 J0 h1 a0_4 a0_5 a0_6 a0_7 a0_8 a0_9 a0_10 a0_11 a0_22 a0_26 a0_29 a0_31 a0_32 a0_34)), (h1, .inl (cA1, n1, .inl f1))])) A) args s 0 0 A) (F0 m 7 ls [.int s0]) := by
  obtain ⟨hx, hb, hr, hml, hown, ht, hlocks⟩ := id hc
  unfold v_M_inBrackets_7 at hv
  refine lv_istore_n (lv' := [(2, .int s0), (0, .ref h0), (1, .int x1)]) hx hb d_M_inBrackets_7 rfl hl (by decide) rfl (fun ls hl => ?_)
  refine lv_aload_n hx hb d_M_inBrackets_8 rfl (lv_at hl 1 rfl) ?_
  refine lv_iload_n hx hb d_M_inBrackets_9 rfl (lv_at hl 2 rfl) ?_
  refine z_calli (wc := [(h0, .inr (12, o_M I0 J0 h1 a0_4 a0_5 a0_6 a0_7 a0_8 a0_9 a0_10 a0_11 a0_22 a0_26 a0_29 a0_31 a0_32 a0_34)), (h1, .inl (cA1, n1, .inl f1))]) (wr := []) [0, 1] [] (va_runV (As := [.int x1]) (rest := []) ⟨hx, hb, hml, hown, ht⟩ (m_M_ch l dC dI hv) ⟨(callB_of 1 ht (zG_in zi_M_ch) rfl rfl rfl (ht _ zw_122) (ht _ zw_1421) zh_M_ch ⟨Nat.le_of_ble_eq_true rfl, Nat.le_of_ble_eq_true rfl⟩), (ht _ zw_1423), (ht _ zw_63)⟩ ⟨zPc_blind, va_recv hK hP (ci := 12) (q0 := 0) rfl rfl, zPc_pre hP hK hD hS hA hE [0, 1] [0] rfl rfl (by decide) rfl⟩ rfl rfl hl.1 rfl (lv_room (Nat.le_of_ble_eq_true rfl)) d_M_inBrackets_10 ⟨Nat.le_of_ble_eq_true rfl, Nat.le_of_ble_eq_true rfl⟩) hP hD hS hA rfl rfl (by decide) (by decide) (fun r u H locs hv hP hD hS => ?_)
  have hP : va_P (dC, dI) zCl [(h0, .inr (12, o_M I0 J0 h1 a0_4 a0_5 a0_6 a0_7 a0_8 a0_9 a0_10 a0_11 a0_22 a0_26 a0_29 a0_31 a0_32 a0_34)), (h1, .inl (cA1, n1, .inl f1))] H := hP.sub [0, 1] rfl
  have hD : va_D A [(h0, .inr (12, o_M I0 J0 h1 a0_4 a0_5 a0_6 a0_7 a0_8 a0_9 a0_10 a0_11 a0_22 a0_26 a0_29 a0_31 a0_32 a0_34)), (h1, .inl (cA1, n1, .inl f1))] := hD.sub [0, 1] (by decide) rfl
  exact b_M_inBrackets_13 hc hA hE  (lv_sub hl [1, 2, 0] rfl) hK hP hD hS hv
set_option maxHeartbeats 4000000 in
set_option maxRecDepth 100000 in
theorem b_M_inBrackets_0 {h0 : Nat} {a0_4 : Nat} {a0_5 : Nat} {a0_6 : Nat} {a0_7 : Nat} {a0_8 : Nat} {a0_9 : Nat} {a0_10 : Nat} {a0_11 : Nat} {a0_22 : Nat} {a0_26 : Nat} {a0_29 : Nat} {a0_31 : Nat} {a0_32 : Nat} {a0_34 : Nat} {h1 : Nat} {cA1 : ClassId} {I0 : Nat → Int32} {J0 : Nat → Int64} {n1 : Nat} {f1 : Nat → Int32} {x1 : Int32}  {Z : Int32 → Unit → Prop} {H : Heap} {locs : List Loc} {ls : Array Slot} (hc : zC p s m args meth c prog_14_method_14_code (some .int) 4 "NumberDressModel") (hA : ∀ q : Nat, s.heap.size ≤ q → A q) (hE : zE gE A s) (hl : lv_has ls 4 [(0, .ref h0), (1, .int x1)]) (hK : va_K (dC, dI) zCl [(cA1, .int)] s) (hP : va_P (dC, dI) zCl [(h0, .inr (12, o_M I0 J0 h1 a0_4 a0_5 a0_6 a0_7 a0_8 a0_9 a0_10 a0_11 a0_22 a0_26 a0_29 a0_31 a0_32 a0_34)), (h1, .inl (cA1, n1, .inl f1))] H) (hD : va_D A [(h0, .inr (12, o_M I0 J0 h1 a0_4 a0_5 a0_6 a0_7 a0_8 a0_9 a0_10 a0_11 a0_22 a0_26 a0_29 a0_31 a0_32 a0_34)), (h1, .inl (cA1, n1, .inl f1))]) (hS : va_S A s.heap H locs) (hv : v_M_inBrackets_0 I0 J0 n1 f1 x1  Z) : W p l e (headSpec (Cond.code (⟨"NumberDressModel", "inBrackets", "(I)I"⟩ : MethodName) prog_14_method_14_code 4 (some .int) :: zT) { frames := 2, cells := 0, slots := 0, locals := 42 }).room s m args below meth c H locs 0 0 (MQ below (va_Qi Z (zB (dC, dI) zCl [(cA1, .int)] A (fun u : Unit => [(h0, .inr (12, o_M I0 J0 h1 a0_4 a0_5 a0_6 a0_7 a0_8 a0_9 a0_10 a0_11 a0_22 a0_26 a0_29 a0_31 a0_32 a0_34)), (h1, .inl (cA1, n1, .inl f1))])) A) args s 0 0 A) (F0 m 0 ls []) := by
  obtain ⟨hx, hb, hr, hml, hown, ht, hlocks⟩ := id hc
  unfold v_M_inBrackets_0 at hv
  refine lv_aload_n hx hb d_M_inBrackets_0 rfl (lv_at hl 0 rfl) ?_
  refine lv_iload_n hx hb d_M_inBrackets_1 rfl (lv_at hl 1 rfl) ?_
  refine lv_iconst (v := (1 : Int32)) hx hb d_M_inBrackets_2 (by decide) ?_
  refine lv_iadd hx hb d_M_inBrackets_3 ?_
  refine z_calli (wc := [(h0, .inr (12, o_M I0 J0 h1 a0_4 a0_5 a0_6 a0_7 a0_8 a0_9 a0_10 a0_11 a0_22 a0_26 a0_29 a0_31 a0_32 a0_34)), (h1, .inl (cA1, n1, .inl f1))]) (wr := []) [0, 1] [] (va_runV (As := [.int (x1 + (1 : Int32))]) (rest := []) ⟨hx, hb, hml, hown, ht⟩ (m_M_low l dC dI hv) ⟨(callB_of 1 ht (zG_in zi_M_low) rfl rfl rfl (ht _ zw_122) (ht _ zw_1438) zh_M_low ⟨Nat.le_of_ble_eq_true rfl, Nat.le_of_ble_eq_true rfl⟩), (ht _ zw_1440), (ht _ zw_67)⟩ ⟨zPc_blind, va_recv hK hP (ci := 12) (q0 := 0) rfl rfl, zPc_pre hP hK hD hS hA hE [0, 1] [0] rfl rfl (by decide) rfl⟩ rfl rfl hl.1 rfl (lv_room (Nat.le_of_ble_eq_true rfl)) d_M_inBrackets_4 ⟨Nat.le_of_ble_eq_true rfl, Nat.le_of_ble_eq_true rfl⟩) hP hD hS hA rfl rfl (by decide) (by decide) (fun r u H locs hv hP hD hS => ?_)
  have hP : va_P (dC, dI) zCl [(h0, .inr (12, o_M I0 J0 h1 a0_4 a0_5 a0_6 a0_7 a0_8 a0_9 a0_10 a0_11 a0_22 a0_26 a0_29 a0_31 a0_32 a0_34)), (h1, .inl (cA1, n1, .inl f1))] H := hP.sub [0, 1] rfl
  have hD : va_D A [(h0, .inr (12, o_M I0 J0 h1 a0_4 a0_5 a0_6 a0_7 a0_8 a0_9 a0_10 a0_11 a0_22 a0_26 a0_29 a0_31 a0_32 a0_34)), (h1, .inl (cA1, n1, .inl f1))] := hD.sub [0, 1] (by decide) rfl
  exact b_M_inBrackets_7 hc hA hE  (lv_sub hl [0, 1] rfl) hK hP hD hS hv
theorem zi_M_inBrackets : Cond.code (⟨"NumberDressModel", "inBrackets", "(I)I"⟩ : MethodName) prog_14_method_14_code 4 (some .int) ∈ zT := zw_1455
theorem zh_M_inBrackets : (((⟨"NumberDressModel", "inBrackets", "(I)I"⟩ : MethodName)).cls ≠ "java/lang/invoke/MethodHandle" ∧ ((⟨"NumberDressModel", "inBrackets", "(I)I"⟩ : MethodName)).cls ≠ "java/lang/invoke/VarHandle" ∧ (parseMethodDescriptor ((⟨"NumberDressModel", "inBrackets", "(I)I"⟩ : MethodName)).desc).map (fun d => d.parameters.length) = some 1) := by decide +kernel
set_option maxHeartbeats 4000000 in
set_option maxRecDepth 100000 in
theorem m_M_inBrackets (l : Launch) (dC : Nat → ClassId) (dI : Nat → Nat → Nat) {gE : zG} {h0 : Nat} {a0_4 : Nat} {a0_5 : Nat} {a0_6 : Nat} {a0_7 : Nat} {a0_8 : Nat} {a0_9 : Nat} {a0_10 : Nat} {a0_11 : Nat} {a0_22 : Nat} {a0_26 : Nat} {a0_29 : Nat} {a0_31 : Nat} {a0_32 : Nat} {a0_34 : Nat} {h1 : Nat} {cA1 : ClassId} {I0 : Nat → Int32} {J0 : Nat → Int64} {n1 : Nat} {f1 : Nat → Int32} {x1 : Int32} {sz : Nat} {Z : Int32 → Unit → Prop} (hv : v_M_inBrackets_0 I0 J0 n1 f1 x1 Z) : Met l (⟨"NumberDressModel", "inBrackets", "(I)I"⟩ : MethodName) (Cond.code (⟨"NumberDressModel", "inBrackets", "(I)I"⟩ : MethodName) prog_14_method_14_code 4 (some .int) :: zT) { frames := 2, cells := 0, slots := 0, locals := 42 } (zPc gE (dC, dI) zCl [(cA1, .int)] [.ref h0, .int x1] sz [(h0, .inr (12, o_M I0 J0 h1 a0_4 a0_5 a0_6 a0_7 a0_8 a0_9 a0_10 a0_11 a0_22 a0_26 a0_29 a0_31 a0_32 a0_34)), (h1, .inl (cA1, n1, .inl f1))]) (va_Qi Z (zB (dC, dI) zCl [(cA1, .int)] (va_A [(h0, .inr (12, o_M I0 J0 h1 a0_4 a0_5 a0_6 a0_7 a0_8 a0_9 a0_10 a0_11 a0_22 a0_26 a0_29 a0_31 a0_32 a0_34)), (h1, .inl (cA1, n1, .inl f1))] sz) (fun u : Unit => [(h0, .inr (12, o_M I0 J0 h1 a0_4 a0_5 a0_6 a0_7 a0_8 a0_9 a0_10 a0_11 a0_22 a0_26 a0_29 a0_31 a0_32 a0_34)), (h1, .inl (cA1, n1, .inl f1))])) (va_A [(h0, .inr (12, o_M I0 J0 h1 a0_4 a0_5 a0_6 a0_7 a0_8 a0_9 a0_10 a0_11 a0_22 a0_26 a0_29 a0_31 a0_32 a0_34)), (h1, .inl (cA1, n1, .inl f1))] sz)) 0 0 (va_A [(h0, .inr (12, o_M I0 J0 h1 a0_4 a0_5 a0_6 a0_7 a0_8 a0_9 a0_10 a0_11 a0_22 a0_26 a0_29 a0_31 a0_32 a0_34)), (h1, .inl (cA1, n1, .inl f1))] sz) := by
  refine Met.ofW (cc := prog_14_method_14_code) (maxL := 4) (ret := (some .int)) (by decide +kernel) rfl ?_
  intro p e s m args below meth c s₁ B hml hp
  obtain ⟨rfl, hsz, hP, hK, hD0, hE⟩ := hp
  have hts := atoms_spec (ws := (Cond.code (⟨"NumberDressModel", "inBrackets", "(I)I"⟩ : MethodName) prog_14_method_14_code 4 (some .int) :: zT)) B.pre
  have hown : s.vm.findClass "NumberDressModel" = some m.cls := findClass_of_methodNamed B.named
  have hc : zC p s m _ meth c prog_14_method_14_code (some .int) 4 "NumberDressModel" := ⟨B.exec, B.bytes, B.returns, hml, hown, fun w h => hts w (List.mem_cons_of_mem _ h), B.notSynchronized⟩
  subst hsz
  have hD := hD0.self (sz := s.heap.size)
  generalize hAe : va_A [(h0, .inr (12, o_M I0 J0 h1 a0_4 a0_5 a0_6 a0_7 a0_8 a0_9 a0_10 a0_11 a0_22 a0_26 a0_29 a0_31 a0_32 a0_34)), (h1, .inl (cA1, n1, .inl f1))] s.heap.size = A at hD hE ⊢
  have hA : ∀ q : Nat, s.heap.size ≤ q → A q := fun q h => by rw [← hAe]; exact Or.inr h
  have hl := lv_entry ([.ref h0, .int x1]) (n := 4) (Nat.le_of_ble_eq_true rfl)
  rw [lg_entry_eq]
  exact b_M_inBrackets_0 hc hA hE hl hK hP hD va_S.rf hv
theorem d_M_isPlace_0 : decode prog_14_method_15_code 0 = .ok (.iload_n 0, 1) := by decide +kernel
theorem d_M_isPlace_1 : decode prog_14_method_15_code 1 = .ok (.bipush 48, 2) := by decide +kernel
theorem d_M_isPlace_3 : decode prog_14_method_15_code 3 = .ok (.if_icmp .eq 15, 3) := by decide +kernel
theorem d_M_isPlace_6 : decode prog_14_method_15_code 6 = .ok (.iload_n 0, 1) := by decide +kernel
theorem d_M_isPlace_7 : decode prog_14_method_15_code 7 = .ok (.bipush 35, 2) := by decide +kernel
theorem d_M_isPlace_9 : decode prog_14_method_15_code 9 = .ok (.if_icmp .eq 9, 3) := by decide +kernel
theorem d_M_isPlace_12 : decode prog_14_method_15_code 12 = .ok (.iload_n 0, 1) := by decide +kernel
theorem d_M_isPlace_13 : decode prog_14_method_15_code 13 = .ok (.bipush 63, 2) := by decide +kernel
theorem d_M_isPlace_15 : decode prog_14_method_15_code 15 = .ok (.if_icmp .ne 7, 3) := by decide +kernel
theorem d_M_isPlace_18 : decode prog_14_method_15_code 18 = .ok (.iconst 1, 1) := by decide +kernel
theorem d_M_isPlace_19 : decode prog_14_method_15_code 19 = .ok (.goto 4, 3) := by decide +kernel
theorem d_M_isPlace_22 : decode prog_14_method_15_code 22 = .ok (.iconst 0, 1) := by decide +kernel
theorem d_M_isPlace_23 : decode prog_14_method_15_code 23 = .ok (.ireturn, 1) := by decide +kernel
set_option maxHeartbeats 4000000 in
set_option maxRecDepth 100000 in
theorem b_M_isPlace_0  {x0 : Int32}  {Z : Int32 → Unit → Prop} {H : Heap} {locs : List Loc} {ls : Array Slot} (hc : zC p s m args meth c prog_14_method_15_code (some .boolean) 1 "NumberDressModel") (hA : ∀ q : Nat, s.heap.size ≤ q → A q) (hE : zE gE A s) (hl : lv_has ls 1 [(0, .int x0)]) (hK : va_K (dC, dI) zCl [] s) (hP : va_P (dC, dI) zCl [] H) (hD : va_D A []) (hS : va_S A s.heap H locs) (hv : v_M_isPlace_0 x0  Z) : W p l e (headSpec (Cond.code (⟨"NumberDressModel", "isPlace", "(I)Z"⟩ : MethodName) prog_14_method_15_code 1 (some .boolean) :: zT) { frames := 0, cells := 0, slots := 0, locals := 0 }).room s m args below meth c H locs 0 0 (MQ below (va_Qi Z (zB (dC, dI) zCl [] A (fun u : Unit => [])) A) args s 0 0 A) (F0 m 0 ls []) := by
  obtain ⟨hx, hb, hr, hml, hown, ht, hlocks⟩ := id hc
  unfold v_M_isPlace_0 at hv
  refine lv_iload_n hx hb d_M_isPlace_0 rfl (lv_at hl 0 rfl) ?_
  refine lv_bipush (v := (48 : Int32)) hx hb d_M_isPlace_1 (by decide) ?_
  refine lv_icmp_eq (tgt := 18) hx hb d_M_isPlace_3 (by decide) (fun c_1 => ?_) (fun c_1 => ?_)
  · have hv := hv.1 c_1
    refine lv_iconst (v := (1 : Int32)) hx hb d_M_isPlace_18 (by decide) ?_
    refine lv_goto (tgt := 23) hx hb d_M_isPlace_19 (by decide) ?_
    exact W.zret (v := (1 : Int32)) hx hb hr (by decide) (fun t ht hW => ⟨⟨_, (), rfl, hv, ⟨by rw [ht]; exact hP, va_K.moved hW.alike hK, hD⟩⟩, hS.F ht⟩) hS.2.2 d_M_isPlace_23
  · have hv := hv.2 c_1
    refine lv_iload_n hx hb d_M_isPlace_6 rfl (lv_at hl 0 rfl) ?_
    refine lv_bipush (v := (35 : Int32)) hx hb d_M_isPlace_7 (by decide) ?_
    refine lv_icmp_eq (tgt := 18) hx hb d_M_isPlace_9 (by decide) (fun c_2 => ?_) (fun c_2 => ?_)
    · have hv := hv.1 c_2
      refine lv_iconst (v := (1 : Int32)) hx hb d_M_isPlace_18 (by decide) ?_
      refine lv_goto (tgt := 23) hx hb d_M_isPlace_19 (by decide) ?_
      exact W.zret (v := (1 : Int32)) hx hb hr (by decide) (fun t ht hW => ⟨⟨_, (), rfl, hv, ⟨by rw [ht]; exact hP, va_K.moved hW.alike hK, hD⟩⟩, hS.F ht⟩) hS.2.2 d_M_isPlace_23
    · have hv := hv.2 c_2
      refine lv_iload_n hx hb d_M_isPlace_12 rfl (lv_at hl 0 rfl) ?_
      refine lv_bipush (v := (63 : Int32)) hx hb d_M_isPlace_13 (by decide) ?_
      refine lv_icmp_ne (tgt := 22) hx hb d_M_isPlace_15 (by decide) (fun c_3 => ?_) (fun c_3 => ?_)
      · have hv := hv.1 c_3
        refine lv_iconst (v := (0 : Int32)) hx hb d_M_isPlace_22 (by decide) ?_
        exact W.zret (v := (0 : Int32)) hx hb hr (by decide) (fun t ht hW => ⟨⟨_, (), rfl, hv, ⟨by rw [ht]; exact hP, va_K.moved hW.alike hK, hD⟩⟩, hS.F ht⟩) hS.2.2 d_M_isPlace_23
      · have hv := hv.2 c_3
        refine lv_iconst (v := (1 : Int32)) hx hb d_M_isPlace_18 (by decide) ?_
        refine lv_goto (tgt := 23) hx hb d_M_isPlace_19 (by decide) ?_
        exact W.zret (v := (1 : Int32)) hx hb hr (by decide) (fun t ht hW => ⟨⟨_, (), rfl, hv, ⟨by rw [ht]; exact hP, va_K.moved hW.alike hK, hD⟩⟩, hS.F ht⟩) hS.2.2 d_M_isPlace_23
theorem zi_M_isPlace : Cond.code (⟨"NumberDressModel", "isPlace", "(I)Z"⟩ : MethodName) prog_14_method_15_code 1 (some .boolean) ∈ zT := zw_1448
theorem zh_M_isPlace : (((⟨"NumberDressModel", "isPlace", "(I)Z"⟩ : MethodName)).cls ≠ "java/lang/invoke/MethodHandle" ∧ ((⟨"NumberDressModel", "isPlace", "(I)Z"⟩ : MethodName)).cls ≠ "java/lang/invoke/VarHandle" ∧ (parseMethodDescriptor ((⟨"NumberDressModel", "isPlace", "(I)Z"⟩ : MethodName)).desc).map (fun d => d.parameters.length) = some 1) := by decide +kernel
set_option maxHeartbeats 4000000 in
set_option maxRecDepth 100000 in
theorem m_M_isPlace (l : Launch) (dC : Nat → ClassId) (dI : Nat → Nat → Nat) {gE : zG}  {x0 : Int32} {sz : Nat} {Z : Int32 → Unit → Prop} (hv : v_M_isPlace_0 x0 Z) : Met l (⟨"NumberDressModel", "isPlace", "(I)Z"⟩ : MethodName) (Cond.code (⟨"NumberDressModel", "isPlace", "(I)Z"⟩ : MethodName) prog_14_method_15_code 1 (some .boolean) :: zT) { frames := 0, cells := 0, slots := 0, locals := 0 } (zPc gE (dC, dI) zCl [] [.int x0] sz []) (va_Qi Z (zB (dC, dI) zCl [] (va_A [] sz) (fun u : Unit => [])) (va_A [] sz)) 0 0 (va_A [] sz) := by
  refine Met.ofW (cc := prog_14_method_15_code) (maxL := 1) (ret := (some .boolean)) (by decide +kernel) rfl ?_
  intro p e s m args below meth c s₁ B hml hp
  obtain ⟨rfl, hsz, hP, hK, hD0, hE⟩ := hp
  have hts := atoms_spec (ws := (Cond.code (⟨"NumberDressModel", "isPlace", "(I)Z"⟩ : MethodName) prog_14_method_15_code 1 (some .boolean) :: zT)) B.pre
  have hown : s.vm.findClass "NumberDressModel" = some m.cls := findClass_of_methodNamed B.named
  have hc : zC p s m _ meth c prog_14_method_15_code (some .boolean) 1 "NumberDressModel" := ⟨B.exec, B.bytes, B.returns, hml, hown, fun w h => hts w (List.mem_cons_of_mem _ h), B.notSynchronized⟩
  subst hsz
  have hD := hD0.self (sz := s.heap.size)
  generalize hAe : va_A [] s.heap.size = A at hD hE ⊢
  have hA : ∀ q : Nat, s.heap.size ≤ q → A q := fun q h => by rw [← hAe]; exact Or.inr h
  have hl := lv_entry ([.int x0]) (n := 1) (Nat.le_of_ble_eq_true rfl)
  rw [lg_entry_eq]
  exact b_M_isPlace_0 hc hA hE hl hK hP hD va_S.rf hv
theorem d_M_isRow_0 : decode prog_14_method_16_code 0 = .ok (.iload_n 0, 1) := by decide +kernel
theorem d_M_isRow_1 : decode prog_14_method_16_code 1 = .ok (.bipush 121, 2) := by decide +kernel
theorem d_M_isRow_3 : decode prog_14_method_16_code 3 = .ok (.if_icmp .eq 27, 3) := by decide +kernel
theorem d_M_isRow_6 : decode prog_14_method_16_code 6 = .ok (.iload_n 0, 1) := by decide +kernel
theorem d_M_isRow_7 : decode prog_14_method_16_code 7 = .ok (.bipush 109, 2) := by decide +kernel
theorem d_M_isRow_9 : decode prog_14_method_16_code 9 = .ok (.if_icmp .eq 21, 3) := by decide +kernel
theorem d_M_isRow_12 : decode prog_14_method_16_code 12 = .ok (.iload_n 0, 1) := by decide +kernel
theorem d_M_isRow_13 : decode prog_14_method_16_code 13 = .ok (.bipush 100, 2) := by decide +kernel
theorem d_M_isRow_15 : decode prog_14_method_16_code 15 = .ok (.if_icmp .eq 15, 3) := by decide +kernel
theorem d_M_isRow_18 : decode prog_14_method_16_code 18 = .ok (.iload_n 0, 1) := by decide +kernel
theorem d_M_isRow_19 : decode prog_14_method_16_code 19 = .ok (.bipush 104, 2) := by decide +kernel
theorem d_M_isRow_21 : decode prog_14_method_16_code 21 = .ok (.if_icmp .eq 9, 3) := by decide +kernel
theorem d_M_isRow_24 : decode prog_14_method_16_code 24 = .ok (.iload_n 0, 1) := by decide +kernel
theorem d_M_isRow_25 : decode prog_14_method_16_code 25 = .ok (.bipush 115, 2) := by decide +kernel
theorem d_M_isRow_27 : decode prog_14_method_16_code 27 = .ok (.if_icmp .ne 7, 3) := by decide +kernel
theorem d_M_isRow_30 : decode prog_14_method_16_code 30 = .ok (.iconst 1, 1) := by decide +kernel
theorem d_M_isRow_31 : decode prog_14_method_16_code 31 = .ok (.goto 4, 3) := by decide +kernel
theorem d_M_isRow_34 : decode prog_14_method_16_code 34 = .ok (.iconst 0, 1) := by decide +kernel
theorem d_M_isRow_35 : decode prog_14_method_16_code 35 = .ok (.ireturn, 1) := by decide +kernel
set_option maxHeartbeats 4000000 in
set_option maxRecDepth 100000 in
theorem b_M_isRow_0  {x0 : Int32}  {Z : Int32 → Unit → Prop} {H : Heap} {locs : List Loc} {ls : Array Slot} (hc : zC p s m args meth c prog_14_method_16_code (some .boolean) 1 "NumberDressModel") (hA : ∀ q : Nat, s.heap.size ≤ q → A q) (hE : zE gE A s) (hl : lv_has ls 1 [(0, .int x0)]) (hK : va_K (dC, dI) zCl [] s) (hP : va_P (dC, dI) zCl [] H) (hD : va_D A []) (hS : va_S A s.heap H locs) (hv : v_M_isRow_0 x0  Z) : W p l e (headSpec (Cond.code (⟨"NumberDressModel", "isRow", "(I)Z"⟩ : MethodName) prog_14_method_16_code 1 (some .boolean) :: zT) { frames := 0, cells := 0, slots := 0, locals := 0 }).room s m args below meth c H locs 0 0 (MQ below (va_Qi Z (zB (dC, dI) zCl [] A (fun u : Unit => [])) A) args s 0 0 A) (F0 m 0 ls []) := by
  obtain ⟨hx, hb, hr, hml, hown, ht, hlocks⟩ := id hc
  unfold v_M_isRow_0 at hv
  refine lv_iload_n hx hb d_M_isRow_0 rfl (lv_at hl 0 rfl) ?_
  refine lv_bipush (v := (121 : Int32)) hx hb d_M_isRow_1 (by decide) ?_
  refine lv_icmp_eq (tgt := 30) hx hb d_M_isRow_3 (by decide) (fun c_1 => ?_) (fun c_1 => ?_)
  · have hv := hv.1 c_1
    refine lv_iconst (v := (1 : Int32)) hx hb d_M_isRow_30 (by decide) ?_
    refine lv_goto (tgt := 35) hx hb d_M_isRow_31 (by decide) ?_
    exact W.zret (v := (1 : Int32)) hx hb hr (by decide) (fun t ht hW => ⟨⟨_, (), rfl, hv, ⟨by rw [ht]; exact hP, va_K.moved hW.alike hK, hD⟩⟩, hS.F ht⟩) hS.2.2 d_M_isRow_35
  · have hv := hv.2 c_1
    refine lv_iload_n hx hb d_M_isRow_6 rfl (lv_at hl 0 rfl) ?_
    refine lv_bipush (v := (109 : Int32)) hx hb d_M_isRow_7 (by decide) ?_
    refine lv_icmp_eq (tgt := 30) hx hb d_M_isRow_9 (by decide) (fun c_2 => ?_) (fun c_2 => ?_)
    · have hv := hv.1 c_2
      refine lv_iconst (v := (1 : Int32)) hx hb d_M_isRow_30 (by decide) ?_
      refine lv_goto (tgt := 35) hx hb d_M_isRow_31 (by decide) ?_
      exact W.zret (v := (1 : Int32)) hx hb hr (by decide) (fun t ht hW => ⟨⟨_, (), rfl, hv, ⟨by rw [ht]; exact hP, va_K.moved hW.alike hK, hD⟩⟩, hS.F ht⟩) hS.2.2 d_M_isRow_35
    · have hv := hv.2 c_2
      refine lv_iload_n hx hb d_M_isRow_12 rfl (lv_at hl 0 rfl) ?_
      refine lv_bipush (v := (100 : Int32)) hx hb d_M_isRow_13 (by decide) ?_
      refine lv_icmp_eq (tgt := 30) hx hb d_M_isRow_15 (by decide) (fun c_3 => ?_) (fun c_3 => ?_)
      · have hv := hv.1 c_3
        refine lv_iconst (v := (1 : Int32)) hx hb d_M_isRow_30 (by decide) ?_
        refine lv_goto (tgt := 35) hx hb d_M_isRow_31 (by decide) ?_
        exact W.zret (v := (1 : Int32)) hx hb hr (by decide) (fun t ht hW => ⟨⟨_, (), rfl, hv, ⟨by rw [ht]; exact hP, va_K.moved hW.alike hK, hD⟩⟩, hS.F ht⟩) hS.2.2 d_M_isRow_35
      · have hv := hv.2 c_3
        refine lv_iload_n hx hb d_M_isRow_18 rfl (lv_at hl 0 rfl) ?_
        refine lv_bipush (v := (104 : Int32)) hx hb d_M_isRow_19 (by decide) ?_
        refine lv_icmp_eq (tgt := 30) hx hb d_M_isRow_21 (by decide) (fun c_4 => ?_) (fun c_4 => ?_)
        · have hv := hv.1 c_4
          refine lv_iconst (v := (1 : Int32)) hx hb d_M_isRow_30 (by decide) ?_
          refine lv_goto (tgt := 35) hx hb d_M_isRow_31 (by decide) ?_
          exact W.zret (v := (1 : Int32)) hx hb hr (by decide) (fun t ht hW => ⟨⟨_, (), rfl, hv, ⟨by rw [ht]; exact hP, va_K.moved hW.alike hK, hD⟩⟩, hS.F ht⟩) hS.2.2 d_M_isRow_35
        · have hv := hv.2 c_4
          refine lv_iload_n hx hb d_M_isRow_24 rfl (lv_at hl 0 rfl) ?_
          refine lv_bipush (v := (115 : Int32)) hx hb d_M_isRow_25 (by decide) ?_
          refine lv_icmp_ne (tgt := 34) hx hb d_M_isRow_27 (by decide) (fun c_5 => ?_) (fun c_5 => ?_)
          · have hv := hv.1 c_5
            refine lv_iconst (v := (0 : Int32)) hx hb d_M_isRow_34 (by decide) ?_
            exact W.zret (v := (0 : Int32)) hx hb hr (by decide) (fun t ht hW => ⟨⟨_, (), rfl, hv, ⟨by rw [ht]; exact hP, va_K.moved hW.alike hK, hD⟩⟩, hS.F ht⟩) hS.2.2 d_M_isRow_35
          · have hv := hv.2 c_5
            refine lv_iconst (v := (1 : Int32)) hx hb d_M_isRow_30 (by decide) ?_
            refine lv_goto (tgt := 35) hx hb d_M_isRow_31 (by decide) ?_
            exact W.zret (v := (1 : Int32)) hx hb hr (by decide) (fun t ht hW => ⟨⟨_, (), rfl, hv, ⟨by rw [ht]; exact hP, va_K.moved hW.alike hK, hD⟩⟩, hS.F ht⟩) hS.2.2 d_M_isRow_35
theorem zi_M_isRow : Cond.code (⟨"NumberDressModel", "isRow", "(I)Z"⟩ : MethodName) prog_14_method_16_code 1 (some .boolean) ∈ zT := zw_1451
theorem zh_M_isRow : (((⟨"NumberDressModel", "isRow", "(I)Z"⟩ : MethodName)).cls ≠ "java/lang/invoke/MethodHandle" ∧ ((⟨"NumberDressModel", "isRow", "(I)Z"⟩ : MethodName)).cls ≠ "java/lang/invoke/VarHandle" ∧ (parseMethodDescriptor ((⟨"NumberDressModel", "isRow", "(I)Z"⟩ : MethodName)).desc).map (fun d => d.parameters.length) = some 1) := by decide +kernel
set_option maxHeartbeats 4000000 in
set_option maxRecDepth 100000 in
theorem m_M_isRow (l : Launch) (dC : Nat → ClassId) (dI : Nat → Nat → Nat) {gE : zG}  {x0 : Int32} {sz : Nat} {Z : Int32 → Unit → Prop} (hv : v_M_isRow_0 x0 Z) : Met l (⟨"NumberDressModel", "isRow", "(I)Z"⟩ : MethodName) (Cond.code (⟨"NumberDressModel", "isRow", "(I)Z"⟩ : MethodName) prog_14_method_16_code 1 (some .boolean) :: zT) { frames := 0, cells := 0, slots := 0, locals := 0 } (zPc gE (dC, dI) zCl [] [.int x0] sz []) (va_Qi Z (zB (dC, dI) zCl [] (va_A [] sz) (fun u : Unit => [])) (va_A [] sz)) 0 0 (va_A [] sz) := by
  refine Met.ofW (cc := prog_14_method_16_code) (maxL := 1) (ret := (some .boolean)) (by decide +kernel) rfl ?_
  intro p e s m args below meth c s₁ B hml hp
  obtain ⟨rfl, hsz, hP, hK, hD0, hE⟩ := hp
  have hts := atoms_spec (ws := (Cond.code (⟨"NumberDressModel", "isRow", "(I)Z"⟩ : MethodName) prog_14_method_16_code 1 (some .boolean) :: zT)) B.pre
  have hown : s.vm.findClass "NumberDressModel" = some m.cls := findClass_of_methodNamed B.named
  have hc : zC p s m _ meth c prog_14_method_16_code (some .boolean) 1 "NumberDressModel" := ⟨B.exec, B.bytes, B.returns, hml, hown, fun w h => hts w (List.mem_cons_of_mem _ h), B.notSynchronized⟩
  subst hsz
  have hD := hD0.self (sz := s.heap.size)
  generalize hAe : va_A [] s.heap.size = A at hD hE ⊢
  have hA : ∀ q : Nat, s.heap.size ≤ q → A q := fun q h => by rw [← hAe]; exact Or.inr h
  have hl := lv_entry ([.int x0]) (n := 1) (Nat.le_of_ble_eq_true rfl)
  rw [lg_entry_eq]
  exact b_M_isRow_0 hc hA hE hl hK hP hD va_S.rf hv
theorem d_M_isSign_0 : decode prog_14_method_17_code 0 = .ok (.iload_n 0, 1) := by decide +kernel
theorem d_M_isSign_1 : decode prog_14_method_17_code 1 = .ok (.bipush 32, 2) := by decide +kernel
theorem d_M_isSign_3 : decode prog_14_method_17_code 3 = .ok (.if_icmp .eq 99, 3) := by decide +kernel
theorem d_M_isSign_6 : decode prog_14_method_17_code 6 = .ok (.iload_n 0, 1) := by decide +kernel
theorem d_M_isSign_7 : decode prog_14_method_17_code 7 = .ok (.bipush 36, 2) := by decide +kernel
theorem d_M_isSign_9 : decode prog_14_method_17_code 9 = .ok (.if_icmp .eq 93, 3) := by decide +kernel
theorem d_M_isSign_12 : decode prog_14_method_17_code 12 = .ok (.iload_n 0, 1) := by decide +kernel
theorem d_M_isSign_13 : decode prog_14_method_17_code 13 = .ok (.bipush 45, 2) := by decide +kernel
theorem d_M_isSign_15 : decode prog_14_method_17_code 15 = .ok (.if_icmp .eq 87, 3) := by decide +kernel
theorem d_M_isSign_18 : decode prog_14_method_17_code 18 = .ok (.iload_n 0, 1) := by decide +kernel
theorem d_M_isSign_19 : decode prog_14_method_17_code 19 = .ok (.bipush 43, 2) := by decide +kernel
theorem d_M_isSign_21 : decode prog_14_method_17_code 21 = .ok (.if_icmp .eq 81, 3) := by decide +kernel
theorem d_M_isSign_24 : decode prog_14_method_17_code 24 = .ok (.iload_n 0, 1) := by decide +kernel
theorem d_M_isSign_25 : decode prog_14_method_17_code 25 = .ok (.bipush 40, 2) := by decide +kernel
theorem d_M_isSign_27 : decode prog_14_method_17_code 27 = .ok (.if_icmp .eq 75, 3) := by decide +kernel
theorem d_M_isSign_30 : decode prog_14_method_17_code 30 = .ok (.iload_n 0, 1) := by decide +kernel
theorem d_M_isSign_31 : decode prog_14_method_17_code 31 = .ok (.bipush 41, 2) := by decide +kernel
theorem d_M_isSign_33 : decode prog_14_method_17_code 33 = .ok (.if_icmp .eq 69, 3) := by decide +kernel
theorem d_M_isSign_36 : decode prog_14_method_17_code 36 = .ok (.iload_n 0, 1) := by decide +kernel
theorem d_M_isSign_37 : decode prog_14_method_17_code 37 = .ok (.bipush 58, 2) := by decide +kernel
theorem d_M_isSign_39 : decode prog_14_method_17_code 39 = .ok (.if_icmp .eq 63, 3) := by decide +kernel
theorem d_M_isSign_42 : decode prog_14_method_17_code 42 = .ok (.iload_n 0, 1) := by decide +kernel
theorem d_M_isSign_43 : decode prog_14_method_17_code 43 = .ok (.bipush 33, 2) := by decide +kernel
theorem d_M_isSign_45 : decode prog_14_method_17_code 45 = .ok (.if_icmp .eq 57, 3) := by decide +kernel
theorem d_M_isSign_48 : decode prog_14_method_17_code 48 = .ok (.iload_n 0, 1) := by decide +kernel
theorem d_M_isSign_49 : decode prog_14_method_17_code 49 = .ok (.bipush 94, 2) := by decide +kernel
theorem d_M_isSign_51 : decode prog_14_method_17_code 51 = .ok (.if_icmp .eq 51, 3) := by decide +kernel
theorem d_M_isSign_54 : decode prog_14_method_17_code 54 = .ok (.iload_n 0, 1) := by decide +kernel
theorem d_M_isSign_55 : decode prog_14_method_17_code 55 = .ok (.bipush 38, 2) := by decide +kernel
theorem d_M_isSign_57 : decode prog_14_method_17_code 57 = .ok (.if_icmp .eq 45, 3) := by decide +kernel
theorem d_M_isSign_60 : decode prog_14_method_17_code 60 = .ok (.iload_n 0, 1) := by decide +kernel
theorem d_M_isSign_61 : decode prog_14_method_17_code 61 = .ok (.bipush 39, 2) := by decide +kernel
theorem d_M_isSign_63 : decode prog_14_method_17_code 63 = .ok (.if_icmp .eq 39, 3) := by decide +kernel
theorem d_M_isSign_66 : decode prog_14_method_17_code 66 = .ok (.iload_n 0, 1) := by decide +kernel
theorem d_M_isSign_67 : decode prog_14_method_17_code 67 = .ok (.bipush 126, 2) := by decide +kernel
theorem d_M_isSign_69 : decode prog_14_method_17_code 69 = .ok (.if_icmp .eq 33, 3) := by decide +kernel
theorem d_M_isSign_72 : decode prog_14_method_17_code 72 = .ok (.iload_n 0, 1) := by decide +kernel
theorem d_M_isSign_73 : decode prog_14_method_17_code 73 = .ok (.bipush 123, 2) := by decide +kernel
theorem d_M_isSign_75 : decode prog_14_method_17_code 75 = .ok (.if_icmp .eq 27, 3) := by decide +kernel
theorem d_M_isSign_78 : decode prog_14_method_17_code 78 = .ok (.iload_n 0, 1) := by decide +kernel
theorem d_M_isSign_79 : decode prog_14_method_17_code 79 = .ok (.bipush 125, 2) := by decide +kernel
theorem d_M_isSign_81 : decode prog_14_method_17_code 81 = .ok (.if_icmp .eq 21, 3) := by decide +kernel
theorem d_M_isSign_84 : decode prog_14_method_17_code 84 = .ok (.iload_n 0, 1) := by decide +kernel
theorem d_M_isSign_85 : decode prog_14_method_17_code 85 = .ok (.bipush 60, 2) := by decide +kernel
theorem d_M_isSign_87 : decode prog_14_method_17_code 87 = .ok (.if_icmp .eq 15, 3) := by decide +kernel
theorem d_M_isSign_90 : decode prog_14_method_17_code 90 = .ok (.iload_n 0, 1) := by decide +kernel
theorem d_M_isSign_91 : decode prog_14_method_17_code 91 = .ok (.bipush 62, 2) := by decide +kernel
theorem d_M_isSign_93 : decode prog_14_method_17_code 93 = .ok (.if_icmp .eq 9, 3) := by decide +kernel
theorem d_M_isSign_96 : decode prog_14_method_17_code 96 = .ok (.iload_n 0, 1) := by decide +kernel
theorem d_M_isSign_97 : decode prog_14_method_17_code 97 = .ok (.bipush 61, 2) := by decide +kernel
theorem d_M_isSign_99 : decode prog_14_method_17_code 99 = .ok (.if_icmp .ne 7, 3) := by decide +kernel
theorem d_M_isSign_102 : decode prog_14_method_17_code 102 = .ok (.iconst 1, 1) := by decide +kernel
theorem d_M_isSign_103 : decode prog_14_method_17_code 103 = .ok (.goto 4, 3) := by decide +kernel
theorem d_M_isSign_106 : decode prog_14_method_17_code 106 = .ok (.iconst 0, 1) := by decide +kernel
theorem d_M_isSign_107 : decode prog_14_method_17_code 107 = .ok (.ireturn, 1) := by decide +kernel
set_option maxHeartbeats 4000000 in
set_option maxRecDepth 100000 in
theorem b_M_isSign_0  {x0 : Int32}  {Z : Int32 → Unit → Prop} {H : Heap} {locs : List Loc} {ls : Array Slot} (hc : zC p s m args meth c prog_14_method_17_code (some .boolean) 1 "NumberDressModel") (hA : ∀ q : Nat, s.heap.size ≤ q → A q) (hE : zE gE A s) (hl : lv_has ls 1 [(0, .int x0)]) (hK : va_K (dC, dI) zCl [] s) (hP : va_P (dC, dI) zCl [] H) (hD : va_D A []) (hS : va_S A s.heap H locs) (hv : v_M_isSign_0 x0  Z) : W p l e (headSpec (Cond.code (⟨"NumberDressModel", "isSign", "(I)Z"⟩ : MethodName) prog_14_method_17_code 1 (some .boolean) :: zT) { frames := 0, cells := 0, slots := 0, locals := 0 }).room s m args below meth c H locs 0 0 (MQ below (va_Qi Z (zB (dC, dI) zCl [] A (fun u : Unit => [])) A) args s 0 0 A) (F0 m 0 ls []) := by
  obtain ⟨hx, hb, hr, hml, hown, ht, hlocks⟩ := id hc
  unfold v_M_isSign_0 at hv
  refine lv_iload_n hx hb d_M_isSign_0 rfl (lv_at hl 0 rfl) ?_
  refine lv_bipush (v := (32 : Int32)) hx hb d_M_isSign_1 (by decide) ?_
  refine lv_icmp_eq (tgt := 102) hx hb d_M_isSign_3 (by decide) (fun c_1 => ?_) (fun c_1 => ?_)
  · have hv := hv.1 c_1
    refine lv_iconst (v := (1 : Int32)) hx hb d_M_isSign_102 (by decide) ?_
    refine lv_goto (tgt := 107) hx hb d_M_isSign_103 (by decide) ?_
    exact W.zret (v := (1 : Int32)) hx hb hr (by decide) (fun t ht hW => ⟨⟨_, (), rfl, hv, ⟨by rw [ht]; exact hP, va_K.moved hW.alike hK, hD⟩⟩, hS.F ht⟩) hS.2.2 d_M_isSign_107
  · have hv := hv.2 c_1
    refine lv_iload_n hx hb d_M_isSign_6 rfl (lv_at hl 0 rfl) ?_
    refine lv_bipush (v := (36 : Int32)) hx hb d_M_isSign_7 (by decide) ?_
    refine lv_icmp_eq (tgt := 102) hx hb d_M_isSign_9 (by decide) (fun c_2 => ?_) (fun c_2 => ?_)
    · have hv := hv.1 c_2
      refine lv_iconst (v := (1 : Int32)) hx hb d_M_isSign_102 (by decide) ?_
      refine lv_goto (tgt := 107) hx hb d_M_isSign_103 (by decide) ?_
      exact W.zret (v := (1 : Int32)) hx hb hr (by decide) (fun t ht hW => ⟨⟨_, (), rfl, hv, ⟨by rw [ht]; exact hP, va_K.moved hW.alike hK, hD⟩⟩, hS.F ht⟩) hS.2.2 d_M_isSign_107
    · have hv := hv.2 c_2
      refine lv_iload_n hx hb d_M_isSign_12 rfl (lv_at hl 0 rfl) ?_
      refine lv_bipush (v := (45 : Int32)) hx hb d_M_isSign_13 (by decide) ?_
      refine lv_icmp_eq (tgt := 102) hx hb d_M_isSign_15 (by decide) (fun c_3 => ?_) (fun c_3 => ?_)
      · have hv := hv.1 c_3
        refine lv_iconst (v := (1 : Int32)) hx hb d_M_isSign_102 (by decide) ?_
        refine lv_goto (tgt := 107) hx hb d_M_isSign_103 (by decide) ?_
        exact W.zret (v := (1 : Int32)) hx hb hr (by decide) (fun t ht hW => ⟨⟨_, (), rfl, hv, ⟨by rw [ht]; exact hP, va_K.moved hW.alike hK, hD⟩⟩, hS.F ht⟩) hS.2.2 d_M_isSign_107
      · have hv := hv.2 c_3
        refine lv_iload_n hx hb d_M_isSign_18 rfl (lv_at hl 0 rfl) ?_
        refine lv_bipush (v := (43 : Int32)) hx hb d_M_isSign_19 (by decide) ?_
        refine lv_icmp_eq (tgt := 102) hx hb d_M_isSign_21 (by decide) (fun c_4 => ?_) (fun c_4 => ?_)
        · have hv := hv.1 c_4
          refine lv_iconst (v := (1 : Int32)) hx hb d_M_isSign_102 (by decide) ?_
          refine lv_goto (tgt := 107) hx hb d_M_isSign_103 (by decide) ?_
          exact W.zret (v := (1 : Int32)) hx hb hr (by decide) (fun t ht hW => ⟨⟨_, (), rfl, hv, ⟨by rw [ht]; exact hP, va_K.moved hW.alike hK, hD⟩⟩, hS.F ht⟩) hS.2.2 d_M_isSign_107
        · have hv := hv.2 c_4
          refine lv_iload_n hx hb d_M_isSign_24 rfl (lv_at hl 0 rfl) ?_
          refine lv_bipush (v := (40 : Int32)) hx hb d_M_isSign_25 (by decide) ?_
          refine lv_icmp_eq (tgt := 102) hx hb d_M_isSign_27 (by decide) (fun c_5 => ?_) (fun c_5 => ?_)
          · have hv := hv.1 c_5
            refine lv_iconst (v := (1 : Int32)) hx hb d_M_isSign_102 (by decide) ?_
            refine lv_goto (tgt := 107) hx hb d_M_isSign_103 (by decide) ?_
            exact W.zret (v := (1 : Int32)) hx hb hr (by decide) (fun t ht hW => ⟨⟨_, (), rfl, hv, ⟨by rw [ht]; exact hP, va_K.moved hW.alike hK, hD⟩⟩, hS.F ht⟩) hS.2.2 d_M_isSign_107
          · have hv := hv.2 c_5
            refine lv_iload_n hx hb d_M_isSign_30 rfl (lv_at hl 0 rfl) ?_
            refine lv_bipush (v := (41 : Int32)) hx hb d_M_isSign_31 (by decide) ?_
            refine lv_icmp_eq (tgt := 102) hx hb d_M_isSign_33 (by decide) (fun c_6 => ?_) (fun c_6 => ?_)
            · have hv := hv.1 c_6
              refine lv_iconst (v := (1 : Int32)) hx hb d_M_isSign_102 (by decide) ?_
              refine lv_goto (tgt := 107) hx hb d_M_isSign_103 (by decide) ?_
              exact W.zret (v := (1 : Int32)) hx hb hr (by decide) (fun t ht hW => ⟨⟨_, (), rfl, hv, ⟨by rw [ht]; exact hP, va_K.moved hW.alike hK, hD⟩⟩, hS.F ht⟩) hS.2.2 d_M_isSign_107
            · have hv := hv.2 c_6
              refine lv_iload_n hx hb d_M_isSign_36 rfl (lv_at hl 0 rfl) ?_
              refine lv_bipush (v := (58 : Int32)) hx hb d_M_isSign_37 (by decide) ?_
              refine lv_icmp_eq (tgt := 102) hx hb d_M_isSign_39 (by decide) (fun c_7 => ?_) (fun c_7 => ?_)
              · have hv := hv.1 c_7
                refine lv_iconst (v := (1 : Int32)) hx hb d_M_isSign_102 (by decide) ?_
                refine lv_goto (tgt := 107) hx hb d_M_isSign_103 (by decide) ?_
                exact W.zret (v := (1 : Int32)) hx hb hr (by decide) (fun t ht hW => ⟨⟨_, (), rfl, hv, ⟨by rw [ht]; exact hP, va_K.moved hW.alike hK, hD⟩⟩, hS.F ht⟩) hS.2.2 d_M_isSign_107
              · have hv := hv.2 c_7
                refine lv_iload_n hx hb d_M_isSign_42 rfl (lv_at hl 0 rfl) ?_
                refine lv_bipush (v := (33 : Int32)) hx hb d_M_isSign_43 (by decide) ?_
                refine lv_icmp_eq (tgt := 102) hx hb d_M_isSign_45 (by decide) (fun c_8 => ?_) (fun c_8 => ?_)
                · have hv := hv.1 c_8
                  refine lv_iconst (v := (1 : Int32)) hx hb d_M_isSign_102 (by decide) ?_
                  refine lv_goto (tgt := 107) hx hb d_M_isSign_103 (by decide) ?_
                  exact W.zret (v := (1 : Int32)) hx hb hr (by decide) (fun t ht hW => ⟨⟨_, (), rfl, hv, ⟨by rw [ht]; exact hP, va_K.moved hW.alike hK, hD⟩⟩, hS.F ht⟩) hS.2.2 d_M_isSign_107
                · have hv := hv.2 c_8
                  refine lv_iload_n hx hb d_M_isSign_48 rfl (lv_at hl 0 rfl) ?_
                  refine lv_bipush (v := (94 : Int32)) hx hb d_M_isSign_49 (by decide) ?_
                  refine lv_icmp_eq (tgt := 102) hx hb d_M_isSign_51 (by decide) (fun c_9 => ?_) (fun c_9 => ?_)
                  · have hv := hv.1 c_9
                    refine lv_iconst (v := (1 : Int32)) hx hb d_M_isSign_102 (by decide) ?_
                    refine lv_goto (tgt := 107) hx hb d_M_isSign_103 (by decide) ?_
                    exact W.zret (v := (1 : Int32)) hx hb hr (by decide) (fun t ht hW => ⟨⟨_, (), rfl, hv, ⟨by rw [ht]; exact hP, va_K.moved hW.alike hK, hD⟩⟩, hS.F ht⟩) hS.2.2 d_M_isSign_107
                  · have hv := hv.2 c_9
                    refine lv_iload_n hx hb d_M_isSign_54 rfl (lv_at hl 0 rfl) ?_
                    refine lv_bipush (v := (38 : Int32)) hx hb d_M_isSign_55 (by decide) ?_
                    refine lv_icmp_eq (tgt := 102) hx hb d_M_isSign_57 (by decide) (fun c_10 => ?_) (fun c_10 => ?_)
                    · have hv := hv.1 c_10
                      refine lv_iconst (v := (1 : Int32)) hx hb d_M_isSign_102 (by decide) ?_
                      refine lv_goto (tgt := 107) hx hb d_M_isSign_103 (by decide) ?_
                      exact W.zret (v := (1 : Int32)) hx hb hr (by decide) (fun t ht hW => ⟨⟨_, (), rfl, hv, ⟨by rw [ht]; exact hP, va_K.moved hW.alike hK, hD⟩⟩, hS.F ht⟩) hS.2.2 d_M_isSign_107
                    · have hv := hv.2 c_10
                      refine lv_iload_n hx hb d_M_isSign_60 rfl (lv_at hl 0 rfl) ?_
                      refine lv_bipush (v := (39 : Int32)) hx hb d_M_isSign_61 (by decide) ?_
                      refine lv_icmp_eq (tgt := 102) hx hb d_M_isSign_63 (by decide) (fun c_11 => ?_) (fun c_11 => ?_)
                      · have hv := hv.1 c_11
                        refine lv_iconst (v := (1 : Int32)) hx hb d_M_isSign_102 (by decide) ?_
                        refine lv_goto (tgt := 107) hx hb d_M_isSign_103 (by decide) ?_
                        exact W.zret (v := (1 : Int32)) hx hb hr (by decide) (fun t ht hW => ⟨⟨_, (), rfl, hv, ⟨by rw [ht]; exact hP, va_K.moved hW.alike hK, hD⟩⟩, hS.F ht⟩) hS.2.2 d_M_isSign_107
                      · have hv := hv.2 c_11
                        refine lv_iload_n hx hb d_M_isSign_66 rfl (lv_at hl 0 rfl) ?_
                        refine lv_bipush (v := (126 : Int32)) hx hb d_M_isSign_67 (by decide) ?_
                        refine lv_icmp_eq (tgt := 102) hx hb d_M_isSign_69 (by decide) (fun c_12 => ?_) (fun c_12 => ?_)
                        · have hv := hv.1 c_12
                          refine lv_iconst (v := (1 : Int32)) hx hb d_M_isSign_102 (by decide) ?_
                          refine lv_goto (tgt := 107) hx hb d_M_isSign_103 (by decide) ?_
                          exact W.zret (v := (1 : Int32)) hx hb hr (by decide) (fun t ht hW => ⟨⟨_, (), rfl, hv, ⟨by rw [ht]; exact hP, va_K.moved hW.alike hK, hD⟩⟩, hS.F ht⟩) hS.2.2 d_M_isSign_107
                        · have hv := hv.2 c_12
                          refine lv_iload_n hx hb d_M_isSign_72 rfl (lv_at hl 0 rfl) ?_
                          refine lv_bipush (v := (123 : Int32)) hx hb d_M_isSign_73 (by decide) ?_
                          refine lv_icmp_eq (tgt := 102) hx hb d_M_isSign_75 (by decide) (fun c_13 => ?_) (fun c_13 => ?_)
                          · have hv := hv.1 c_13
                            refine lv_iconst (v := (1 : Int32)) hx hb d_M_isSign_102 (by decide) ?_
                            refine lv_goto (tgt := 107) hx hb d_M_isSign_103 (by decide) ?_
                            exact W.zret (v := (1 : Int32)) hx hb hr (by decide) (fun t ht hW => ⟨⟨_, (), rfl, hv, ⟨by rw [ht]; exact hP, va_K.moved hW.alike hK, hD⟩⟩, hS.F ht⟩) hS.2.2 d_M_isSign_107
                          · have hv := hv.2 c_13
                            refine lv_iload_n hx hb d_M_isSign_78 rfl (lv_at hl 0 rfl) ?_
                            refine lv_bipush (v := (125 : Int32)) hx hb d_M_isSign_79 (by decide) ?_
                            refine lv_icmp_eq (tgt := 102) hx hb d_M_isSign_81 (by decide) (fun c_14 => ?_) (fun c_14 => ?_)
                            · have hv := hv.1 c_14
                              refine lv_iconst (v := (1 : Int32)) hx hb d_M_isSign_102 (by decide) ?_
                              refine lv_goto (tgt := 107) hx hb d_M_isSign_103 (by decide) ?_
                              exact W.zret (v := (1 : Int32)) hx hb hr (by decide) (fun t ht hW => ⟨⟨_, (), rfl, hv, ⟨by rw [ht]; exact hP, va_K.moved hW.alike hK, hD⟩⟩, hS.F ht⟩) hS.2.2 d_M_isSign_107
                            · have hv := hv.2 c_14
                              refine lv_iload_n hx hb d_M_isSign_84 rfl (lv_at hl 0 rfl) ?_
                              refine lv_bipush (v := (60 : Int32)) hx hb d_M_isSign_85 (by decide) ?_
                              refine lv_icmp_eq (tgt := 102) hx hb d_M_isSign_87 (by decide) (fun c_15 => ?_) (fun c_15 => ?_)
                              · have hv := hv.1 c_15
                                refine lv_iconst (v := (1 : Int32)) hx hb d_M_isSign_102 (by decide) ?_
                                refine lv_goto (tgt := 107) hx hb d_M_isSign_103 (by decide) ?_
                                exact W.zret (v := (1 : Int32)) hx hb hr (by decide) (fun t ht hW => ⟨⟨_, (), rfl, hv, ⟨by rw [ht]; exact hP, va_K.moved hW.alike hK, hD⟩⟩, hS.F ht⟩) hS.2.2 d_M_isSign_107
                              · have hv := hv.2 c_15
                                refine lv_iload_n hx hb d_M_isSign_90 rfl (lv_at hl 0 rfl) ?_
                                refine lv_bipush (v := (62 : Int32)) hx hb d_M_isSign_91 (by decide) ?_
                                refine lv_icmp_eq (tgt := 102) hx hb d_M_isSign_93 (by decide) (fun c_16 => ?_) (fun c_16 => ?_)
                                · have hv := hv.1 c_16
                                  refine lv_iconst (v := (1 : Int32)) hx hb d_M_isSign_102 (by decide) ?_
                                  refine lv_goto (tgt := 107) hx hb d_M_isSign_103 (by decide) ?_
                                  exact W.zret (v := (1 : Int32)) hx hb hr (by decide) (fun t ht hW => ⟨⟨_, (), rfl, hv, ⟨by rw [ht]; exact hP, va_K.moved hW.alike hK, hD⟩⟩, hS.F ht⟩) hS.2.2 d_M_isSign_107
                                · have hv := hv.2 c_16
                                  refine lv_iload_n hx hb d_M_isSign_96 rfl (lv_at hl 0 rfl) ?_
                                  refine lv_bipush (v := (61 : Int32)) hx hb d_M_isSign_97 (by decide) ?_
                                  refine lv_icmp_ne (tgt := 106) hx hb d_M_isSign_99 (by decide) (fun c_17 => ?_) (fun c_17 => ?_)
                                  · have hv := hv.1 c_17
                                    refine lv_iconst (v := (0 : Int32)) hx hb d_M_isSign_106 (by decide) ?_
                                    exact W.zret (v := (0 : Int32)) hx hb hr (by decide) (fun t ht hW => ⟨⟨_, (), rfl, hv, ⟨by rw [ht]; exact hP, va_K.moved hW.alike hK, hD⟩⟩, hS.F ht⟩) hS.2.2 d_M_isSign_107
                                  · have hv := hv.2 c_17
                                    refine lv_iconst (v := (1 : Int32)) hx hb d_M_isSign_102 (by decide) ?_
                                    refine lv_goto (tgt := 107) hx hb d_M_isSign_103 (by decide) ?_
                                    exact W.zret (v := (1 : Int32)) hx hb hr (by decide) (fun t ht hW => ⟨⟨_, (), rfl, hv, ⟨by rw [ht]; exact hP, va_K.moved hW.alike hK, hD⟩⟩, hS.F ht⟩) hS.2.2 d_M_isSign_107
theorem zi_M_isSign : Cond.code (⟨"NumberDressModel", "isSign", "(I)Z"⟩ : MethodName) prog_14_method_17_code 1 (some .boolean) ∈ zT := zw_1480
theorem zh_M_isSign : (((⟨"NumberDressModel", "isSign", "(I)Z"⟩ : MethodName)).cls ≠ "java/lang/invoke/MethodHandle" ∧ ((⟨"NumberDressModel", "isSign", "(I)Z"⟩ : MethodName)).cls ≠ "java/lang/invoke/VarHandle" ∧ (parseMethodDescriptor ((⟨"NumberDressModel", "isSign", "(I)Z"⟩ : MethodName)).desc).map (fun d => d.parameters.length) = some 1) := by decide +kernel
set_option maxHeartbeats 4000000 in
set_option maxRecDepth 100000 in
theorem m_M_isSign (l : Launch) (dC : Nat → ClassId) (dI : Nat → Nat → Nat) {gE : zG}  {x0 : Int32} {sz : Nat} {Z : Int32 → Unit → Prop} (hv : v_M_isSign_0 x0 Z) : Met l (⟨"NumberDressModel", "isSign", "(I)Z"⟩ : MethodName) (Cond.code (⟨"NumberDressModel", "isSign", "(I)Z"⟩ : MethodName) prog_14_method_17_code 1 (some .boolean) :: zT) { frames := 0, cells := 0, slots := 0, locals := 0 } (zPc gE (dC, dI) zCl [] [.int x0] sz []) (va_Qi Z (zB (dC, dI) zCl [] (va_A [] sz) (fun u : Unit => [])) (va_A [] sz)) 0 0 (va_A [] sz) := by
  refine Met.ofW (cc := prog_14_method_17_code) (maxL := 1) (ret := (some .boolean)) (by decide +kernel) rfl ?_
  intro p e s m args below meth c s₁ B hml hp
  obtain ⟨rfl, hsz, hP, hK, hD0, hE⟩ := hp
  have hts := atoms_spec (ws := (Cond.code (⟨"NumberDressModel", "isSign", "(I)Z"⟩ : MethodName) prog_14_method_17_code 1 (some .boolean) :: zT)) B.pre
  have hown : s.vm.findClass "NumberDressModel" = some m.cls := findClass_of_methodNamed B.named
  have hc : zC p s m _ meth c prog_14_method_17_code (some .boolean) 1 "NumberDressModel" := ⟨B.exec, B.bytes, B.returns, hml, hown, fun w h => hts w (List.mem_cons_of_mem _ h), B.notSynchronized⟩
  subst hsz
  have hD := hD0.self (sz := s.heap.size)
  generalize hAe : va_A [] s.heap.size = A at hD hE ⊢
  have hA : ∀ q : Nat, s.heap.size ≤ q → A q := fun q h => by rw [← hAe]; exact Or.inr h
  have hl := lv_entry ([.int x0]) (n := 1) (Nat.le_of_ble_eq_true rfl)
  rw [lg_entry_eq]
  exact b_M_isSign_0 hc hA hE hl hK hP hD va_S.rf hv
theorem d_M_endOf_0 : decode prog_14_method_18_code 0 = .ok (.iload_n 1, 1) := by decide +kernel
theorem d_M_endOf_1 : decode prog_14_method_18_code 1 = .ok (.istore_n 2, 1) := by decide +kernel
theorem d_M_endOf_2 : decode prog_14_method_18_code 2 = .ok (.iload_n 2, 1) := by decide +kernel
theorem d_M_endOf_3 : decode prog_14_method_18_code 3 = .ok (.aload_n 0, 1) := by decide +kernel
theorem d_M_endOf_4 : decode prog_14_method_18_code 4 = .ok (.getfield 59, 3) := by decide +kernel
theorem d_M_endOf_7 : decode prog_14_method_18_code 7 = .ok (.if_icmp .ge 63, 3) := by decide +kernel
theorem d_M_endOf_10 : decode prog_14_method_18_code 10 = .ok (.aload_n 0, 1) := by decide +kernel
theorem d_M_endOf_11 : decode prog_14_method_18_code 11 = .ok (.getfield 7, 3) := by decide +kernel
theorem d_M_endOf_14 : decode prog_14_method_18_code 14 = .ok (.iload_n 2, 1) := by decide +kernel
theorem d_M_endOf_15 : decode prog_14_method_18_code 15 = .ok (.iaload, 1) := by decide +kernel
theorem d_M_endOf_16 : decode prog_14_method_18_code 16 = .ok (.bipush 59, 2) := by decide +kernel
theorem d_M_endOf_18 : decode prog_14_method_18_code 18 = .ok (.if_icmp .eq 52, 3) := by decide +kernel
theorem d_M_endOf_21 : decode prog_14_method_18_code 21 = .ok (.aload_n 0, 1) := by decide +kernel
theorem d_M_endOf_22 : decode prog_14_method_18_code 22 = .ok (.getfield 7, 3) := by decide +kernel
theorem d_M_endOf_25 : decode prog_14_method_18_code 25 = .ok (.iload_n 2, 1) := by decide +kernel
theorem d_M_endOf_26 : decode prog_14_method_18_code 26 = .ok (.iaload, 1) := by decide +kernel
theorem d_M_endOf_27 : decode prog_14_method_18_code 27 = .ok (.bipush 34, 2) := by decide +kernel
theorem d_M_endOf_29 : decode prog_14_method_18_code 29 = .ok (.if_icmp .ne 20, 3) := by decide +kernel
theorem d_M_endOf_32 : decode prog_14_method_18_code 32 = .ok (.aload_n 0, 1) := by decide +kernel
theorem d_M_endOf_33 : decode prog_14_method_18_code 33 = .ok (.iload_n 2, 1) := by decide +kernel
theorem d_M_endOf_34 : decode prog_14_method_18_code 34 = .ok (.invokevirtual 119, 3) := by decide +kernel
theorem d_M_endOf_37 : decode prog_14_method_18_code 37 = .ok (.iload_n 2, 1) := by decide +kernel
theorem d_M_endOf_38 : decode prog_14_method_18_code 38 = .ok (.if_icmp .le 11, 3) := by decide +kernel
theorem d_M_endOf_41 : decode prog_14_method_18_code 41 = .ok (.aload_n 0, 1) := by decide +kernel
theorem d_M_endOf_42 : decode prog_14_method_18_code 42 = .ok (.iload_n 2, 1) := by decide +kernel
theorem d_M_endOf_43 : decode prog_14_method_18_code 43 = .ok (.invokevirtual 119, 3) := by decide +kernel
theorem d_M_endOf_46 : decode prog_14_method_18_code 46 = .ok (.goto 20, 3) := by decide +kernel
theorem d_M_endOf_49 : decode prog_14_method_18_code 49 = .ok (.aload_n 0, 1) := by decide +kernel
theorem d_M_endOf_50 : decode prog_14_method_18_code 50 = .ok (.iload_n 2, 1) := by decide +kernel
theorem d_M_endOf_51 : decode prog_14_method_18_code 51 = .ok (.invokevirtual 122, 3) := by decide +kernel
theorem d_M_endOf_54 : decode prog_14_method_18_code 54 = .ok (.ifCond .eq 9, 3) := by decide +kernel
theorem d_M_endOf_57 : decode prog_14_method_18_code 57 = .ok (.iload_n 2, 1) := by decide +kernel
theorem d_M_endOf_58 : decode prog_14_method_18_code 58 = .ok (.iconst 2, 1) := by decide +kernel
theorem d_M_endOf_59 : decode prog_14_method_18_code 59 = .ok (.iadd, 1) := by decide +kernel
theorem d_M_endOf_60 : decode prog_14_method_18_code 60 = .ok (.goto 6, 3) := by decide +kernel
theorem d_M_endOf_63 : decode prog_14_method_18_code 63 = .ok (.iload_n 2, 1) := by decide +kernel
theorem d_M_endOf_64 : decode prog_14_method_18_code 64 = .ok (.iconst 1, 1) := by decide +kernel
theorem d_M_endOf_65 : decode prog_14_method_18_code 65 = .ok (.iadd, 1) := by decide +kernel
theorem d_M_endOf_66 : decode prog_14_method_18_code 66 = .ok (.istore_n 2, 1) := by decide +kernel
theorem d_M_endOf_67 : decode prog_14_method_18_code 67 = .ok (.goto (-65), 3) := by decide +kernel
theorem d_M_endOf_70 : decode prog_14_method_18_code 70 = .ok (.iload_n 2, 1) := by decide +kernel
theorem d_M_endOf_71 : decode prog_14_method_18_code 71 = .ok (.ireturn, 1) := by decide +kernel
set_option maxHeartbeats 4000000 in
set_option maxRecDepth 100000 in
theorem b_M_endOf_66 {h0 : Nat} {a0_4 : Nat} {a0_5 : Nat} {a0_6 : Nat} {a0_7 : Nat} {a0_8 : Nat} {a0_9 : Nat} {a0_10 : Nat} {a0_11 : Nat} {a0_22 : Nat} {a0_26 : Nat} {a0_29 : Nat} {a0_31 : Nat} {a0_32 : Nat} {a0_34 : Nat} {h1 : Nat} {cA1 : ClassId} {I0 : Nat → Int32} {J0 : Nat → Int64} {n1 : Nat} {f1 : Nat → Int32} {s0 : Int32} {k2 : Int32 → Prop} {Z : Int32 → Unit → Prop} {H : Heap} {locs : List Loc} {ls : Array Slot} (hc : zC p s m args meth c prog_14_method_18_code (some .int) 3 "NumberDressModel") (hA : ∀ q : Nat, s.heap.size ≤ q → A q) (hE : zE gE A s) (hk2 : ∀ (x2 : Int32) (H : Heap) (locs : List Loc) (ls : Array Slot), lv_has ls 3 [(0, .ref h0), (2, .int x2)] → va_K (dC, dI) zCl [(cA1, .int)] s → va_P (dC, dI) zCl [(h0, .inr (12, o_M I0 J0 h1 a0_4 a0_5 a0_6 a0_7 a0_8 a0_9 a0_10 a0_11 a0_22 a0_26 a0_29 a0_31 a0_32 a0_34)), (h1, .inl (cA1, n1, .inl f1))] H → va_D A [(h0, .inr (12, o_M I0 J0 h1 a0_4 a0_5 a0_6 a0_7 a0_8 a0_9 a0_10 a0_11 a0_22 a0_26 a0_29 a0_31 a0_32 a0_34)), (h1, .inl (cA1, n1, .inl f1))] → va_S A s.heap H locs → k2 x2 → W p l e (headSpec (Cond.code (⟨"NumberDressModel", "endOf", "(I)I"⟩ : MethodName) prog_14_method_18_code 3 (some .int) :: zT) { frames := 2, cells := 0, slots := 0, locals := 42 }).room s m args below meth c H locs 0 0 (MQ below (va_Qi Z (zB (dC, dI) zCl [(cA1, .int)] A (fun u : Unit => [(h0, .inr (12, o_M I0 J0 h1 a0_4 a0_5 a0_6 a0_7 a0_8 a0_9 a0_10 a0_11 a0_22 a0_26 a0_29 a0_31 a0_32 a0_34)), (h1, .inl (cA1, n1, .inl f1))])) A) args s 0 0 A) (F0 m 2 ls [])) (hl : lv_has ls 3 [(0, .ref h0)]) (hK : va_K (dC, dI) zCl [(cA1, .int)] s) (hP : va_P (dC, dI) zCl [(h0, .inr (12, o_M I0 J0 h1 a0_4 a0_5 a0_6 a0_7 a0_8 a0_9 a0_10 a0_11 a0_22 a0_26 a0_29 a0_31 a0_32 a0_34)), (h1, .inl (cA1, n1, .inl f1))] H) (hD : va_D A [(h0, .inr (12, o_M I0 J0 h1 a0_4 a0_5 a0_6 a0_7 a0_8 a0_9 a0_10 a0_11 a0_22 a0_26 a0_29 a0_31 a0_32 a0_34)), (h1, .inl (cA1, n1, .inl f1))]) (hS : va_S A s.heap H locs) (hv : v_M_endOf_66 I0 J0 n1 f1 s0 k2 Z) : W p l e (headSpec (Cond.code (⟨"NumberDressModel", "endOf", "(I)I"⟩ : MethodName) prog_14_method_18_code 3 (some .int) :: zT) { frames := 2, cells := 0, slots := 0, locals := 42 }).room s m args below meth c H locs 0 0 (MQ below (va_Qi Z (zB (dC, dI) zCl [(cA1, .int)] A (fun u : Unit => [(h0, .inr (12, o_M I0 J0 h1 a0_4 a0_5 a0_6 a0_7 a0_8 a0_9 a0_10 a0_11 a0_22 a0_26 a0_29 a0_31 a0_32 a0_34)), (h1, .inl (cA1, n1, .inl f1))])) A) args s 0 0 A) (F0 m 66 ls [.int s0]) := by
  obtain ⟨hx, hb, hr, hml, hown, ht, hlocks⟩ := id hc
  unfold v_M_endOf_66 at hv
  refine lv_istore_n (lv' := [(2, .int s0), (0, .ref h0)]) hx hb d_M_endOf_66 rfl hl (by decide) rfl (fun ls hl => ?_)
  refine lv_goto (tgt := 2) hx hb d_M_endOf_67 (by decide) ?_
  exact hk2 s0 _ _ _ (lv_sub hl [1, 0] rfl) hK hP hD hS hv
set_option maxHeartbeats 4000000 in
set_option maxRecDepth 100000 in
theorem b_M_endOf_46 {h0 : Nat} {a0_4 : Nat} {a0_5 : Nat} {a0_6 : Nat} {a0_7 : Nat} {a0_8 : Nat} {a0_9 : Nat} {a0_10 : Nat} {a0_11 : Nat} {a0_22 : Nat} {a0_26 : Nat} {a0_29 : Nat} {a0_31 : Nat} {a0_32 : Nat} {a0_34 : Nat} {h1 : Nat} {cA1 : ClassId} {I0 : Nat → Int32} {J0 : Nat → Int64} {n1 : Nat} {f1 : Nat → Int32} {s0 : Int32} {k2 : Int32 → Prop} {Z : Int32 → Unit → Prop} {H : Heap} {locs : List Loc} {ls : Array Slot} (hc : zC p s m args meth c prog_14_method_18_code (some .int) 3 "NumberDressModel") (hA : ∀ q : Nat, s.heap.size ≤ q → A q) (hE : zE gE A s) (hk2 : ∀ (x2 : Int32) (H : Heap) (locs : List Loc) (ls : Array Slot), lv_has ls 3 [(0, .ref h0), (2, .int x2)] → va_K (dC, dI) zCl [(cA1, .int)] s → va_P (dC, dI) zCl [(h0, .inr (12, o_M I0 J0 h1 a0_4 a0_5 a0_6 a0_7 a0_8 a0_9 a0_10 a0_11 a0_22 a0_26 a0_29 a0_31 a0_32 a0_34)), (h1, .inl (cA1, n1, .inl f1))] H → va_D A [(h0, .inr (12, o_M I0 J0 h1 a0_4 a0_5 a0_6 a0_7 a0_8 a0_9 a0_10 a0_11 a0_22 a0_26 a0_29 a0_31 a0_32 a0_34)), (h1, .inl (cA1, n1, .inl f1))] → va_S A s.heap H locs → k2 x2 → W p l e (headSpec (Cond.code (⟨"NumberDressModel", "endOf", "(I)I"⟩ : MethodName) prog_14_method_18_code 3 (some .int) :: zT) { frames := 2, cells := 0, slots := 0, locals := 42 }).room s m args below meth c H locs 0 0 (MQ below (va_Qi Z (zB (dC, dI) zCl [(cA1, .int)] A (fun u : Unit => [(h0, .inr (12, o_M I0 J0 h1 a0_4 a0_5 a0_6 a0_7 a0_8 a0_9 a0_10 a0_11 a0_22 a0_26 a0_29 a0_31 a0_32 a0_34)), (h1, .inl (cA1, n1, .inl f1))])) A) args s 0 0 A) (F0 m 2 ls [])) (hl : lv_has ls 3 [(0, .ref h0)]) (hK : va_K (dC, dI) zCl [(cA1, .int)] s) (hP : va_P (dC, dI) zCl [(h0, .inr (12, o_M I0 J0 h1 a0_4 a0_5 a0_6 a0_7 a0_8 a0_9 a0_10 a0_11 a0_22 a0_26 a0_29 a0_31 a0_32 a0_34)), (h1, .inl (cA1, n1, .inl f1))] H) (hD : va_D A [(h0, .inr (12, o_M I0 J0 h1 a0_4 a0_5 a0_6 a0_7 a0_8 a0_9 a0_10 a0_11 a0_22 a0_26 a0_29 a0_31 a0_32 a0_34)), (h1, .inl (cA1, n1, .inl f1))]) (hS : va_S A s.heap H locs) (hv : v_M_endOf_46 I0 J0 n1 f1 s0 k2 Z) : W p l e (headSpec (Cond.code (⟨"NumberDressModel", "endOf", "(I)I"⟩ : MethodName) prog_14_method_18_code 3 (some .int) :: zT) { frames := 2, cells := 0, slots := 0, locals := 42 }).room s m args below meth c H locs 0 0 (MQ below (va_Qi Z (zB (dC, dI) zCl [(cA1, .int)] A (fun u : Unit => [(h0, .inr (12, o_M I0 J0 h1 a0_4 a0_5 a0_6 a0_7 a0_8 a0_9 a0_10 a0_11 a0_22 a0_26 a0_29 a0_31 a0_32 a0_34)), (h1, .inl (cA1, n1, .inl f1))])) A) args s 0 0 A) (F0 m 46 ls [.int s0]) := by
  obtain ⟨hx, hb, hr, hml, hown, ht, hlocks⟩ := id hc
  unfold v_M_endOf_46 at hv
  refine lv_goto (tgt := 66) hx hb d_M_endOf_46 (by decide) ?_
  exact b_M_endOf_66 hc hA hE hk2 (lv_sub hl [0] rfl) hK hP hD hS hv
set_option maxHeartbeats 4000000 in
set_option maxRecDepth 100000 in
theorem b_M_endOf_54 {h0 : Nat} {a0_4 : Nat} {a0_5 : Nat} {a0_6 : Nat} {a0_7 : Nat} {a0_8 : Nat} {a0_9 : Nat} {a0_10 : Nat} {a0_11 : Nat} {a0_22 : Nat} {a0_26 : Nat} {a0_29 : Nat} {a0_31 : Nat} {a0_32 : Nat} {a0_34 : Nat} {h1 : Nat} {cA1 : ClassId} {I0 : Nat → Int32} {J0 : Nat → Int64} {n1 : Nat} {f1 : Nat → Int32} {x2 : Int32} {s0 : Int32} {k2 : Int32 → Prop} {Z : Int32 → Unit → Prop} {H : Heap} {locs : List Loc} {ls : Array Slot} (hc : zC p s m args meth c prog_14_method_18_code (some .int) 3 "NumberDressModel") (hA : ∀ q : Nat, s.heap.size ≤ q → A q) (hE : zE gE A s) (hk2 : ∀ (x2 : Int32) (H : Heap) (locs : List Loc) (ls : Array Slot), lv_has ls 3 [(0, .ref h0), (2, .int x2)] → va_K (dC, dI) zCl [(cA1, .int)] s → va_P (dC, dI) zCl [(h0, .inr (12, o_M I0 J0 h1 a0_4 a0_5 a0_6 a0_7 a0_8 a0_9 a0_10 a0_11 a0_22 a0_26 a0_29 a0_31 a0_32 a0_34)), (h1, .inl (cA1, n1, .inl f1))] H → va_D A [(h0, .inr (12, o_M I0 J0 h1 a0_4 a0_5 a0_6 a0_7 a0_8 a0_9 a0_10 a0_11 a0_22 a0_26 a0_29 a0_31 a0_32 a0_34)), (h1, .inl (cA1, n1, .inl f1))] → va_S A s.heap H locs → k2 x2 → W p l e (headSpec (Cond.code (⟨"NumberDressModel", "endOf", "(I)I"⟩ : MethodName) prog_14_method_18_code 3 (some .int) :: zT) { frames := 2, cells := 0, slots := 0, locals := 42 }).room s m args below meth c H locs 0 0 (MQ below (va_Qi Z (zB (dC, dI) zCl [(cA1, .int)] A (fun u : Unit => [(h0, .inr (12, o_M I0 J0 h1 a0_4 a0_5 a0_6 a0_7 a0_8 a0_9 a0_10 a0_11 a0_22 a0_26 a0_29 a0_31 a0_32 a0_34)), (h1, .inl (cA1, n1, .inl f1))])) A) args s 0 0 A) (F0 m 2 ls [])) (hl : lv_has ls 3 [(0, .ref h0), (2, .int x2)]) (hK : va_K (dC, dI) zCl [(cA1, .int)] s) (hP : va_P (dC, dI) zCl [(h0, .inr (12, o_M I0 J0 h1 a0_4 a0_5 a0_6 a0_7 a0_8 a0_9 a0_10 a0_11 a0_22 a0_26 a0_29 a0_31 a0_32 a0_34)), (h1, .inl (cA1, n1, .inl f1))] H) (hD : va_D A [(h0, .inr (12, o_M I0 J0 h1 a0_4 a0_5 a0_6 a0_7 a0_8 a0_9 a0_10 a0_11 a0_22 a0_26 a0_29 a0_31 a0_32 a0_34)), (h1, .inl (cA1, n1, .inl f1))]) (hS : va_S A s.heap H locs) (hv : v_M_endOf_54 I0 J0 n1 f1 x2 s0 k2 Z) : W p l e (headSpec (Cond.code (⟨"NumberDressModel", "endOf", "(I)I"⟩ : MethodName) prog_14_method_18_code 3 (some .int) :: zT) { frames := 2, cells := 0, slots := 0, locals := 42 }).room s m args below meth c H locs 0 0 (MQ below (va_Qi Z (zB (dC, dI) zCl [(cA1, .int)] A (fun u : Unit => [(h0, .inr (12, o_M I0 J0 h1 a0_4 a0_5 a0_6 a0_7 a0_8 a0_9 a0_10 a0_11 a0_22 a0_26 a0_29 a0_31 a0_32 a0_34)), (h1, .inl (cA1, n1, .inl f1))])) A) args s 0 0 A) (F0 m 54 ls [.int s0]) := by
  obtain ⟨hx, hb, hr, hml, hown, ht, hlocks⟩ := id hc
  unfold v_M_endOf_54 at hv
  refine lv_if_eq (tgt := 63) hx hb d_M_endOf_54 (by decide) (fun c_1 => ?_) (fun c_1 => ?_)
  · have hv := hv.1 c_1
    refine lv_iload_n hx hb d_M_endOf_63 rfl (lv_at hl 1 rfl) ?_
    refine lv_iconst (v := (1 : Int32)) hx hb d_M_endOf_64 (by decide) ?_
    refine lv_iadd hx hb d_M_endOf_65 ?_
    exact b_M_endOf_66 hc hA hE hk2 (lv_sub hl [0] rfl) hK hP hD hS hv
  · have hv := hv.2 c_1
    refine lv_iload_n hx hb d_M_endOf_57 rfl (lv_at hl 1 rfl) ?_
    refine lv_iconst (v := (2 : Int32)) hx hb d_M_endOf_58 (by decide) ?_
    refine lv_iadd hx hb d_M_endOf_59 ?_
    refine lv_goto (tgt := 66) hx hb d_M_endOf_60 (by decide) ?_
    exact b_M_endOf_66 hc hA hE hk2 (lv_sub hl [0] rfl) hK hP hD hS hv
set_option maxHeartbeats 4000000 in
set_option maxRecDepth 100000 in
theorem b_M_endOf_49 {h0 : Nat} {a0_4 : Nat} {a0_5 : Nat} {a0_6 : Nat} {a0_7 : Nat} {a0_8 : Nat} {a0_9 : Nat} {a0_10 : Nat} {a0_11 : Nat} {a0_22 : Nat} {a0_26 : Nat} {a0_29 : Nat} {a0_31 : Nat} {a0_32 : Nat} {a0_34 : Nat} {h1 : Nat} {cA1 : ClassId} {I0 : Nat → Int32} {J0 : Nat → Int64} {n1 : Nat} {f1 : Nat → Int32} {x2 : Int32} {k2 : Int32 → Prop} {Z : Int32 → Unit → Prop} {H : Heap} {locs : List Loc} {ls : Array Slot} (hc : zC p s m args meth c prog_14_method_18_code (some .int) 3 "NumberDressModel") (hA : ∀ q : Nat, s.heap.size ≤ q → A q) (hE : zE gE A s) (hk2 : ∀ (x2 : Int32) (H : Heap) (locs : List Loc) (ls : Array Slot), lv_has ls 3 [(0, .ref h0), (2, .int x2)] → va_K (dC, dI) zCl [(cA1, .int)] s → va_P (dC, dI) zCl [(h0, .inr (12, o_M I0 J0 h1 a0_4 a0_5 a0_6 a0_7 a0_8 a0_9 a0_10 a0_11 a0_22 a0_26 a0_29 a0_31 a0_32 a0_34)), (h1, .inl (cA1, n1, .inl f1))] H → va_D A [(h0, .inr (12, o_M I0 J0 h1 a0_4 a0_5 a0_6 a0_7 a0_8 a0_9 a0_10 a0_11 a0_22 a0_26 a0_29 a0_31 a0_32 a0_34)), (h1, .inl (cA1, n1, .inl f1))] → va_S A s.heap H locs → k2 x2 → W p l e (headSpec (Cond.code (⟨"NumberDressModel", "endOf", "(I)I"⟩ : MethodName) prog_14_method_18_code 3 (some .int) :: zT) { frames := 2, cells := 0, slots := 0, locals := 42 }).room s m args below meth c H locs 0 0 (MQ below (va_Qi Z (zB (dC, dI) zCl [(cA1, .int)] A (fun u : Unit => [(h0, .inr (12, o_M I0 J0 h1 a0_4 a0_5 a0_6 a0_7 a0_8 a0_9 a0_10 a0_11 a0_22 a0_26 a0_29 a0_31 a0_32 a0_34)), (h1, .inl (cA1, n1, .inl f1))])) A) args s 0 0 A) (F0 m 2 ls [])) (hl : lv_has ls 3 [(0, .ref h0), (2, .int x2)]) (hK : va_K (dC, dI) zCl [(cA1, .int)] s) (hP : va_P (dC, dI) zCl [(h0, .inr (12, o_M I0 J0 h1 a0_4 a0_5 a0_6 a0_7 a0_8 a0_9 a0_10 a0_11 a0_22 a0_26 a0_29 a0_31 a0_32 a0_34)), (h1, .inl (cA1, n1, .inl f1))] H) (hD : va_D A [(h0, .inr (12, o_M I0 J0 h1 a0_4 a0_5 a0_6 a0_7 a0_8 a0_9 a0_10 a0_11 a0_22 a0_26 a0_29 a0_31 a0_32 a0_34)), (h1, .inl (cA1, n1, .inl f1))]) (hS : va_S A s.heap H locs) (hv : v_M_endOf_49 I0 J0 n1 f1 x2 k2 Z) : W p l e (headSpec (Cond.code (⟨"NumberDressModel", "endOf", "(I)I"⟩ : MethodName) prog_14_method_18_code 3 (some .int) :: zT) { frames := 2, cells := 0, slots := 0, locals := 42 }).room s m args below meth c H locs 0 0 (MQ below (va_Qi Z (zB (dC, dI) zCl [(cA1, .int)] A (fun u : Unit => [(h0, .inr (12, o_M I0 J0 h1 a0_4 a0_5 a0_6 a0_7 a0_8 a0_9 a0_10 a0_11 a0_22 a0_26 a0_29 a0_31 a0_32 a0_34)), (h1, .inl (cA1, n1, .inl f1))])) A) args s 0 0 A) (F0 m 49 ls []) := by
  obtain ⟨hx, hb, hr, hml, hown, ht, hlocks⟩ := id hc
  unfold v_M_endOf_49 at hv
  refine lv_aload_n hx hb d_M_endOf_49 rfl (lv_at hl 0 rfl) ?_
  refine lv_iload_n hx hb d_M_endOf_50 rfl (lv_at hl 1 rfl) ?_
  refine z_calli (wc := [(h0, .inr (12, o_M I0 J0 h1 a0_4 a0_5 a0_6 a0_7 a0_8 a0_9 a0_10 a0_11 a0_22 a0_26 a0_29 a0_31 a0_32 a0_34)), (h1, .inl (cA1, n1, .inl f1))]) (wr := []) [0, 1] [] (va_runV (As := [.int x2]) (rest := []) ⟨hx, hb, hml, hown, ht⟩ (m_M_isPair l dC dI hv) ⟨(callB_of 1 ht (zG_in zi_M_isPair) rfl rfl rfl (ht _ zw_122) (ht _ zw_1417) zh_M_isPair ⟨Nat.le_of_ble_eq_true rfl, Nat.le_of_ble_eq_true rfl⟩), (ht _ zw_1419), (ht _ zw_62)⟩ ⟨zPc_blind, va_recv hK hP (ci := 12) (q0 := 0) rfl rfl, zPc_pre hP hK hD hS hA hE [0, 1] [0] rfl rfl (by decide) rfl⟩ rfl rfl hl.1 rfl (lv_room (Nat.le_of_ble_eq_true rfl)) d_M_endOf_51 ⟨Nat.le_of_ble_eq_true rfl, Nat.le_of_ble_eq_true rfl⟩) hP hD hS hA rfl rfl (by decide) (by decide) (fun r u H locs hv hP hD hS => ?_)
  have hP : va_P (dC, dI) zCl [(h0, .inr (12, o_M I0 J0 h1 a0_4 a0_5 a0_6 a0_7 a0_8 a0_9 a0_10 a0_11 a0_22 a0_26 a0_29 a0_31 a0_32 a0_34)), (h1, .inl (cA1, n1, .inl f1))] H := hP.sub [0, 1] rfl
  have hD : va_D A [(h0, .inr (12, o_M I0 J0 h1 a0_4 a0_5 a0_6 a0_7 a0_8 a0_9 a0_10 a0_11 a0_22 a0_26 a0_29 a0_31 a0_32 a0_34)), (h1, .inl (cA1, n1, .inl f1))] := hD.sub [0, 1] (by decide) rfl
  exact b_M_endOf_54 hc hA hE hk2 (lv_sub hl [0, 1] rfl) hK hP hD hS hv
set_option maxHeartbeats 4000000 in
set_option maxRecDepth 100000 in
theorem b_M_endOf_37 {h0 : Nat} {a0_4 : Nat} {a0_5 : Nat} {a0_6 : Nat} {a0_7 : Nat} {a0_8 : Nat} {a0_9 : Nat} {a0_10 : Nat} {a0_11 : Nat} {a0_22 : Nat} {a0_26 : Nat} {a0_29 : Nat} {a0_31 : Nat} {a0_32 : Nat} {a0_34 : Nat} {h1 : Nat} {cA1 : ClassId} {I0 : Nat → Int32} {J0 : Nat → Int64} {n1 : Nat} {f1 : Nat → Int32} {x2 : Int32} {s0 : Int32} {k2 : Int32 → Prop} {Z : Int32 → Unit → Prop} {H : Heap} {locs : List Loc} {ls : Array Slot} (hc : zC p s m args meth c prog_14_method_18_code (some .int) 3 "NumberDressModel") (hA : ∀ q : Nat, s.heap.size ≤ q → A q) (hE : zE gE A s) (hk2 : ∀ (x2 : Int32) (H : Heap) (locs : List Loc) (ls : Array Slot), lv_has ls 3 [(0, .ref h0), (2, .int x2)] → va_K (dC, dI) zCl [(cA1, .int)] s → va_P (dC, dI) zCl [(h0, .inr (12, o_M I0 J0 h1 a0_4 a0_5 a0_6 a0_7 a0_8 a0_9 a0_10 a0_11 a0_22 a0_26 a0_29 a0_31 a0_32 a0_34)), (h1, .inl (cA1, n1, .inl f1))] H → va_D A [(h0, .inr (12, o_M I0 J0 h1 a0_4 a0_5 a0_6 a0_7 a0_8 a0_9 a0_10 a0_11 a0_22 a0_26 a0_29 a0_31 a0_32 a0_34)), (h1, .inl (cA1, n1, .inl f1))] → va_S A s.heap H locs → k2 x2 → W p l e (headSpec (Cond.code (⟨"NumberDressModel", "endOf", "(I)I"⟩ : MethodName) prog_14_method_18_code 3 (some .int) :: zT) { frames := 2, cells := 0, slots := 0, locals := 42 }).room s m args below meth c H locs 0 0 (MQ below (va_Qi Z (zB (dC, dI) zCl [(cA1, .int)] A (fun u : Unit => [(h0, .inr (12, o_M I0 J0 h1 a0_4 a0_5 a0_6 a0_7 a0_8 a0_9 a0_10 a0_11 a0_22 a0_26 a0_29 a0_31 a0_32 a0_34)), (h1, .inl (cA1, n1, .inl f1))])) A) args s 0 0 A) (F0 m 2 ls [])) (hl : lv_has ls 3 [(0, .ref h0), (2, .int x2)]) (hK : va_K (dC, dI) zCl [(cA1, .int)] s) (hP : va_P (dC, dI) zCl [(h0, .inr (12, o_M I0 J0 h1 a0_4 a0_5 a0_6 a0_7 a0_8 a0_9 a0_10 a0_11 a0_22 a0_26 a0_29 a0_31 a0_32 a0_34)), (h1, .inl (cA1, n1, .inl f1))] H) (hD : va_D A [(h0, .inr (12, o_M I0 J0 h1 a0_4 a0_5 a0_6 a0_7 a0_8 a0_9 a0_10 a0_11 a0_22 a0_26 a0_29 a0_31 a0_32 a0_34)), (h1, .inl (cA1, n1, .inl f1))]) (hS : va_S A s.heap H locs) (hv : v_M_endOf_37 I0 J0 n1 f1 x2 s0 k2 Z) : W p l e (headSpec (Cond.code (⟨"NumberDressModel", "endOf", "(I)I"⟩ : MethodName) prog_14_method_18_code 3 (some .int) :: zT) { frames := 2, cells := 0, slots := 0, locals := 42 }).room s m args below meth c H locs 0 0 (MQ below (va_Qi Z (zB (dC, dI) zCl [(cA1, .int)] A (fun u : Unit => [(h0, .inr (12, o_M I0 J0 h1 a0_4 a0_5 a0_6 a0_7 a0_8 a0_9 a0_10 a0_11 a0_22 a0_26 a0_29 a0_31 a0_32 a0_34)), (h1, .inl (cA1, n1, .inl f1))])) A) args s 0 0 A) (F0 m 37 ls [.int s0]) := by
  obtain ⟨hx, hb, hr, hml, hown, ht, hlocks⟩ := id hc
  unfold v_M_endOf_37 at hv
  refine lv_iload_n hx hb d_M_endOf_37 rfl (lv_at hl 1 rfl) ?_
  refine lv_icmp_le (tgt := 49) hx hb d_M_endOf_38 (by decide) (fun c_1 => ?_) (fun c_1 => ?_)
  · have hv := hv.1 c_1
    exact b_M_endOf_49 hc hA hE hk2 (lv_sub hl [0, 1] rfl) hK hP hD hS hv
  · have hv := hv.2 c_1
    refine lv_aload_n hx hb d_M_endOf_41 rfl (lv_at hl 0 rfl) ?_
    refine lv_iload_n hx hb d_M_endOf_42 rfl (lv_at hl 1 rfl) ?_
    refine z_calli (wc := [(h0, .inr (12, o_M I0 J0 h1 a0_4 a0_5 a0_6 a0_7 a0_8 a0_9 a0_10 a0_11 a0_22 a0_26 a0_29 a0_31 a0_32 a0_34)), (h1, .inl (cA1, n1, .inl f1))]) (wr := []) [0, 1] [] (va_runV (As := [.int x2]) (rest := []) ⟨hx, hb, hml, hown, ht⟩ (m_M_quotesEnd l dC dI hv) ⟨(callB_of 1 ht (zG_in zi_M_quotesEnd) rfl rfl rfl (ht _ zw_122) (ht _ zw_1413) zh_M_quotesEnd ⟨Nat.le_of_ble_eq_true rfl, Nat.le_of_ble_eq_true rfl⟩), (ht _ zw_1415), (ht _ zw_61)⟩ ⟨zPc_blind, va_recv hK hP (ci := 12) (q0 := 0) rfl rfl, zPc_pre hP hK hD hS hA hE [0, 1] [0] rfl rfl (by decide) rfl⟩ rfl rfl hl.1 rfl (lv_room (Nat.le_of_ble_eq_true rfl)) d_M_endOf_43 ⟨Nat.le_of_ble_eq_true rfl, Nat.le_of_ble_eq_true rfl⟩) hP hD hS hA rfl rfl (by decide) (by decide) (fun r u H locs hv hP hD hS => ?_)
    have hP : va_P (dC, dI) zCl [(h0, .inr (12, o_M I0 J0 h1 a0_4 a0_5 a0_6 a0_7 a0_8 a0_9 a0_10 a0_11 a0_22 a0_26 a0_29 a0_31 a0_32 a0_34)), (h1, .inl (cA1, n1, .inl f1))] H := hP.sub [0, 1] rfl
    have hD : va_D A [(h0, .inr (12, o_M I0 J0 h1 a0_4 a0_5 a0_6 a0_7 a0_8 a0_9 a0_10 a0_11 a0_22 a0_26 a0_29 a0_31 a0_32 a0_34)), (h1, .inl (cA1, n1, .inl f1))] := hD.sub [0, 1] (by decide) rfl
    exact b_M_endOf_46 hc hA hE hk2 (lv_sub hl [0] rfl) hK hP hD hS hv
set_option maxHeartbeats 4000000 in
set_option maxRecDepth 100000 in
theorem b_M_endOf_2 {h0 : Nat} {a0_4 : Nat} {a0_5 : Nat} {a0_6 : Nat} {a0_7 : Nat} {a0_8 : Nat} {a0_9 : Nat} {a0_10 : Nat} {a0_11 : Nat} {a0_22 : Nat} {a0_26 : Nat} {a0_29 : Nat} {a0_31 : Nat} {a0_32 : Nat} {a0_34 : Nat} {h1 : Nat} {cA1 : ClassId} {I0 : Nat → Int32} {J0 : Nat → Int64} {n1 : Nat} {f1 : Nat → Int32}  {Z : Int32 → Unit → Prop} (hc : zC p s m args meth c prog_14_method_18_code (some .int) 3 "NumberDressModel") (hA : ∀ q : Nat, s.heap.size ≤ q → A q) (hE : zE gE A s) : ∀ (N : Nat) (x2 : Int32) (H : Heap) (locs : List Loc) (ls : Array Slot), lv_has ls 3 [(0, .ref h0), (2, .int x2)] → va_K (dC, dI) zCl [(cA1, .int)] s → va_P (dC, dI) zCl [(h0, .inr (12, o_M I0 J0 h1 a0_4 a0_5 a0_6 a0_7 a0_8 a0_9 a0_10 a0_11 a0_22 a0_26 a0_29 a0_31 a0_32 a0_34)), (h1, .inl (cA1, n1, .inl f1))] H → va_D A [(h0, .inr (12, o_M I0 J0 h1 a0_4 a0_5 a0_6 a0_7 a0_8 a0_9 a0_10 a0_11 a0_22 a0_26 a0_29 a0_31 a0_32 a0_34)), (h1, .inl (cA1, n1, .inl f1))] → va_S A s.heap H locs → v_M_endOf_2 I0 J0 n1 f1  Z N x2 → W p l e (headSpec (Cond.code (⟨"NumberDressModel", "endOf", "(I)I"⟩ : MethodName) prog_14_method_18_code 3 (some .int) :: zT) { frames := 2, cells := 0, slots := 0, locals := 42 }).room s m args below meth c H locs 0 0 (MQ below (va_Qi Z (zB (dC, dI) zCl [(cA1, .int)] A (fun u : Unit => [(h0, .inr (12, o_M I0 J0 h1 a0_4 a0_5 a0_6 a0_7 a0_8 a0_9 a0_10 a0_11 a0_22 a0_26 a0_29 a0_31 a0_32 a0_34)), (h1, .inl (cA1, n1, .inl f1))])) A) args s 0 0 A) (F0 m 2 ls []) := by
  obtain ⟨hx, hb, hr, hml, hown, ht, hlocks⟩ := id hc
  intro N
  induction N with
  | zero => intro x2 H locs ls hl hK hP hD hS hv; exact hv.elim
  | succ N hk2 =>
    intro x2 H locs ls hl hK hP hD hS hv
    unfold v_M_endOf_2 at hv
    refine lv_iload_n hx hb d_M_endOf_2 rfl (lv_at hl 1 rfl) ?_
    refine lv_aload_n hx hb d_M_endOf_3 rfl (lv_at hl 0 rfl) ?_
    refine va_get (D := (dC, dI)) (ci := 12) (v := .int (I0 3)) (C := "NumberDressModel") (T := T_M) (N := 41) hx hb ht zin_M hown hK hP 0 rfl rfl 3 (by decide) (ht _ zw_1264) (fun _ h9 => h9) rfl d_M_endOf_4 ?_
    refine lv_icmp_ge (tgt := 70) hx hb d_M_endOf_7 (by decide) (fun c_1 => ?_) (fun c_1 => ?_)
    · have hv := hv.1 c_1
      refine lv_iload_n hx hb d_M_endOf_70 rfl (lv_at hl 1 rfl) ?_
      exact W.iret (v := x2) hx hb hr (fun t ht hW => ⟨⟨_, (), rfl, hv, ⟨by rw [ht]; exact hP, va_K.moved hW.alike hK, hD⟩⟩, hS.F ht⟩) hS.2.2 d_M_endOf_71
    · have hv := hv.2 c_1
      refine lv_aload_n hx hb d_M_endOf_10 rfl (lv_at hl 0 rfl) ?_
      refine va_get (D := (dC, dI)) (ci := 12) (v := .ref h1) (C := "NumberDressModel") (T := T_M) (N := 41) hx hb ht zin_M hown hK hP 0 rfl rfl 2 (by decide) (ht _ zw_1263) (fun _ h9 => h9) rfl d_M_endOf_11 ?_
      refine lv_iload_n hx hb d_M_endOf_14 rfl (lv_at hl 1 rfl) ?_
      obtain ⟨q_2, hv⟩ := hv
      refine va_iald hx hb hK hP 1 0 rfl rfl q_2 d_M_endOf_15 ?_
      refine lv_bipush (v := (59 : Int32)) hx hb d_M_endOf_16 (by decide) ?_
      refine lv_icmp_eq (tgt := 70) hx hb d_M_endOf_18 (by decide) (fun c_3 => ?_) (fun c_3 => ?_)
      · have hv := hv.1 c_3
        refine lv_iload_n hx hb d_M_endOf_70 rfl (lv_at hl 1 rfl) ?_
        exact W.iret (v := x2) hx hb hr (fun t ht hW => ⟨⟨_, (), rfl, hv, ⟨by rw [ht]; exact hP, va_K.moved hW.alike hK, hD⟩⟩, hS.F ht⟩) hS.2.2 d_M_endOf_71
      · have hv := hv.2 c_3
        refine lv_aload_n hx hb d_M_endOf_21 rfl (lv_at hl 0 rfl) ?_
        refine va_get (D := (dC, dI)) (ci := 12) (v := .ref h1) (C := "NumberDressModel") (T := T_M) (N := 41) hx hb ht zin_M hown hK hP 0 rfl rfl 2 (by decide) (ht _ zw_1263) (fun _ h9 => h9) rfl d_M_endOf_22 ?_
        refine lv_iload_n hx hb d_M_endOf_25 rfl (lv_at hl 1 rfl) ?_
        obtain ⟨q_4, hv⟩ := hv
        refine va_iald hx hb hK hP 1 0 rfl rfl q_4 d_M_endOf_26 ?_
        refine lv_bipush (v := (34 : Int32)) hx hb d_M_endOf_27 (by decide) ?_
        refine lv_icmp_ne (tgt := 49) hx hb d_M_endOf_29 (by decide) (fun c_5 => ?_) (fun c_5 => ?_)
        · have hv := hv.1 c_5
          exact b_M_endOf_49 hc hA hE hk2 (lv_sub hl [0, 1] rfl) hK hP hD hS hv
        · have hv := hv.2 c_5
          refine lv_aload_n hx hb d_M_endOf_32 rfl (lv_at hl 0 rfl) ?_
          refine lv_iload_n hx hb d_M_endOf_33 rfl (lv_at hl 1 rfl) ?_
          refine z_calli (wc := [(h0, .inr (12, o_M I0 J0 h1 a0_4 a0_5 a0_6 a0_7 a0_8 a0_9 a0_10 a0_11 a0_22 a0_26 a0_29 a0_31 a0_32 a0_34)), (h1, .inl (cA1, n1, .inl f1))]) (wr := []) [0, 1] [] (va_runV (As := [.int x2]) (rest := []) ⟨hx, hb, hml, hown, ht⟩ (m_M_quotesEnd l dC dI hv) ⟨(callB_of 1 ht (zG_in zi_M_quotesEnd) rfl rfl rfl (ht _ zw_122) (ht _ zw_1413) zh_M_quotesEnd ⟨Nat.le_of_ble_eq_true rfl, Nat.le_of_ble_eq_true rfl⟩), (ht _ zw_1415), (ht _ zw_61)⟩ ⟨zPc_blind, va_recv hK hP (ci := 12) (q0 := 0) rfl rfl, zPc_pre hP hK hD hS hA hE [0, 1] [0] rfl rfl (by decide) rfl⟩ rfl rfl hl.1 rfl (lv_room (Nat.le_of_ble_eq_true rfl)) d_M_endOf_34 ⟨Nat.le_of_ble_eq_true rfl, Nat.le_of_ble_eq_true rfl⟩) hP hD hS hA rfl rfl (by decide) (by decide) (fun r u H locs hv hP hD hS => ?_)
          have hP : va_P (dC, dI) zCl [(h0, .inr (12, o_M I0 J0 h1 a0_4 a0_5 a0_6 a0_7 a0_8 a0_9 a0_10 a0_11 a0_22 a0_26 a0_29 a0_31 a0_32 a0_34)), (h1, .inl (cA1, n1, .inl f1))] H := hP.sub [0, 1] rfl
          have hD : va_D A [(h0, .inr (12, o_M I0 J0 h1 a0_4 a0_5 a0_6 a0_7 a0_8 a0_9 a0_10 a0_11 a0_22 a0_26 a0_29 a0_31 a0_32 a0_34)), (h1, .inl (cA1, n1, .inl f1))] := hD.sub [0, 1] (by decide) rfl
          exact b_M_endOf_37 hc hA hE hk2 (lv_sub hl [0, 1] rfl) hK hP hD hS hv
set_option maxHeartbeats 4000000 in
set_option maxRecDepth 100000 in
theorem b_M_endOf_0 {h0 : Nat} {a0_4 : Nat} {a0_5 : Nat} {a0_6 : Nat} {a0_7 : Nat} {a0_8 : Nat} {a0_9 : Nat} {a0_10 : Nat} {a0_11 : Nat} {a0_22 : Nat} {a0_26 : Nat} {a0_29 : Nat} {a0_31 : Nat} {a0_32 : Nat} {a0_34 : Nat} {h1 : Nat} {cA1 : ClassId} {I0 : Nat → Int32} {J0 : Nat → Int64} {n1 : Nat} {f1 : Nat → Int32} {x1 : Int32}  {Z : Int32 → Unit → Prop} {H : Heap} {locs : List Loc} {ls : Array Slot} (hc : zC p s m args meth c prog_14_method_18_code (some .int) 3 "NumberDressModel") (hA : ∀ q : Nat, s.heap.size ≤ q → A q) (hE : zE gE A s) (hl : lv_has ls 3 [(0, .ref h0), (1, .int x1)]) (hK : va_K (dC, dI) zCl [(cA1, .int)] s) (hP : va_P (dC, dI) zCl [(h0, .inr (12, o_M I0 J0 h1 a0_4 a0_5 a0_6 a0_7 a0_8 a0_9 a0_10 a0_11 a0_22 a0_26 a0_29 a0_31 a0_32 a0_34)), (h1, .inl (cA1, n1, .inl f1))] H) (hD : va_D A [(h0, .inr (12, o_M I0 J0 h1 a0_4 a0_5 a0_6 a0_7 a0_8 a0_9 a0_10 a0_11 a0_22 a0_26 a0_29 a0_31 a0_32 a0_34)), (h1, .inl (cA1, n1, .inl f1))]) (hS : va_S A s.heap H locs) (hv : v_M_endOf_0 I0 J0 n1 f1 x1  Z) : W p l e (headSpec (Cond.code (⟨"NumberDressModel", "endOf", "(I)I"⟩ : MethodName) prog_14_method_18_code 3 (some .int) :: zT) { frames := 2, cells := 0, slots := 0, locals := 42 }).room s m args below meth c H locs 0 0 (MQ below (va_Qi Z (zB (dC, dI) zCl [(cA1, .int)] A (fun u : Unit => [(h0, .inr (12, o_M I0 J0 h1 a0_4 a0_5 a0_6 a0_7 a0_8 a0_9 a0_10 a0_11 a0_22 a0_26 a0_29 a0_31 a0_32 a0_34)), (h1, .inl (cA1, n1, .inl f1))])) A) args s 0 0 A) (F0 m 0 ls []) := by
  obtain ⟨hx, hb, hr, hml, hown, ht, hlocks⟩ := id hc
  unfold v_M_endOf_0 at hv
  refine lv_iload_n hx hb d_M_endOf_0 rfl (lv_at hl 1 rfl) ?_
  refine lv_istore_n (lv' := [(2, .int x1), (0, .ref h0), (1, .int x1)]) hx hb d_M_endOf_1 rfl hl (by decide) rfl (fun ls hl => ?_)
  obtain ⟨Nx, hv⟩ := hv
  exact b_M_endOf_2 hc hA hE  Nx x1 _ _ _ (lv_sub hl [1, 0] rfl) hK hP hD hS hv
theorem zi_M_endOf : Cond.code (⟨"NumberDressModel", "endOf", "(I)I"⟩ : MethodName) prog_14_method_18_code 3 (some .int) ∈ zT := zw_1412
theorem zh_M_endOf : (((⟨"NumberDressModel", "endOf", "(I)I"⟩ : MethodName)).cls ≠ "java/lang/invoke/MethodHandle" ∧ ((⟨"NumberDressModel", "endOf", "(I)I"⟩ : MethodName)).cls ≠ "java/lang/invoke/VarHandle" ∧ (parseMethodDescriptor ((⟨"NumberDressModel", "endOf", "(I)I"⟩ : MethodName)).desc).map (fun d => d.parameters.length) = some 1) := by decide +kernel
set_option maxHeartbeats 4000000 in
set_option maxRecDepth 100000 in
theorem m_M_endOf (l : Launch) (dC : Nat → ClassId) (dI : Nat → Nat → Nat) {gE : zG} {h0 : Nat} {a0_4 : Nat} {a0_5 : Nat} {a0_6 : Nat} {a0_7 : Nat} {a0_8 : Nat} {a0_9 : Nat} {a0_10 : Nat} {a0_11 : Nat} {a0_22 : Nat} {a0_26 : Nat} {a0_29 : Nat} {a0_31 : Nat} {a0_32 : Nat} {a0_34 : Nat} {h1 : Nat} {cA1 : ClassId} {I0 : Nat → Int32} {J0 : Nat → Int64} {n1 : Nat} {f1 : Nat → Int32} {x1 : Int32} {sz : Nat} {Z : Int32 → Unit → Prop} (hv : v_M_endOf_0 I0 J0 n1 f1 x1 Z) : Met l (⟨"NumberDressModel", "endOf", "(I)I"⟩ : MethodName) (Cond.code (⟨"NumberDressModel", "endOf", "(I)I"⟩ : MethodName) prog_14_method_18_code 3 (some .int) :: zT) { frames := 2, cells := 0, slots := 0, locals := 42 } (zPc gE (dC, dI) zCl [(cA1, .int)] [.ref h0, .int x1] sz [(h0, .inr (12, o_M I0 J0 h1 a0_4 a0_5 a0_6 a0_7 a0_8 a0_9 a0_10 a0_11 a0_22 a0_26 a0_29 a0_31 a0_32 a0_34)), (h1, .inl (cA1, n1, .inl f1))]) (va_Qi Z (zB (dC, dI) zCl [(cA1, .int)] (va_A [(h0, .inr (12, o_M I0 J0 h1 a0_4 a0_5 a0_6 a0_7 a0_8 a0_9 a0_10 a0_11 a0_22 a0_26 a0_29 a0_31 a0_32 a0_34)), (h1, .inl (cA1, n1, .inl f1))] sz) (fun u : Unit => [(h0, .inr (12, o_M I0 J0 h1 a0_4 a0_5 a0_6 a0_7 a0_8 a0_9 a0_10 a0_11 a0_22 a0_26 a0_29 a0_31 a0_32 a0_34)), (h1, .inl (cA1, n1, .inl f1))])) (va_A [(h0, .inr (12, o_M I0 J0 h1 a0_4 a0_5 a0_6 a0_7 a0_8 a0_9 a0_10 a0_11 a0_22 a0_26 a0_29 a0_31 a0_32 a0_34)), (h1, .inl (cA1, n1, .inl f1))] sz)) 0 0 (va_A [(h0, .inr (12, o_M I0 J0 h1 a0_4 a0_5 a0_6 a0_7 a0_8 a0_9 a0_10 a0_11 a0_22 a0_26 a0_29 a0_31 a0_32 a0_34)), (h1, .inl (cA1, n1, .inl f1))] sz) := by
  refine Met.ofW (cc := prog_14_method_18_code) (maxL := 3) (ret := (some .int)) (by decide +kernel) rfl ?_
  intro p e s m args below meth c s₁ B hml hp
  obtain ⟨rfl, hsz, hP, hK, hD0, hE⟩ := hp
  have hts := atoms_spec (ws := (Cond.code (⟨"NumberDressModel", "endOf", "(I)I"⟩ : MethodName) prog_14_method_18_code 3 (some .int) :: zT)) B.pre
  have hown : s.vm.findClass "NumberDressModel" = some m.cls := findClass_of_methodNamed B.named
  have hc : zC p s m _ meth c prog_14_method_18_code (some .int) 3 "NumberDressModel" := ⟨B.exec, B.bytes, B.returns, hml, hown, fun w h => hts w (List.mem_cons_of_mem _ h), B.notSynchronized⟩
  subst hsz
  have hD := hD0.self (sz := s.heap.size)
  generalize hAe : va_A [(h0, .inr (12, o_M I0 J0 h1 a0_4 a0_5 a0_6 a0_7 a0_8 a0_9 a0_10 a0_11 a0_22 a0_26 a0_29 a0_31 a0_32 a0_34)), (h1, .inl (cA1, n1, .inl f1))] s.heap.size = A at hD hE ⊢
  have hA : ∀ q : Nat, s.heap.size ≤ q → A q := fun q h => by rw [← hAe]; exact Or.inr h
  have hl := lv_entry ([.ref h0, .int x1]) (n := 3) (Nat.le_of_ble_eq_true rfl)
  rw [lg_entry_eq]
  exact b_M_endOf_0 hc hA hE hl hK hP hD va_S.rf hv
theorem d_M_kindOf_0 : decode prog_14_method_19_code 0 = .ok (.iload_n 2, 1) := by decide +kernel
theorem d_M_kindOf_1 : decode prog_14_method_19_code 1 = .ok (.iload_n 1, 1) := by decide +kernel
theorem d_M_kindOf_2 : decode prog_14_method_19_code 2 = .ok (.isub, 1) := by decide +kernel
theorem d_M_kindOf_3 : decode prog_14_method_19_code 3 = .ok (.bipush 7, 2) := by decide +kernel
theorem d_M_kindOf_5 : decode prog_14_method_19_code 5 = .ok (.if_icmp .ne 16, 3) := by decide +kernel
theorem d_M_kindOf_8 : decode prog_14_method_19_code 8 = .ok (.aload_n 0, 1) := by decide +kernel
theorem d_M_kindOf_9 : decode prog_14_method_19_code 9 = .ok (.iload_n 1, 1) := by decide +kernel
theorem d_M_kindOf_10 : decode prog_14_method_19_code 10 = .ok (.ldc2_w 126, 3) := by decide +kernel
theorem d_M_kindOf_13 : decode prog_14_method_19_code 13 = .ok (.invokevirtual 101, 3) := by decide +kernel
theorem d_M_kindOf_16 : decode prog_14_method_19_code 16 = .ok (.ifCond .eq 5, 3) := by decide +kernel
theorem d_M_kindOf_19 : decode prog_14_method_19_code 19 = .ok (.iconst 0, 1) := by decide +kernel
theorem d_M_kindOf_20 : decode prog_14_method_19_code 20 = .ok (.ireturn, 1) := by decide +kernel
theorem d_M_kindOf_21 : decode prog_14_method_19_code 21 = .ok (.iload_n 1, 1) := by decide +kernel
theorem d_M_kindOf_22 : decode prog_14_method_19_code 22 = .ok (.istore_n 3, 1) := by decide +kernel
theorem d_M_kindOf_23 : decode prog_14_method_19_code 23 = .ok (.iload_n 3, 1) := by decide +kernel
theorem d_M_kindOf_24 : decode prog_14_method_19_code 24 = .ok (.iload_n 2, 1) := by decide +kernel
theorem d_M_kindOf_25 : decode prog_14_method_19_code 25 = .ok (.if_icmp .ge 133, 3) := by decide +kernel
theorem d_M_kindOf_28 : decode prog_14_method_19_code 28 = .ok (.aload_n 0, 1) := by decide +kernel
theorem d_M_kindOf_29 : decode prog_14_method_19_code 29 = .ok (.iload_n 3, 1) := by decide +kernel
theorem d_M_kindOf_30 : decode prog_14_method_19_code 30 = .ok (.invokevirtual 94, 3) := by decide +kernel
theorem d_M_kindOf_33 : decode prog_14_method_19_code 33 = .ok (.istore 4, 2) := by decide +kernel
theorem d_M_kindOf_35 : decode prog_14_method_19_code 35 = .ok (.iload 4, 2) := by decide +kernel
theorem d_M_kindOf_37 : decode prog_14_method_19_code 37 = .ok (.invokestatic 128, 3) := by decide +kernel
theorem d_M_kindOf_40 : decode prog_14_method_19_code 40 = .ok (.ifCond .eq 5, 3) := by decide +kernel
theorem d_M_kindOf_43 : decode prog_14_method_19_code 43 = .ok (.iconst 2, 1) := by decide +kernel
theorem d_M_kindOf_44 : decode prog_14_method_19_code 44 = .ok (.ireturn, 1) := by decide +kernel
theorem d_M_kindOf_45 : decode prog_14_method_19_code 45 = .ok (.iload 4, 2) := by decide +kernel
theorem d_M_kindOf_47 : decode prog_14_method_19_code 47 = .ok (.invokestatic 131, 3) := by decide +kernel
theorem d_M_kindOf_50 : decode prog_14_method_19_code 50 = .ok (.ifCond .ne 33, 3) := by decide +kernel
theorem d_M_kindOf_53 : decode prog_14_method_19_code 53 = .ok (.aload_n 0, 1) := by decide +kernel
theorem d_M_kindOf_54 : decode prog_14_method_19_code 54 = .ok (.iload_n 3, 1) := by decide +kernel
theorem d_M_kindOf_55 : decode prog_14_method_19_code 55 = .ok (.invokevirtual 134, 3) := by decide +kernel
theorem d_M_kindOf_58 : decode prog_14_method_19_code 58 = .ok (.ifCond .gt 25, 3) := by decide +kernel
theorem d_M_kindOf_61 : decode prog_14_method_19_code 61 = .ok (.aload_n 0, 1) := by decide +kernel
theorem d_M_kindOf_62 : decode prog_14_method_19_code 62 = .ok (.iload_n 3, 1) := by decide +kernel
theorem d_M_kindOf_63 : decode prog_14_method_19_code 63 = .ok (.ldc2_w 137, 3) := by decide +kernel
theorem d_M_kindOf_66 : decode prog_14_method_19_code 66 = .ok (.invokevirtual 101, 3) := by decide +kernel
theorem d_M_kindOf_69 : decode prog_14_method_19_code 69 = .ok (.ifCond .ne 14, 3) := by decide +kernel
theorem d_M_kindOf_72 : decode prog_14_method_19_code 72 = .ok (.aload_n 0, 1) := by decide +kernel
theorem d_M_kindOf_73 : decode prog_14_method_19_code 73 = .ok (.iload_n 3, 1) := by decide +kernel
theorem d_M_kindOf_74 : decode prog_14_method_19_code 74 = .ok (.ldc2_w 139, 3) := by decide +kernel
theorem d_M_kindOf_77 : decode prog_14_method_19_code 77 = .ok (.invokevirtual 101, 3) := by decide +kernel
theorem d_M_kindOf_80 : decode prog_14_method_19_code 80 = .ok (.ifCond .eq 5, 3) := by decide +kernel
theorem d_M_kindOf_83 : decode prog_14_method_19_code 83 = .ok (.iconst 5, 1) := by decide +kernel
theorem d_M_kindOf_84 : decode prog_14_method_19_code 84 = .ok (.ireturn, 1) := by decide +kernel
theorem d_M_kindOf_85 : decode prog_14_method_19_code 85 = .ok (.iload 4, 2) := by decide +kernel
theorem d_M_kindOf_87 : decode prog_14_method_19_code 87 = .ok (.bipush 64, 2) := by decide +kernel
theorem d_M_kindOf_89 : decode prog_14_method_19_code 89 = .ok (.if_icmp .ne 6, 3) := by decide +kernel
theorem d_M_kindOf_92 : decode prog_14_method_19_code 92 = .ok (.bipush 6, 2) := by decide +kernel
theorem d_M_kindOf_94 : decode prog_14_method_19_code 94 = .ok (.ireturn, 1) := by decide +kernel
theorem d_M_kindOf_95 : decode prog_14_method_19_code 95 = .ok (.iload 4, 2) := by decide +kernel
theorem d_M_kindOf_97 : decode prog_14_method_19_code 97 = .ok (.bipush 34, 2) := by decide +kernel
theorem d_M_kindOf_99 : decode prog_14_method_19_code 99 = .ok (.if_icmp .ne 20, 3) := by decide +kernel
theorem d_M_kindOf_102 : decode prog_14_method_19_code 102 = .ok (.aload_n 0, 1) := by decide +kernel
theorem d_M_kindOf_103 : decode prog_14_method_19_code 103 = .ok (.iload_n 3, 1) := by decide +kernel
theorem d_M_kindOf_104 : decode prog_14_method_19_code 104 = .ok (.invokevirtual 119, 3) := by decide +kernel
theorem d_M_kindOf_107 : decode prog_14_method_19_code 107 = .ok (.iload_n 3, 1) := by decide +kernel
theorem d_M_kindOf_108 : decode prog_14_method_19_code 108 = .ok (.if_icmp .le 11, 3) := by decide +kernel
theorem d_M_kindOf_111 : decode prog_14_method_19_code 111 = .ok (.aload_n 0, 1) := by decide +kernel
theorem d_M_kindOf_112 : decode prog_14_method_19_code 112 = .ok (.iload_n 3, 1) := by decide +kernel
theorem d_M_kindOf_113 : decode prog_14_method_19_code 113 = .ok (.invokevirtual 119, 3) := by decide +kernel
theorem d_M_kindOf_116 : decode prog_14_method_19_code 116 = .ok (.goto 38, 3) := by decide +kernel
theorem d_M_kindOf_119 : decode prog_14_method_19_code 119 = .ok (.aload_n 0, 1) := by decide +kernel
theorem d_M_kindOf_120 : decode prog_14_method_19_code 120 = .ok (.iload_n 3, 1) := by decide +kernel
theorem d_M_kindOf_121 : decode prog_14_method_19_code 121 = .ok (.invokevirtual 122, 3) := by decide +kernel
theorem d_M_kindOf_124 : decode prog_14_method_19_code 124 = .ok (.ifCond .eq 9, 3) := by decide +kernel
theorem d_M_kindOf_127 : decode prog_14_method_19_code 127 = .ok (.iload_n 3, 1) := by decide +kernel
theorem d_M_kindOf_128 : decode prog_14_method_19_code 128 = .ok (.iconst 2, 1) := by decide +kernel
theorem d_M_kindOf_129 : decode prog_14_method_19_code 129 = .ok (.iadd, 1) := by decide +kernel
theorem d_M_kindOf_130 : decode prog_14_method_19_code 130 = .ok (.goto 24, 3) := by decide +kernel
theorem d_M_kindOf_133 : decode prog_14_method_19_code 133 = .ok (.aload_n 0, 1) := by decide +kernel
theorem d_M_kindOf_134 : decode prog_14_method_19_code 134 = .ok (.iload_n 3, 1) := by decide +kernel
theorem d_M_kindOf_135 : decode prog_14_method_19_code 135 = .ok (.invokevirtual 141, 3) := by decide +kernel
theorem d_M_kindOf_138 : decode prog_14_method_19_code 138 = .ok (.ifCond .le 13, 3) := by decide +kernel
theorem d_M_kindOf_141 : decode prog_14_method_19_code 141 = .ok (.iload_n 3, 1) := by decide +kernel
theorem d_M_kindOf_142 : decode prog_14_method_19_code 142 = .ok (.aload_n 0, 1) := by decide +kernel
theorem d_M_kindOf_143 : decode prog_14_method_19_code 143 = .ok (.iload_n 3, 1) := by decide +kernel
theorem d_M_kindOf_144 : decode prog_14_method_19_code 144 = .ok (.invokevirtual 141, 3) := by decide +kernel
theorem d_M_kindOf_147 : decode prog_14_method_19_code 147 = .ok (.iadd, 1) := by decide +kernel
theorem d_M_kindOf_148 : decode prog_14_method_19_code 148 = .ok (.goto 6, 3) := by decide +kernel
theorem d_M_kindOf_151 : decode prog_14_method_19_code 151 = .ok (.iload_n 3, 1) := by decide +kernel
theorem d_M_kindOf_152 : decode prog_14_method_19_code 152 = .ok (.iconst 1, 1) := by decide +kernel
theorem d_M_kindOf_153 : decode prog_14_method_19_code 153 = .ok (.iadd, 1) := by decide +kernel
theorem d_M_kindOf_154 : decode prog_14_method_19_code 154 = .ok (.istore_n 3, 1) := by decide +kernel
theorem d_M_kindOf_155 : decode prog_14_method_19_code 155 = .ok (.goto (-132), 3) := by decide +kernel
theorem d_M_kindOf_158 : decode prog_14_method_19_code 158 = .ok (.iconst 1, 1) := by decide +kernel
theorem d_M_kindOf_159 : decode prog_14_method_19_code 159 = .ok (.ireturn, 1) := by decide +kernel
set_option maxHeartbeats 4000000 in
set_option maxRecDepth 100000 in
theorem b_M_kindOf_154 {h0 : Nat} {a0_4 : Nat} {a0_5 : Nat} {a0_6 : Nat} {a0_7 : Nat} {a0_8 : Nat} {a0_9 : Nat} {a0_10 : Nat} {a0_11 : Nat} {a0_22 : Nat} {a0_26 : Nat} {a0_29 : Nat} {a0_31 : Nat} {a0_32 : Nat} {a0_34 : Nat} {h1 : Nat} {cA1 : ClassId} {I0 : Nat → Int32} {J0 : Nat → Int64} {n1 : Nat} {f1 : Nat → Int32} {x2 : Int32} {s0 : Int32} {k23 : Int32 → Prop} {Z : Int32 → Unit → Prop} {H : Heap} {locs : List Loc} {ls : Array Slot} (hc : zC p s m args meth c prog_14_method_19_code (some .int) 5 "NumberDressModel") (hA : ∀ q : Nat, s.heap.size ≤ q → A q) (hE : zE gE A s) (hk23 : ∀ (x3 : Int32) (H : Heap) (locs : List Loc) (ls : Array Slot), lv_has ls 5 [(0, .ref h0), (2, .int x2), (3, .int x3)] → va_K (dC, dI) zCl [(cA1, .int)] s → va_P (dC, dI) zCl [(h0, .inr (12, o_M I0 J0 h1 a0_4 a0_5 a0_6 a0_7 a0_8 a0_9 a0_10 a0_11 a0_22 a0_26 a0_29 a0_31 a0_32 a0_34)), (h1, .inl (cA1, n1, .inl f1))] H → va_D A [(h0, .inr (12, o_M I0 J0 h1 a0_4 a0_5 a0_6 a0_7 a0_8 a0_9 a0_10 a0_11 a0_22 a0_26 a0_29 a0_31 a0_32 a0_34)), (h1, .inl (cA1, n1, .inl f1))] → va_S A s.heap H locs → k23 x3 → W p l e (headSpec (Cond.code (⟨"NumberDressModel", "kindOf", "(II)I"⟩ : MethodName) prog_14_method_19_code 5 (some .int) :: zT) { frames := 4, cells := 0, slots := 0, locals := 90 }).room s m args below meth c H locs 0 0 (MQ below (va_Qi Z (zB (dC, dI) zCl [(cA1, .int)] A (fun u : Unit => [(h0, .inr (12, o_M I0 J0 h1 a0_4 a0_5 a0_6 a0_7 a0_8 a0_9 a0_10 a0_11 a0_22 a0_26 a0_29 a0_31 a0_32 a0_34)), (h1, .inl (cA1, n1, .inl f1))])) A) args s 0 0 A) (F0 m 23 ls [])) (hl : lv_has ls 5 [(0, .ref h0), (2, .int x2)]) (hK : va_K (dC, dI) zCl [(cA1, .int)] s) (hP : va_P (dC, dI) zCl [(h0, .inr (12, o_M I0 J0 h1 a0_4 a0_5 a0_6 a0_7 a0_8 a0_9 a0_10 a0_11 a0_22 a0_26 a0_29 a0_31 a0_32 a0_34)), (h1, .inl (cA1, n1, .inl f1))] H) (hD : va_D A [(h0, .inr (12, o_M I0 J0 h1 a0_4 a0_5 a0_6 a0_7 a0_8 a0_9 a0_10 a0_11 a0_22 a0_26 a0_29 a0_31 a0_32 a0_34)), (h1, .inl (cA1, n1, .inl f1))]) (hS : va_S A s.heap H locs) (hv : v_M_kindOf_154 I0 J0 n1 f1 x2 s0 k23 Z) : W p l e (headSpec (Cond.code (⟨"NumberDressModel", "kindOf", "(II)I"⟩ : MethodName) prog_14_method_19_code 5 (some .int) :: zT) { frames := 4, cells := 0, slots := 0, locals := 90 }).room s m args below meth c H locs 0 0 (MQ below (va_Qi Z (zB (dC, dI) zCl [(cA1, .int)] A (fun u : Unit => [(h0, .inr (12, o_M I0 J0 h1 a0_4 a0_5 a0_6 a0_7 a0_8 a0_9 a0_10 a0_11 a0_22 a0_26 a0_29 a0_31 a0_32 a0_34)), (h1, .inl (cA1, n1, .inl f1))])) A) args s 0 0 A) (F0 m 154 ls [.int s0]) := by
  obtain ⟨hx, hb, hr, hml, hown, ht, hlocks⟩ := id hc
  unfold v_M_kindOf_154 at hv
  refine lv_istore_n (lv' := [(3, .int s0), (0, .ref h0), (2, .int x2)]) hx hb d_M_kindOf_154 rfl hl (by decide) rfl (fun ls hl => ?_)
  refine lv_goto (tgt := 23) hx hb d_M_kindOf_155 (by decide) ?_
  exact hk23 s0 _ _ _ (lv_sub hl [1, 2, 0] rfl) hK hP hD hS hv
set_option maxHeartbeats 4000000 in
set_option maxRecDepth 100000 in
theorem b_M_kindOf_116 {h0 : Nat} {a0_4 : Nat} {a0_5 : Nat} {a0_6 : Nat} {a0_7 : Nat} {a0_8 : Nat} {a0_9 : Nat} {a0_10 : Nat} {a0_11 : Nat} {a0_22 : Nat} {a0_26 : Nat} {a0_29 : Nat} {a0_31 : Nat} {a0_32 : Nat} {a0_34 : Nat} {h1 : Nat} {cA1 : ClassId} {I0 : Nat → Int32} {J0 : Nat → Int64} {n1 : Nat} {f1 : Nat → Int32} {x2 : Int32} {s0 : Int32} {k23 : Int32 → Prop} {Z : Int32 → Unit → Prop} {H : Heap} {locs : List Loc} {ls : Array Slot} (hc : zC p s m args meth c prog_14_method_19_code (some .int) 5 "NumberDressModel") (hA : ∀ q : Nat, s.heap.size ≤ q → A q) (hE : zE gE A s) (hk23 : ∀ (x3 : Int32) (H : Heap) (locs : List Loc) (ls : Array Slot), lv_has ls 5 [(0, .ref h0), (2, .int x2), (3, .int x3)] → va_K (dC, dI) zCl [(cA1, .int)] s → va_P (dC, dI) zCl [(h0, .inr (12, o_M I0 J0 h1 a0_4 a0_5 a0_6 a0_7 a0_8 a0_9 a0_10 a0_11 a0_22 a0_26 a0_29 a0_31 a0_32 a0_34)), (h1, .inl (cA1, n1, .inl f1))] H → va_D A [(h0, .inr (12, o_M I0 J0 h1 a0_4 a0_5 a0_6 a0_7 a0_8 a0_9 a0_10 a0_11 a0_22 a0_26 a0_29 a0_31 a0_32 a0_34)), (h1, .inl (cA1, n1, .inl f1))] → va_S A s.heap H locs → k23 x3 → W p l e (headSpec (Cond.code (⟨"NumberDressModel", "kindOf", "(II)I"⟩ : MethodName) prog_14_method_19_code 5 (some .int) :: zT) { frames := 4, cells := 0, slots := 0, locals := 90 }).room s m args below meth c H locs 0 0 (MQ below (va_Qi Z (zB (dC, dI) zCl [(cA1, .int)] A (fun u : Unit => [(h0, .inr (12, o_M I0 J0 h1 a0_4 a0_5 a0_6 a0_7 a0_8 a0_9 a0_10 a0_11 a0_22 a0_26 a0_29 a0_31 a0_32 a0_34)), (h1, .inl (cA1, n1, .inl f1))])) A) args s 0 0 A) (F0 m 23 ls [])) (hl : lv_has ls 5 [(0, .ref h0), (2, .int x2)]) (hK : va_K (dC, dI) zCl [(cA1, .int)] s) (hP : va_P (dC, dI) zCl [(h0, .inr (12, o_M I0 J0 h1 a0_4 a0_5 a0_6 a0_7 a0_8 a0_9 a0_10 a0_11 a0_22 a0_26 a0_29 a0_31 a0_32 a0_34)), (h1, .inl (cA1, n1, .inl f1))] H) (hD : va_D A [(h0, .inr (12, o_M I0 J0 h1 a0_4 a0_5 a0_6 a0_7 a0_8 a0_9 a0_10 a0_11 a0_22 a0_26 a0_29 a0_31 a0_32 a0_34)), (h1, .inl (cA1, n1, .inl f1))]) (hS : va_S A s.heap H locs) (hv : v_M_kindOf_116 I0 J0 n1 f1 x2 s0 k23 Z) : W p l e (headSpec (Cond.code (⟨"NumberDressModel", "kindOf", "(II)I"⟩ : MethodName) prog_14_method_19_code 5 (some .int) :: zT) { frames := 4, cells := 0, slots := 0, locals := 90 }).room s m args below meth c H locs 0 0 (MQ below (va_Qi Z (zB (dC, dI) zCl [(cA1, .int)] A (fun u : Unit => [(h0, .inr (12, o_M I0 J0 h1 a0_4 a0_5 a0_6 a0_7 a0_8 a0_9 a0_10 a0_11 a0_22 a0_26 a0_29 a0_31 a0_32 a0_34)), (h1, .inl (cA1, n1, .inl f1))])) A) args s 0 0 A) (F0 m 116 ls [.int s0]) := by
  obtain ⟨hx, hb, hr, hml, hown, ht, hlocks⟩ := id hc
  unfold v_M_kindOf_116 at hv
  refine lv_goto (tgt := 154) hx hb d_M_kindOf_116 (by decide) ?_
  exact b_M_kindOf_154 hc hA hE hk23 (lv_sub hl [0, 1] rfl) hK hP hD hS hv
set_option maxHeartbeats 4000000 in
set_option maxRecDepth 100000 in
theorem b_M_kindOf_147 {h0 : Nat} {a0_4 : Nat} {a0_5 : Nat} {a0_6 : Nat} {a0_7 : Nat} {a0_8 : Nat} {a0_9 : Nat} {a0_10 : Nat} {a0_11 : Nat} {a0_22 : Nat} {a0_26 : Nat} {a0_29 : Nat} {a0_31 : Nat} {a0_32 : Nat} {a0_34 : Nat} {h1 : Nat} {cA1 : ClassId} {I0 : Nat → Int32} {J0 : Nat → Int64} {n1 : Nat} {f1 : Nat → Int32} {x2 : Int32} {s0 : Int32} {s1 : Int32} {k23 : Int32 → Prop} {Z : Int32 → Unit → Prop} {H : Heap} {locs : List Loc} {ls : Array Slot} (hc : zC p s m args meth c prog_14_method_19_code (some .int) 5 "NumberDressModel") (hA : ∀ q : Nat, s.heap.size ≤ q → A q) (hE : zE gE A s) (hk23 : ∀ (x3 : Int32) (H : Heap) (locs : List Loc) (ls : Array Slot), lv_has ls 5 [(0, .ref h0), (2, .int x2), (3, .int x3)] → va_K (dC, dI) zCl [(cA1, .int)] s → va_P (dC, dI) zCl [(h0, .inr (12, o_M I0 J0 h1 a0_4 a0_5 a0_6 a0_7 a0_8 a0_9 a0_10 a0_11 a0_22 a0_26 a0_29 a0_31 a0_32 a0_34)), (h1, .inl (cA1, n1, .inl f1))] H → va_D A [(h0, .inr (12, o_M I0 J0 h1 a0_4 a0_5 a0_6 a0_7 a0_8 a0_9 a0_10 a0_11 a0_22 a0_26 a0_29 a0_31 a0_32 a0_34)), (h1, .inl (cA1, n1, .inl f1))] → va_S A s.heap H locs → k23 x3 → W p l e (headSpec (Cond.code (⟨"NumberDressModel", "kindOf", "(II)I"⟩ : MethodName) prog_14_method_19_code 5 (some .int) :: zT) { frames := 4, cells := 0, slots := 0, locals := 90 }).room s m args below meth c H locs 0 0 (MQ below (va_Qi Z (zB (dC, dI) zCl [(cA1, .int)] A (fun u : Unit => [(h0, .inr (12, o_M I0 J0 h1 a0_4 a0_5 a0_6 a0_7 a0_8 a0_9 a0_10 a0_11 a0_22 a0_26 a0_29 a0_31 a0_32 a0_34)), (h1, .inl (cA1, n1, .inl f1))])) A) args s 0 0 A) (F0 m 23 ls [])) (hl : lv_has ls 5 [(0, .ref h0), (2, .int x2)]) (hK : va_K (dC, dI) zCl [(cA1, .int)] s) (hP : va_P (dC, dI) zCl [(h0, .inr (12, o_M I0 J0 h1 a0_4 a0_5 a0_6 a0_7 a0_8 a0_9 a0_10 a0_11 a0_22 a0_26 a0_29 a0_31 a0_32 a0_34)), (h1, .inl (cA1, n1, .inl f1))] H) (hD : va_D A [(h0, .inr (12, o_M I0 J0 h1 a0_4 a0_5 a0_6 a0_7 a0_8 a0_9 a0_10 a0_11 a0_22 a0_26 a0_29 a0_31 a0_32 a0_34)), (h1, .inl (cA1, n1, .inl f1))]) (hS : va_S A s.heap H locs) (hv : v_M_kindOf_147 I0 J0 n1 f1 x2 s0 s1 k23 Z) : W p l e (headSpec (Cond.code (⟨"NumberDressModel", "kindOf", "(II)I"⟩ : MethodName) prog_14_method_19_code 5 (some .int) :: zT) { frames := 4, cells := 0, slots := 0, locals := 90 }).room s m args below meth c H locs 0 0 (MQ below (va_Qi Z (zB (dC, dI) zCl [(cA1, .int)] A (fun u : Unit => [(h0, .inr (12, o_M I0 J0 h1 a0_4 a0_5 a0_6 a0_7 a0_8 a0_9 a0_10 a0_11 a0_22 a0_26 a0_29 a0_31 a0_32 a0_34)), (h1, .inl (cA1, n1, .inl f1))])) A) args s 0 0 A) (F0 m 147 ls [.int s1, .int s0]) := by
  obtain ⟨hx, hb, hr, hml, hown, ht, hlocks⟩ := id hc
  unfold v_M_kindOf_147 at hv
  refine lv_iadd hx hb d_M_kindOf_147 ?_
  refine lv_goto (tgt := 154) hx hb d_M_kindOf_148 (by decide) ?_
  exact b_M_kindOf_154 hc hA hE hk23 (lv_sub hl [0, 1] rfl) hK hP hD hS hv
set_option maxHeartbeats 4000000 in
set_option maxRecDepth 100000 in
theorem b_M_kindOf_138 {h0 : Nat} {a0_4 : Nat} {a0_5 : Nat} {a0_6 : Nat} {a0_7 : Nat} {a0_8 : Nat} {a0_9 : Nat} {a0_10 : Nat} {a0_11 : Nat} {a0_22 : Nat} {a0_26 : Nat} {a0_29 : Nat} {a0_31 : Nat} {a0_32 : Nat} {a0_34 : Nat} {h1 : Nat} {cA1 : ClassId} {I0 : Nat → Int32} {J0 : Nat → Int64} {n1 : Nat} {f1 : Nat → Int32} {x2 : Int32} {x3 : Int32} {s0 : Int32} {k23 : Int32 → Prop} {Z : Int32 → Unit → Prop} {H : Heap} {locs : List Loc} {ls : Array Slot} (hc : zC p s m args meth c prog_14_method_19_code (some .int) 5 "NumberDressModel") (hA : ∀ q : Nat, s.heap.size ≤ q → A q) (hE : zE gE A s) (hk23 : ∀ (x3 : Int32) (H : Heap) (locs : List Loc) (ls : Array Slot), lv_has ls 5 [(0, .ref h0), (2, .int x2), (3, .int x3)] → va_K (dC, dI) zCl [(cA1, .int)] s → va_P (dC, dI) zCl [(h0, .inr (12, o_M I0 J0 h1 a0_4 a0_5 a0_6 a0_7 a0_8 a0_9 a0_10 a0_11 a0_22 a0_26 a0_29 a0_31 a0_32 a0_34)), (h1, .inl (cA1, n1, .inl f1))] H → va_D A [(h0, .inr (12, o_M I0 J0 h1 a0_4 a0_5 a0_6 a0_7 a0_8 a0_9 a0_10 a0_11 a0_22 a0_26 a0_29 a0_31 a0_32 a0_34)), (h1, .inl (cA1, n1, .inl f1))] → va_S A s.heap H locs → k23 x3 → W p l e (headSpec (Cond.code (⟨"NumberDressModel", "kindOf", "(II)I"⟩ : MethodName) prog_14_method_19_code 5 (some .int) :: zT) { frames := 4, cells := 0, slots := 0, locals := 90 }).room s m args below meth c H locs 0 0 (MQ below (va_Qi Z (zB (dC, dI) zCl [(cA1, .int)] A (fun u : Unit => [(h0, .inr (12, o_M I0 J0 h1 a0_4 a0_5 a0_6 a0_7 a0_8 a0_9 a0_10 a0_11 a0_22 a0_26 a0_29 a0_31 a0_32 a0_34)), (h1, .inl (cA1, n1, .inl f1))])) A) args s 0 0 A) (F0 m 23 ls [])) (hl : lv_has ls 5 [(0, .ref h0), (2, .int x2), (3, .int x3)]) (hK : va_K (dC, dI) zCl [(cA1, .int)] s) (hP : va_P (dC, dI) zCl [(h0, .inr (12, o_M I0 J0 h1 a0_4 a0_5 a0_6 a0_7 a0_8 a0_9 a0_10 a0_11 a0_22 a0_26 a0_29 a0_31 a0_32 a0_34)), (h1, .inl (cA1, n1, .inl f1))] H) (hD : va_D A [(h0, .inr (12, o_M I0 J0 h1 a0_4 a0_5 a0_6 a0_7 a0_8 a0_9 a0_10 a0_11 a0_22 a0_26 a0_29 a0_31 a0_32 a0_34)), (h1, .inl (cA1, n1, .inl f1))]) (hS : va_S A s.heap H locs) (hv : v_M_kindOf_138 I0 J0 n1 f1 x2 x3 s0 k23 Z) : W p l e (headSpec (Cond.code (⟨"NumberDressModel", "kindOf", "(II)I"⟩ : MethodName) prog_14_method_19_code 5 (some .int) :: zT) { frames := 4, cells := 0, slots := 0, locals := 90 }).room s m args below meth c H locs 0 0 (MQ below (va_Qi Z (zB (dC, dI) zCl [(cA1, .int)] A (fun u : Unit => [(h0, .inr (12, o_M I0 J0 h1 a0_4 a0_5 a0_6 a0_7 a0_8 a0_9 a0_10 a0_11 a0_22 a0_26 a0_29 a0_31 a0_32 a0_34)), (h1, .inl (cA1, n1, .inl f1))])) A) args s 0 0 A) (F0 m 138 ls [.int s0]) := by
  obtain ⟨hx, hb, hr, hml, hown, ht, hlocks⟩ := id hc
  unfold v_M_kindOf_138 at hv
  refine lv_if_le (tgt := 151) hx hb d_M_kindOf_138 (by decide) (fun c_1 => ?_) (fun c_1 => ?_)
  · have hv := hv.1 c_1
    refine lv_iload_n hx hb d_M_kindOf_151 rfl (lv_at hl 2 rfl) ?_
    refine lv_iconst (v := (1 : Int32)) hx hb d_M_kindOf_152 (by decide) ?_
    refine lv_iadd hx hb d_M_kindOf_153 ?_
    exact b_M_kindOf_154 hc hA hE hk23 (lv_sub hl [0, 1] rfl) hK hP hD hS hv
  · have hv := hv.2 c_1
    refine lv_iload_n hx hb d_M_kindOf_141 rfl (lv_at hl 2 rfl) ?_
    refine lv_aload_n hx hb d_M_kindOf_142 rfl (lv_at hl 0 rfl) ?_
    refine lv_iload_n hx hb d_M_kindOf_143 rfl (lv_at hl 2 rfl) ?_
    refine z_calli (wc := [(h0, .inr (12, o_M I0 J0 h1 a0_4 a0_5 a0_6 a0_7 a0_8 a0_9 a0_10 a0_11 a0_22 a0_26 a0_29 a0_31 a0_32 a0_34)), (h1, .inl (cA1, n1, .inl f1))]) (wr := []) [0, 1] [] (va_runV (As := [.int x3]) (rest := [.int x3]) ⟨hx, hb, hml, hown, ht⟩ (m_M_colour l dC dI hv) ⟨(callB_of 1 ht (zG_in zi_M_colour) rfl rfl rfl (ht _ zw_122) (ht _ zw_1458) zh_M_colour ⟨Nat.le_of_ble_eq_true rfl, Nat.le_of_ble_eq_true rfl⟩), (ht _ zw_1460), (ht _ zw_69)⟩ ⟨zPc_blind, va_recv hK hP (ci := 12) (q0 := 0) rfl rfl, zPc_pre hP hK hD hS hA hE [0, 1] [0] rfl rfl (by decide) rfl⟩ rfl rfl hl.1 rfl (lv_room (Nat.le_of_ble_eq_true rfl)) d_M_kindOf_144 ⟨Nat.le_of_ble_eq_true rfl, Nat.le_of_ble_eq_true rfl⟩) hP hD hS hA rfl rfl (by decide) (by decide) (fun r u H locs hv hP hD hS => ?_)
    have hP : va_P (dC, dI) zCl [(h0, .inr (12, o_M I0 J0 h1 a0_4 a0_5 a0_6 a0_7 a0_8 a0_9 a0_10 a0_11 a0_22 a0_26 a0_29 a0_31 a0_32 a0_34)), (h1, .inl (cA1, n1, .inl f1))] H := hP.sub [0, 1] rfl
    have hD : va_D A [(h0, .inr (12, o_M I0 J0 h1 a0_4 a0_5 a0_6 a0_7 a0_8 a0_9 a0_10 a0_11 a0_22 a0_26 a0_29 a0_31 a0_32 a0_34)), (h1, .inl (cA1, n1, .inl f1))] := hD.sub [0, 1] (by decide) rfl
    exact b_M_kindOf_147 hc hA hE hk23 (lv_sub hl [0, 1] rfl) hK hP hD hS hv
set_option maxHeartbeats 4000000 in
set_option maxRecDepth 100000 in
theorem b_M_kindOf_124 {h0 : Nat} {a0_4 : Nat} {a0_5 : Nat} {a0_6 : Nat} {a0_7 : Nat} {a0_8 : Nat} {a0_9 : Nat} {a0_10 : Nat} {a0_11 : Nat} {a0_22 : Nat} {a0_26 : Nat} {a0_29 : Nat} {a0_31 : Nat} {a0_32 : Nat} {a0_34 : Nat} {h1 : Nat} {cA1 : ClassId} {I0 : Nat → Int32} {J0 : Nat → Int64} {n1 : Nat} {f1 : Nat → Int32} {x2 : Int32} {x3 : Int32} {s0 : Int32} {k23 : Int32 → Prop} {Z : Int32 → Unit → Prop} {H : Heap} {locs : List Loc} {ls : Array Slot} (hc : zC p s m args meth c prog_14_method_19_code (some .int) 5 "NumberDressModel") (hA : ∀ q : Nat, s.heap.size ≤ q → A q) (hE : zE gE A s) (hk23 : ∀ (x3 : Int32) (H : Heap) (locs : List Loc) (ls : Array Slot), lv_has ls 5 [(0, .ref h0), (2, .int x2), (3, .int x3)] → va_K (dC, dI) zCl [(cA1, .int)] s → va_P (dC, dI) zCl [(h0, .inr (12, o_M I0 J0 h1 a0_4 a0_5 a0_6 a0_7 a0_8 a0_9 a0_10 a0_11 a0_22 a0_26 a0_29 a0_31 a0_32 a0_34)), (h1, .inl (cA1, n1, .inl f1))] H → va_D A [(h0, .inr (12, o_M I0 J0 h1 a0_4 a0_5 a0_6 a0_7 a0_8 a0_9 a0_10 a0_11 a0_22 a0_26 a0_29 a0_31 a0_32 a0_34)), (h1, .inl (cA1, n1, .inl f1))] → va_S A s.heap H locs → k23 x3 → W p l e (headSpec (Cond.code (⟨"NumberDressModel", "kindOf", "(II)I"⟩ : MethodName) prog_14_method_19_code 5 (some .int) :: zT) { frames := 4, cells := 0, slots := 0, locals := 90 }).room s m args below meth c H locs 0 0 (MQ below (va_Qi Z (zB (dC, dI) zCl [(cA1, .int)] A (fun u : Unit => [(h0, .inr (12, o_M I0 J0 h1 a0_4 a0_5 a0_6 a0_7 a0_8 a0_9 a0_10 a0_11 a0_22 a0_26 a0_29 a0_31 a0_32 a0_34)), (h1, .inl (cA1, n1, .inl f1))])) A) args s 0 0 A) (F0 m 23 ls [])) (hl : lv_has ls 5 [(0, .ref h0), (2, .int x2), (3, .int x3)]) (hK : va_K (dC, dI) zCl [(cA1, .int)] s) (hP : va_P (dC, dI) zCl [(h0, .inr (12, o_M I0 J0 h1 a0_4 a0_5 a0_6 a0_7 a0_8 a0_9 a0_10 a0_11 a0_22 a0_26 a0_29 a0_31 a0_32 a0_34)), (h1, .inl (cA1, n1, .inl f1))] H) (hD : va_D A [(h0, .inr (12, o_M I0 J0 h1 a0_4 a0_5 a0_6 a0_7 a0_8 a0_9 a0_10 a0_11 a0_22 a0_26 a0_29 a0_31 a0_32 a0_34)), (h1, .inl (cA1, n1, .inl f1))]) (hS : va_S A s.heap H locs) (hv : v_M_kindOf_124 I0 J0 n1 f1 x2 x3 s0 k23 Z) : W p l e (headSpec (Cond.code (⟨"NumberDressModel", "kindOf", "(II)I"⟩ : MethodName) prog_14_method_19_code 5 (some .int) :: zT) { frames := 4, cells := 0, slots := 0, locals := 90 }).room s m args below meth c H locs 0 0 (MQ below (va_Qi Z (zB (dC, dI) zCl [(cA1, .int)] A (fun u : Unit => [(h0, .inr (12, o_M I0 J0 h1 a0_4 a0_5 a0_6 a0_7 a0_8 a0_9 a0_10 a0_11 a0_22 a0_26 a0_29 a0_31 a0_32 a0_34)), (h1, .inl (cA1, n1, .inl f1))])) A) args s 0 0 A) (F0 m 124 ls [.int s0]) := by
  obtain ⟨hx, hb, hr, hml, hown, ht, hlocks⟩ := id hc
  unfold v_M_kindOf_124 at hv
  refine lv_if_eq (tgt := 133) hx hb d_M_kindOf_124 (by decide) (fun c_1 => ?_) (fun c_1 => ?_)
  · have hv := hv.1 c_1
    refine lv_aload_n hx hb d_M_kindOf_133 rfl (lv_at hl 0 rfl) ?_
    refine lv_iload_n hx hb d_M_kindOf_134 rfl (lv_at hl 2 rfl) ?_
    refine z_calli (wc := [(h0, .inr (12, o_M I0 J0 h1 a0_4 a0_5 a0_6 a0_7 a0_8 a0_9 a0_10 a0_11 a0_22 a0_26 a0_29 a0_31 a0_32 a0_34)), (h1, .inl (cA1, n1, .inl f1))]) (wr := []) [0, 1] [] (va_runV (As := [.int x3]) (rest := []) ⟨hx, hb, hml, hown, ht⟩ (m_M_colour l dC dI hv) ⟨(callB_of 1 ht (zG_in zi_M_colour) rfl rfl rfl (ht _ zw_122) (ht _ zw_1458) zh_M_colour ⟨Nat.le_of_ble_eq_true rfl, Nat.le_of_ble_eq_true rfl⟩), (ht _ zw_1460), (ht _ zw_69)⟩ ⟨zPc_blind, va_recv hK hP (ci := 12) (q0 := 0) rfl rfl, zPc_pre hP hK hD hS hA hE [0, 1] [0] rfl rfl (by decide) rfl⟩ rfl rfl hl.1 rfl (lv_room (Nat.le_of_ble_eq_true rfl)) d_M_kindOf_135 ⟨Nat.le_of_ble_eq_true rfl, Nat.le_of_ble_eq_true rfl⟩) hP hD hS hA rfl rfl (by decide) (by decide) (fun r u H locs hv hP hD hS => ?_)
    have hP : va_P (dC, dI) zCl [(h0, .inr (12, o_M I0 J0 h1 a0_4 a0_5 a0_6 a0_7 a0_8 a0_9 a0_10 a0_11 a0_22 a0_26 a0_29 a0_31 a0_32 a0_34)), (h1, .inl (cA1, n1, .inl f1))] H := hP.sub [0, 1] rfl
    have hD : va_D A [(h0, .inr (12, o_M I0 J0 h1 a0_4 a0_5 a0_6 a0_7 a0_8 a0_9 a0_10 a0_11 a0_22 a0_26 a0_29 a0_31 a0_32 a0_34)), (h1, .inl (cA1, n1, .inl f1))] := hD.sub [0, 1] (by decide) rfl
    exact b_M_kindOf_138 hc hA hE hk23 (lv_sub hl [0, 1, 2] rfl) hK hP hD hS hv
  · have hv := hv.2 c_1
    refine lv_iload_n hx hb d_M_kindOf_127 rfl (lv_at hl 2 rfl) ?_
    refine lv_iconst (v := (2 : Int32)) hx hb d_M_kindOf_128 (by decide) ?_
    refine lv_iadd hx hb d_M_kindOf_129 ?_
    refine lv_goto (tgt := 154) hx hb d_M_kindOf_130 (by decide) ?_
    exact b_M_kindOf_154 hc hA hE hk23 (lv_sub hl [0, 1] rfl) hK hP hD hS hv
set_option maxHeartbeats 4000000 in
set_option maxRecDepth 100000 in
theorem b_M_kindOf_119 {h0 : Nat} {a0_4 : Nat} {a0_5 : Nat} {a0_6 : Nat} {a0_7 : Nat} {a0_8 : Nat} {a0_9 : Nat} {a0_10 : Nat} {a0_11 : Nat} {a0_22 : Nat} {a0_26 : Nat} {a0_29 : Nat} {a0_31 : Nat} {a0_32 : Nat} {a0_34 : Nat} {h1 : Nat} {cA1 : ClassId} {I0 : Nat → Int32} {J0 : Nat → Int64} {n1 : Nat} {f1 : Nat → Int32} {x2 : Int32} {x3 : Int32} {k23 : Int32 → Prop} {Z : Int32 → Unit → Prop} {H : Heap} {locs : List Loc} {ls : Array Slot} (hc : zC p s m args meth c prog_14_method_19_code (some .int) 5 "NumberDressModel") (hA : ∀ q : Nat, s.heap.size ≤ q → A q) (hE : zE gE A s) (hk23 : ∀ (x3 : Int32) (H : Heap) (locs : List Loc) (ls : Array Slot), lv_has ls 5 [(0, .ref h0), (2, .int x2), (3, .int x3)] → va_K (dC, dI) zCl [(cA1, .int)] s → va_P (dC, dI) zCl [(h0, .inr (12, o_M I0 J0 h1 a0_4 a0_5 a0_6 a0_7 a0_8 a0_9 a0_10 a0_11 a0_22 a0_26 a0_29 a0_31 a0_32 a0_34)), (h1, .inl (cA1, n1, .inl f1))] H → va_D A [(h0, .inr (12, o_M I0 J0 h1 a0_4 a0_5 a0_6 a0_7 a0_8 a0_9 a0_10 a0_11 a0_22 a0_26 a0_29 a0_31 a0_32 a0_34)), (h1, .inl (cA1, n1, .inl f1))] → va_S A s.heap H locs → k23 x3 → W p l e (headSpec (Cond.code (⟨"NumberDressModel", "kindOf", "(II)I"⟩ : MethodName) prog_14_method_19_code 5 (some .int) :: zT) { frames := 4, cells := 0, slots := 0, locals := 90 }).room s m args below meth c H locs 0 0 (MQ below (va_Qi Z (zB (dC, dI) zCl [(cA1, .int)] A (fun u : Unit => [(h0, .inr (12, o_M I0 J0 h1 a0_4 a0_5 a0_6 a0_7 a0_8 a0_9 a0_10 a0_11 a0_22 a0_26 a0_29 a0_31 a0_32 a0_34)), (h1, .inl (cA1, n1, .inl f1))])) A) args s 0 0 A) (F0 m 23 ls [])) (hl : lv_has ls 5 [(0, .ref h0), (2, .int x2), (3, .int x3)]) (hK : va_K (dC, dI) zCl [(cA1, .int)] s) (hP : va_P (dC, dI) zCl [(h0, .inr (12, o_M I0 J0 h1 a0_4 a0_5 a0_6 a0_7 a0_8 a0_9 a0_10 a0_11 a0_22 a0_26 a0_29 a0_31 a0_32 a0_34)), (h1, .inl (cA1, n1, .inl f1))] H) (hD : va_D A [(h0, .inr (12, o_M I0 J0 h1 a0_4 a0_5 a0_6 a0_7 a0_8 a0_9 a0_10 a0_11 a0_22 a0_26 a0_29 a0_31 a0_32 a0_34)), (h1, .inl (cA1, n1, .inl f1))]) (hS : va_S A s.heap H locs) (hv : v_M_kindOf_119 I0 J0 n1 f1 x2 x3 k23 Z) : W p l e (headSpec (Cond.code (⟨"NumberDressModel", "kindOf", "(II)I"⟩ : MethodName) prog_14_method_19_code 5 (some .int) :: zT) { frames := 4, cells := 0, slots := 0, locals := 90 }).room s m args below meth c H locs 0 0 (MQ below (va_Qi Z (zB (dC, dI) zCl [(cA1, .int)] A (fun u : Unit => [(h0, .inr (12, o_M I0 J0 h1 a0_4 a0_5 a0_6 a0_7 a0_8 a0_9 a0_10 a0_11 a0_22 a0_26 a0_29 a0_31 a0_32 a0_34)), (h1, .inl (cA1, n1, .inl f1))])) A) args s 0 0 A) (F0 m 119 ls []) := by
  obtain ⟨hx, hb, hr, hml, hown, ht, hlocks⟩ := id hc
  unfold v_M_kindOf_119 at hv
  refine lv_aload_n hx hb d_M_kindOf_119 rfl (lv_at hl 0 rfl) ?_
  refine lv_iload_n hx hb d_M_kindOf_120 rfl (lv_at hl 2 rfl) ?_
  refine z_calli (wc := [(h0, .inr (12, o_M I0 J0 h1 a0_4 a0_5 a0_6 a0_7 a0_8 a0_9 a0_10 a0_11 a0_22 a0_26 a0_29 a0_31 a0_32 a0_34)), (h1, .inl (cA1, n1, .inl f1))]) (wr := []) [0, 1] [] (va_runV (As := [.int x3]) (rest := []) ⟨hx, hb, hml, hown, ht⟩ (m_M_isPair l dC dI hv) ⟨(callB_of 1 ht (zG_in zi_M_isPair) rfl rfl rfl (ht _ zw_122) (ht _ zw_1417) zh_M_isPair ⟨Nat.le_of_ble_eq_true rfl, Nat.le_of_ble_eq_true rfl⟩), (ht _ zw_1419), (ht _ zw_62)⟩ ⟨zPc_blind, va_recv hK hP (ci := 12) (q0 := 0) rfl rfl, zPc_pre hP hK hD hS hA hE [0, 1] [0] rfl rfl (by decide) rfl⟩ rfl rfl hl.1 rfl (lv_room (Nat.le_of_ble_eq_true rfl)) d_M_kindOf_121 ⟨Nat.le_of_ble_eq_true rfl, Nat.le_of_ble_eq_true rfl⟩) hP hD hS hA rfl rfl (by decide) (by decide) (fun r u H locs hv hP hD hS => ?_)
  have hP : va_P (dC, dI) zCl [(h0, .inr (12, o_M I0 J0 h1 a0_4 a0_5 a0_6 a0_7 a0_8 a0_9 a0_10 a0_11 a0_22 a0_26 a0_29 a0_31 a0_32 a0_34)), (h1, .inl (cA1, n1, .inl f1))] H := hP.sub [0, 1] rfl
  have hD : va_D A [(h0, .inr (12, o_M I0 J0 h1 a0_4 a0_5 a0_6 a0_7 a0_8 a0_9 a0_10 a0_11 a0_22 a0_26 a0_29 a0_31 a0_32 a0_34)), (h1, .inl (cA1, n1, .inl f1))] := hD.sub [0, 1] (by decide) rfl
  exact b_M_kindOf_124 hc hA hE hk23 (lv_sub hl [0, 1, 2] rfl) hK hP hD hS hv
set_option maxHeartbeats 4000000 in
set_option maxRecDepth 100000 in
theorem b_M_kindOf_107 {h0 : Nat} {a0_4 : Nat} {a0_5 : Nat} {a0_6 : Nat} {a0_7 : Nat} {a0_8 : Nat} {a0_9 : Nat} {a0_10 : Nat} {a0_11 : Nat} {a0_22 : Nat} {a0_26 : Nat} {a0_29 : Nat} {a0_31 : Nat} {a0_32 : Nat} {a0_34 : Nat} {h1 : Nat} {cA1 : ClassId} {I0 : Nat → Int32} {J0 : Nat → Int64} {n1 : Nat} {f1 : Nat → Int32} {x2 : Int32} {x3 : Int32} {s0 : Int32} {k23 : Int32 → Prop} {Z : Int32 → Unit → Prop} {H : Heap} {locs : List Loc} {ls : Array Slot} (hc : zC p s m args meth c prog_14_method_19_code (some .int) 5 "NumberDressModel") (hA : ∀ q : Nat, s.heap.size ≤ q → A q) (hE : zE gE A s) (hk23 : ∀ (x3 : Int32) (H : Heap) (locs : List Loc) (ls : Array Slot), lv_has ls 5 [(0, .ref h0), (2, .int x2), (3, .int x3)] → va_K (dC, dI) zCl [(cA1, .int)] s → va_P (dC, dI) zCl [(h0, .inr (12, o_M I0 J0 h1 a0_4 a0_5 a0_6 a0_7 a0_8 a0_9 a0_10 a0_11 a0_22 a0_26 a0_29 a0_31 a0_32 a0_34)), (h1, .inl (cA1, n1, .inl f1))] H → va_D A [(h0, .inr (12, o_M I0 J0 h1 a0_4 a0_5 a0_6 a0_7 a0_8 a0_9 a0_10 a0_11 a0_22 a0_26 a0_29 a0_31 a0_32 a0_34)), (h1, .inl (cA1, n1, .inl f1))] → va_S A s.heap H locs → k23 x3 → W p l e (headSpec (Cond.code (⟨"NumberDressModel", "kindOf", "(II)I"⟩ : MethodName) prog_14_method_19_code 5 (some .int) :: zT) { frames := 4, cells := 0, slots := 0, locals := 90 }).room s m args below meth c H locs 0 0 (MQ below (va_Qi Z (zB (dC, dI) zCl [(cA1, .int)] A (fun u : Unit => [(h0, .inr (12, o_M I0 J0 h1 a0_4 a0_5 a0_6 a0_7 a0_8 a0_9 a0_10 a0_11 a0_22 a0_26 a0_29 a0_31 a0_32 a0_34)), (h1, .inl (cA1, n1, .inl f1))])) A) args s 0 0 A) (F0 m 23 ls [])) (hl : lv_has ls 5 [(0, .ref h0), (2, .int x2), (3, .int x3)]) (hK : va_K (dC, dI) zCl [(cA1, .int)] s) (hP : va_P (dC, dI) zCl [(h0, .inr (12, o_M I0 J0 h1 a0_4 a0_5 a0_6 a0_7 a0_8 a0_9 a0_10 a0_11 a0_22 a0_26 a0_29 a0_31 a0_32 a0_34)), (h1, .inl (cA1, n1, .inl f1))] H) (hD : va_D A [(h0, .inr (12, o_M I0 J0 h1 a0_4 a0_5 a0_6 a0_7 a0_8 a0_9 a0_10 a0_11 a0_22 a0_26 a0_29 a0_31 a0_32 a0_34)), (h1, .inl (cA1, n1, .inl f1))]) (hS : va_S A s.heap H locs) (hv : v_M_kindOf_107 I0 J0 n1 f1 x2 x3 s0 k23 Z) : W p l e (headSpec (Cond.code (⟨"NumberDressModel", "kindOf", "(II)I"⟩ : MethodName) prog_14_method_19_code 5 (some .int) :: zT) { frames := 4, cells := 0, slots := 0, locals := 90 }).room s m args below meth c H locs 0 0 (MQ below (va_Qi Z (zB (dC, dI) zCl [(cA1, .int)] A (fun u : Unit => [(h0, .inr (12, o_M I0 J0 h1 a0_4 a0_5 a0_6 a0_7 a0_8 a0_9 a0_10 a0_11 a0_22 a0_26 a0_29 a0_31 a0_32 a0_34)), (h1, .inl (cA1, n1, .inl f1))])) A) args s 0 0 A) (F0 m 107 ls [.int s0]) := by
  obtain ⟨hx, hb, hr, hml, hown, ht, hlocks⟩ := id hc
  unfold v_M_kindOf_107 at hv
  refine lv_iload_n hx hb d_M_kindOf_107 rfl (lv_at hl 2 rfl) ?_
  refine lv_icmp_le (tgt := 119) hx hb d_M_kindOf_108 (by decide) (fun c_1 => ?_) (fun c_1 => ?_)
  · have hv := hv.1 c_1
    exact b_M_kindOf_119 hc hA hE hk23 (lv_sub hl [0, 1, 2] rfl) hK hP hD hS hv
  · have hv := hv.2 c_1
    refine lv_aload_n hx hb d_M_kindOf_111 rfl (lv_at hl 0 rfl) ?_
    refine lv_iload_n hx hb d_M_kindOf_112 rfl (lv_at hl 2 rfl) ?_
    refine z_calli (wc := [(h0, .inr (12, o_M I0 J0 h1 a0_4 a0_5 a0_6 a0_7 a0_8 a0_9 a0_10 a0_11 a0_22 a0_26 a0_29 a0_31 a0_32 a0_34)), (h1, .inl (cA1, n1, .inl f1))]) (wr := []) [0, 1] [] (va_runV (As := [.int x3]) (rest := []) ⟨hx, hb, hml, hown, ht⟩ (m_M_quotesEnd l dC dI hv) ⟨(callB_of 1 ht (zG_in zi_M_quotesEnd) rfl rfl rfl (ht _ zw_122) (ht _ zw_1413) zh_M_quotesEnd ⟨Nat.le_of_ble_eq_true rfl, Nat.le_of_ble_eq_true rfl⟩), (ht _ zw_1415), (ht _ zw_61)⟩ ⟨zPc_blind, va_recv hK hP (ci := 12) (q0 := 0) rfl rfl, zPc_pre hP hK hD hS hA hE [0, 1] [0] rfl rfl (by decide) rfl⟩ rfl rfl hl.1 rfl (lv_room (Nat.le_of_ble_eq_true rfl)) d_M_kindOf_113 ⟨Nat.le_of_ble_eq_true rfl, Nat.le_of_ble_eq_true rfl⟩) hP hD hS hA rfl rfl (by decide) (by decide) (fun r u H locs hv hP hD hS => ?_)
    have hP : va_P (dC, dI) zCl [(h0, .inr (12, o_M I0 J0 h1 a0_4 a0_5 a0_6 a0_7 a0_8 a0_9 a0_10 a0_11 a0_22 a0_26 a0_29 a0_31 a0_32 a0_34)), (h1, .inl (cA1, n1, .inl f1))] H := hP.sub [0, 1] rfl
    have hD : va_D A [(h0, .inr (12, o_M I0 J0 h1 a0_4 a0_5 a0_6 a0_7 a0_8 a0_9 a0_10 a0_11 a0_22 a0_26 a0_29 a0_31 a0_32 a0_34)), (h1, .inl (cA1, n1, .inl f1))] := hD.sub [0, 1] (by decide) rfl
    exact b_M_kindOf_116 hc hA hE hk23 (lv_sub hl [0, 1] rfl) hK hP hD hS hv
set_option maxHeartbeats 4000000 in
set_option maxRecDepth 100000 in
theorem b_M_kindOf_80 {h0 : Nat} {a0_4 : Nat} {a0_5 : Nat} {a0_6 : Nat} {a0_7 : Nat} {a0_8 : Nat} {a0_9 : Nat} {a0_10 : Nat} {a0_11 : Nat} {a0_22 : Nat} {a0_26 : Nat} {a0_29 : Nat} {a0_31 : Nat} {a0_32 : Nat} {a0_34 : Nat} {h1 : Nat} {cA1 : ClassId} {I0 : Nat → Int32} {J0 : Nat → Int64} {n1 : Nat} {f1 : Nat → Int32} {x2 : Int32} {x3 : Int32} {x4 : Int32} {s0 : Int32} {k23 : Int32 → Prop} {Z : Int32 → Unit → Prop} {H : Heap} {locs : List Loc} {ls : Array Slot} (hc : zC p s m args meth c prog_14_method_19_code (some .int) 5 "NumberDressModel") (hA : ∀ q : Nat, s.heap.size ≤ q → A q) (hE : zE gE A s) (hk23 : ∀ (x3 : Int32) (H : Heap) (locs : List Loc) (ls : Array Slot), lv_has ls 5 [(0, .ref h0), (2, .int x2), (3, .int x3)] → va_K (dC, dI) zCl [(cA1, .int)] s → va_P (dC, dI) zCl [(h0, .inr (12, o_M I0 J0 h1 a0_4 a0_5 a0_6 a0_7 a0_8 a0_9 a0_10 a0_11 a0_22 a0_26 a0_29 a0_31 a0_32 a0_34)), (h1, .inl (cA1, n1, .inl f1))] H → va_D A [(h0, .inr (12, o_M I0 J0 h1 a0_4 a0_5 a0_6 a0_7 a0_8 a0_9 a0_10 a0_11 a0_22 a0_26 a0_29 a0_31 a0_32 a0_34)), (h1, .inl (cA1, n1, .inl f1))] → va_S A s.heap H locs → k23 x3 → W p l e (headSpec (Cond.code (⟨"NumberDressModel", "kindOf", "(II)I"⟩ : MethodName) prog_14_method_19_code 5 (some .int) :: zT) { frames := 4, cells := 0, slots := 0, locals := 90 }).room s m args below meth c H locs 0 0 (MQ below (va_Qi Z (zB (dC, dI) zCl [(cA1, .int)] A (fun u : Unit => [(h0, .inr (12, o_M I0 J0 h1 a0_4 a0_5 a0_6 a0_7 a0_8 a0_9 a0_10 a0_11 a0_22 a0_26 a0_29 a0_31 a0_32 a0_34)), (h1, .inl (cA1, n1, .inl f1))])) A) args s 0 0 A) (F0 m 23 ls [])) (hl : lv_has ls 5 [(0, .ref h0), (2, .int x2), (3, .int x3), (4, .int x4)]) (hK : va_K (dC, dI) zCl [(cA1, .int)] s) (hP : va_P (dC, dI) zCl [(h0, .inr (12, o_M I0 J0 h1 a0_4 a0_5 a0_6 a0_7 a0_8 a0_9 a0_10 a0_11 a0_22 a0_26 a0_29 a0_31 a0_32 a0_34)), (h1, .inl (cA1, n1, .inl f1))] H) (hD : va_D A [(h0, .inr (12, o_M I0 J0 h1 a0_4 a0_5 a0_6 a0_7 a0_8 a0_9 a0_10 a0_11 a0_22 a0_26 a0_29 a0_31 a0_32 a0_34)), (h1, .inl (cA1, n1, .inl f1))]) (hS : va_S A s.heap H locs) (hv : v_M_kindOf_80 I0 J0 n1 f1 x2 x3 x4 s0 k23 Z) : W p l e (headSpec (Cond.code (⟨"NumberDressModel", "kindOf", "(II)I"⟩ : MethodName) prog_14_method_19_code 5 (some .int) :: zT) { frames := 4, cells := 0, slots := 0, locals := 90 }).room s m args below meth c H locs 0 0 (MQ below (va_Qi Z (zB (dC, dI) zCl [(cA1, .int)] A (fun u : Unit => [(h0, .inr (12, o_M I0 J0 h1 a0_4 a0_5 a0_6 a0_7 a0_8 a0_9 a0_10 a0_11 a0_22 a0_26 a0_29 a0_31 a0_32 a0_34)), (h1, .inl (cA1, n1, .inl f1))])) A) args s 0 0 A) (F0 m 80 ls [.int s0]) := by
  obtain ⟨hx, hb, hr, hml, hown, ht, hlocks⟩ := id hc
  unfold v_M_kindOf_80 at hv
  refine lv_if_eq (tgt := 85) hx hb d_M_kindOf_80 (by decide) (fun c_1 => ?_) (fun c_1 => ?_)
  · have hv := hv.1 c_1
    refine lv_iload hx hb d_M_kindOf_85 (lv_at hl 3 rfl) ?_
    refine lv_bipush (v := (64 : Int32)) hx hb d_M_kindOf_87 (by decide) ?_
    refine lv_icmp_ne (tgt := 95) hx hb d_M_kindOf_89 (by decide) (fun c_2 => ?_) (fun c_2 => ?_)
    · have hv := hv.1 c_2
      refine lv_iload hx hb d_M_kindOf_95 (lv_at hl 3 rfl) ?_
      refine lv_bipush (v := (34 : Int32)) hx hb d_M_kindOf_97 (by decide) ?_
      refine lv_icmp_ne (tgt := 119) hx hb d_M_kindOf_99 (by decide) (fun c_3 => ?_) (fun c_3 => ?_)
      · have hv := hv.1 c_3
        exact b_M_kindOf_119 hc hA hE hk23 (lv_sub hl [0, 1, 2] rfl) hK hP hD hS hv
      · have hv := hv.2 c_3
        refine lv_aload_n hx hb d_M_kindOf_102 rfl (lv_at hl 0 rfl) ?_
        refine lv_iload_n hx hb d_M_kindOf_103 rfl (lv_at hl 2 rfl) ?_
        refine z_calli (wc := [(h0, .inr (12, o_M I0 J0 h1 a0_4 a0_5 a0_6 a0_7 a0_8 a0_9 a0_10 a0_11 a0_22 a0_26 a0_29 a0_31 a0_32 a0_34)), (h1, .inl (cA1, n1, .inl f1))]) (wr := []) [0, 1] [] (va_runV (As := [.int x3]) (rest := []) ⟨hx, hb, hml, hown, ht⟩ (m_M_quotesEnd l dC dI hv) ⟨(callB_of 1 ht (zG_in zi_M_quotesEnd) rfl rfl rfl (ht _ zw_122) (ht _ zw_1413) zh_M_quotesEnd ⟨Nat.le_of_ble_eq_true rfl, Nat.le_of_ble_eq_true rfl⟩), (ht _ zw_1415), (ht _ zw_61)⟩ ⟨zPc_blind, va_recv hK hP (ci := 12) (q0 := 0) rfl rfl, zPc_pre hP hK hD hS hA hE [0, 1] [0] rfl rfl (by decide) rfl⟩ rfl rfl hl.1 rfl (lv_room (Nat.le_of_ble_eq_true rfl)) d_M_kindOf_104 ⟨Nat.le_of_ble_eq_true rfl, Nat.le_of_ble_eq_true rfl⟩) hP hD hS hA rfl rfl (by decide) (by decide) (fun r u H locs hv hP hD hS => ?_)
        have hP : va_P (dC, dI) zCl [(h0, .inr (12, o_M I0 J0 h1 a0_4 a0_5 a0_6 a0_7 a0_8 a0_9 a0_10 a0_11 a0_22 a0_26 a0_29 a0_31 a0_32 a0_34)), (h1, .inl (cA1, n1, .inl f1))] H := hP.sub [0, 1] rfl
        have hD : va_D A [(h0, .inr (12, o_M I0 J0 h1 a0_4 a0_5 a0_6 a0_7 a0_8 a0_9 a0_10 a0_11 a0_22 a0_26 a0_29 a0_31 a0_32 a0_34)), (h1, .inl (cA1, n1, .inl f1))] := hD.sub [0, 1] (by decide) rfl
        exact b_M_kindOf_107 hc hA hE hk23 (lv_sub hl [0, 1, 2] rfl) hK hP hD hS hv
    · have hv := hv.2 c_2
      refine lv_bipush (v := (6 : Int32)) hx hb d_M_kindOf_92 (by decide) ?_
      exact W.iret (v := (6 : Int32)) hx hb hr (fun t ht hW => ⟨⟨_, (), rfl, hv, ⟨by rw [ht]; exact hP, va_K.moved hW.alike hK, hD⟩⟩, hS.F ht⟩) hS.2.2 d_M_kindOf_94
  · have hv := hv.2 c_1
    refine lv_iconst (v := (5 : Int32)) hx hb d_M_kindOf_83 (by decide) ?_
    exact W.iret (v := (5 : Int32)) hx hb hr (fun t ht hW => ⟨⟨_, (), rfl, hv, ⟨by rw [ht]; exact hP, va_K.moved hW.alike hK, hD⟩⟩, hS.F ht⟩) hS.2.2 d_M_kindOf_84
set_option maxHeartbeats 4000000 in
set_option maxRecDepth 100000 in
theorem b_M_kindOf_69 {h0 : Nat} {a0_4 : Nat} {a0_5 : Nat} {a0_6 : Nat} {a0_7 : Nat} {a0_8 : Nat} {a0_9 : Nat} {a0_10 : Nat} {a0_11 : Nat} {a0_22 : Nat} {a0_26 : Nat} {a0_29 : Nat} {a0_31 : Nat} {a0_32 : Nat} {a0_34 : Nat} {h1 : Nat} {cA1 : ClassId} {I0 : Nat → Int32} {J0 : Nat → Int64} {n1 : Nat} {f1 : Nat → Int32} {x2 : Int32} {x3 : Int32} {x4 : Int32} {s0 : Int32} {k23 : Int32 → Prop} {Z : Int32 → Unit → Prop} {H : Heap} {locs : List Loc} {ls : Array Slot} (hc : zC p s m args meth c prog_14_method_19_code (some .int) 5 "NumberDressModel") (hA : ∀ q : Nat, s.heap.size ≤ q → A q) (hE : zE gE A s) (hk23 : ∀ (x3 : Int32) (H : Heap) (locs : List Loc) (ls : Array Slot), lv_has ls 5 [(0, .ref h0), (2, .int x2), (3, .int x3)] → va_K (dC, dI) zCl [(cA1, .int)] s → va_P (dC, dI) zCl [(h0, .inr (12, o_M I0 J0 h1 a0_4 a0_5 a0_6 a0_7 a0_8 a0_9 a0_10 a0_11 a0_22 a0_26 a0_29 a0_31 a0_32 a0_34)), (h1, .inl (cA1, n1, .inl f1))] H → va_D A [(h0, .inr (12, o_M I0 J0 h1 a0_4 a0_5 a0_6 a0_7 a0_8 a0_9 a0_10 a0_11 a0_22 a0_26 a0_29 a0_31 a0_32 a0_34)), (h1, .inl (cA1, n1, .inl f1))] → va_S A s.heap H locs → k23 x3 → W p l e (headSpec (Cond.code (⟨"NumberDressModel", "kindOf", "(II)I"⟩ : MethodName) prog_14_method_19_code 5 (some .int) :: zT) { frames := 4, cells := 0, slots := 0, locals := 90 }).room s m args below meth c H locs 0 0 (MQ below (va_Qi Z (zB (dC, dI) zCl [(cA1, .int)] A (fun u : Unit => [(h0, .inr (12, o_M I0 J0 h1 a0_4 a0_5 a0_6 a0_7 a0_8 a0_9 a0_10 a0_11 a0_22 a0_26 a0_29 a0_31 a0_32 a0_34)), (h1, .inl (cA1, n1, .inl f1))])) A) args s 0 0 A) (F0 m 23 ls [])) (hl : lv_has ls 5 [(0, .ref h0), (2, .int x2), (3, .int x3), (4, .int x4)]) (hK : va_K (dC, dI) zCl [(cA1, .int)] s) (hP : va_P (dC, dI) zCl [(h0, .inr (12, o_M I0 J0 h1 a0_4 a0_5 a0_6 a0_7 a0_8 a0_9 a0_10 a0_11 a0_22 a0_26 a0_29 a0_31 a0_32 a0_34)), (h1, .inl (cA1, n1, .inl f1))] H) (hD : va_D A [(h0, .inr (12, o_M I0 J0 h1 a0_4 a0_5 a0_6 a0_7 a0_8 a0_9 a0_10 a0_11 a0_22 a0_26 a0_29 a0_31 a0_32 a0_34)), (h1, .inl (cA1, n1, .inl f1))]) (hS : va_S A s.heap H locs) (hv : v_M_kindOf_69 I0 J0 n1 f1 x2 x3 x4 s0 k23 Z) : W p l e (headSpec (Cond.code (⟨"NumberDressModel", "kindOf", "(II)I"⟩ : MethodName) prog_14_method_19_code 5 (some .int) :: zT) { frames := 4, cells := 0, slots := 0, locals := 90 }).room s m args below meth c H locs 0 0 (MQ below (va_Qi Z (zB (dC, dI) zCl [(cA1, .int)] A (fun u : Unit => [(h0, .inr (12, o_M I0 J0 h1 a0_4 a0_5 a0_6 a0_7 a0_8 a0_9 a0_10 a0_11 a0_22 a0_26 a0_29 a0_31 a0_32 a0_34)), (h1, .inl (cA1, n1, .inl f1))])) A) args s 0 0 A) (F0 m 69 ls [.int s0]) := by
  obtain ⟨hx, hb, hr, hml, hown, ht, hlocks⟩ := id hc
  unfold v_M_kindOf_69 at hv
  refine lv_if_ne (tgt := 83) hx hb d_M_kindOf_69 (by decide) (fun c_1 => ?_) (fun c_1 => ?_)
  · have hv := hv.1 c_1
    refine lv_iconst (v := (5 : Int32)) hx hb d_M_kindOf_83 (by decide) ?_
    exact W.iret (v := (5 : Int32)) hx hb hr (fun t ht hW => ⟨⟨_, (), rfl, hv, ⟨by rw [ht]; exact hP, va_K.moved hW.alike hK, hD⟩⟩, hS.F ht⟩) hS.2.2 d_M_kindOf_84
  · have hv := hv.2 c_1
    refine lv_aload_n hx hb d_M_kindOf_72 rfl (lv_at hl 0 rfl) ?_
    refine lv_iload_n hx hb d_M_kindOf_73 rfl (lv_at hl 2 rfl) ?_
    refine lv_ldc2 (v := (6369136 : Int64)) hx hb hown (ht _ zw_1457) d_M_kindOf_74 ?_
    refine z_calli (wc := [(h0, .inr (12, o_M I0 J0 h1 a0_4 a0_5 a0_6 a0_7 a0_8 a0_9 a0_10 a0_11 a0_22 a0_26 a0_29 a0_31 a0_32 a0_34)), (h1, .inl (cA1, n1, .inl f1))]) (wr := []) [0, 1] [] (va_runV (As := [.int x3, .long (6369136 : Int64)]) (rest := []) ⟨hx, hb, hml, hown, ht⟩ (m_M_stands l dC dI hv) ⟨(callB_of 2 ht (zG_in zi_M_stands) rfl rfl rfl (ht _ zw_122) (ht _ zw_1434) zh_M_stands ⟨Nat.le_of_ble_eq_true rfl, Nat.le_of_ble_eq_true rfl⟩), (ht _ zw_1436), (ht _ zw_66)⟩ ⟨zPc_blind, va_recv hK hP (ci := 12) (q0 := 0) rfl rfl, zPc_pre hP hK hD hS hA hE [0, 1] [0] rfl rfl (by decide) rfl⟩ rfl rfl hl.1 rfl (lv_room (Nat.le_of_ble_eq_true rfl)) d_M_kindOf_77 ⟨Nat.le_of_ble_eq_true rfl, Nat.le_of_ble_eq_true rfl⟩) hP hD hS hA rfl rfl (by decide) (by decide) (fun r u H locs hv hP hD hS => ?_)
    have hP : va_P (dC, dI) zCl [(h0, .inr (12, o_M I0 J0 h1 a0_4 a0_5 a0_6 a0_7 a0_8 a0_9 a0_10 a0_11 a0_22 a0_26 a0_29 a0_31 a0_32 a0_34)), (h1, .inl (cA1, n1, .inl f1))] H := hP.sub [0, 1] rfl
    have hD : va_D A [(h0, .inr (12, o_M I0 J0 h1 a0_4 a0_5 a0_6 a0_7 a0_8 a0_9 a0_10 a0_11 a0_22 a0_26 a0_29 a0_31 a0_32 a0_34)), (h1, .inl (cA1, n1, .inl f1))] := hD.sub [0, 1] (by decide) rfl
    exact b_M_kindOf_80 hc hA hE hk23 (lv_sub hl [0, 1, 2, 3] rfl) hK hP hD hS hv
set_option maxHeartbeats 4000000 in
set_option maxRecDepth 100000 in
theorem b_M_kindOf_58 {h0 : Nat} {a0_4 : Nat} {a0_5 : Nat} {a0_6 : Nat} {a0_7 : Nat} {a0_8 : Nat} {a0_9 : Nat} {a0_10 : Nat} {a0_11 : Nat} {a0_22 : Nat} {a0_26 : Nat} {a0_29 : Nat} {a0_31 : Nat} {a0_32 : Nat} {a0_34 : Nat} {h1 : Nat} {cA1 : ClassId} {I0 : Nat → Int32} {J0 : Nat → Int64} {n1 : Nat} {f1 : Nat → Int32} {x2 : Int32} {x3 : Int32} {x4 : Int32} {s0 : Int32} {k23 : Int32 → Prop} {Z : Int32 → Unit → Prop} {H : Heap} {locs : List Loc} {ls : Array Slot} (hc : zC p s m args meth c prog_14_method_19_code (some .int) 5 "NumberDressModel") (hA : ∀ q : Nat, s.heap.size ≤ q → A q) (hE : zE gE A s) (hk23 : ∀ (x3 : Int32) (H : Heap) (locs : List Loc) (ls : Array Slot), lv_has ls 5 [(0, .ref h0), (2, .int x2), (3, .int x3)] → va_K (dC, dI) zCl [(cA1, .int)] s → va_P (dC, dI) zCl [(h0, .inr (12, o_M I0 J0 h1 a0_4 a0_5 a0_6 a0_7 a0_8 a0_9 a0_10 a0_11 a0_22 a0_26 a0_29 a0_31 a0_32 a0_34)), (h1, .inl (cA1, n1, .inl f1))] H → va_D A [(h0, .inr (12, o_M I0 J0 h1 a0_4 a0_5 a0_6 a0_7 a0_8 a0_9 a0_10 a0_11 a0_22 a0_26 a0_29 a0_31 a0_32 a0_34)), (h1, .inl (cA1, n1, .inl f1))] → va_S A s.heap H locs → k23 x3 → W p l e (headSpec (Cond.code (⟨"NumberDressModel", "kindOf", "(II)I"⟩ : MethodName) prog_14_method_19_code 5 (some .int) :: zT) { frames := 4, cells := 0, slots := 0, locals := 90 }).room s m args below meth c H locs 0 0 (MQ below (va_Qi Z (zB (dC, dI) zCl [(cA1, .int)] A (fun u : Unit => [(h0, .inr (12, o_M I0 J0 h1 a0_4 a0_5 a0_6 a0_7 a0_8 a0_9 a0_10 a0_11 a0_22 a0_26 a0_29 a0_31 a0_32 a0_34)), (h1, .inl (cA1, n1, .inl f1))])) A) args s 0 0 A) (F0 m 23 ls [])) (hl : lv_has ls 5 [(0, .ref h0), (2, .int x2), (3, .int x3), (4, .int x4)]) (hK : va_K (dC, dI) zCl [(cA1, .int)] s) (hP : va_P (dC, dI) zCl [(h0, .inr (12, o_M I0 J0 h1 a0_4 a0_5 a0_6 a0_7 a0_8 a0_9 a0_10 a0_11 a0_22 a0_26 a0_29 a0_31 a0_32 a0_34)), (h1, .inl (cA1, n1, .inl f1))] H) (hD : va_D A [(h0, .inr (12, o_M I0 J0 h1 a0_4 a0_5 a0_6 a0_7 a0_8 a0_9 a0_10 a0_11 a0_22 a0_26 a0_29 a0_31 a0_32 a0_34)), (h1, .inl (cA1, n1, .inl f1))]) (hS : va_S A s.heap H locs) (hv : v_M_kindOf_58 I0 J0 n1 f1 x2 x3 x4 s0 k23 Z) : W p l e (headSpec (Cond.code (⟨"NumberDressModel", "kindOf", "(II)I"⟩ : MethodName) prog_14_method_19_code 5 (some .int) :: zT) { frames := 4, cells := 0, slots := 0, locals := 90 }).room s m args below meth c H locs 0 0 (MQ below (va_Qi Z (zB (dC, dI) zCl [(cA1, .int)] A (fun u : Unit => [(h0, .inr (12, o_M I0 J0 h1 a0_4 a0_5 a0_6 a0_7 a0_8 a0_9 a0_10 a0_11 a0_22 a0_26 a0_29 a0_31 a0_32 a0_34)), (h1, .inl (cA1, n1, .inl f1))])) A) args s 0 0 A) (F0 m 58 ls [.int s0]) := by
  obtain ⟨hx, hb, hr, hml, hown, ht, hlocks⟩ := id hc
  unfold v_M_kindOf_58 at hv
  refine lv_if_gt (tgt := 83) hx hb d_M_kindOf_58 (by decide) (fun c_1 => ?_) (fun c_1 => ?_)
  · have hv := hv.1 c_1
    refine lv_iconst (v := (5 : Int32)) hx hb d_M_kindOf_83 (by decide) ?_
    exact W.iret (v := (5 : Int32)) hx hb hr (fun t ht hW => ⟨⟨_, (), rfl, hv, ⟨by rw [ht]; exact hP, va_K.moved hW.alike hK, hD⟩⟩, hS.F ht⟩) hS.2.2 d_M_kindOf_84
  · have hv := hv.2 c_1
    refine lv_aload_n hx hb d_M_kindOf_61 rfl (lv_at hl 0 rfl) ?_
    refine lv_iload_n hx hb d_M_kindOf_62 rfl (lv_at hl 2 rfl) ?_
    refine lv_ldc2 (v := (418443653229 : Int64)) hx hb hown (ht _ zw_1456) d_M_kindOf_63 ?_
    refine z_calli (wc := [(h0, .inr (12, o_M I0 J0 h1 a0_4 a0_5 a0_6 a0_7 a0_8 a0_9 a0_10 a0_11 a0_22 a0_26 a0_29 a0_31 a0_32 a0_34)), (h1, .inl (cA1, n1, .inl f1))]) (wr := []) [0, 1] [] (va_runV (As := [.int x3, .long (418443653229 : Int64)]) (rest := []) ⟨hx, hb, hml, hown, ht⟩ (m_M_stands l dC dI hv) ⟨(callB_of 2 ht (zG_in zi_M_stands) rfl rfl rfl (ht _ zw_122) (ht _ zw_1434) zh_M_stands ⟨Nat.le_of_ble_eq_true rfl, Nat.le_of_ble_eq_true rfl⟩), (ht _ zw_1436), (ht _ zw_66)⟩ ⟨zPc_blind, va_recv hK hP (ci := 12) (q0 := 0) rfl rfl, zPc_pre hP hK hD hS hA hE [0, 1] [0] rfl rfl (by decide) rfl⟩ rfl rfl hl.1 rfl (lv_room (Nat.le_of_ble_eq_true rfl)) d_M_kindOf_66 ⟨Nat.le_of_ble_eq_true rfl, Nat.le_of_ble_eq_true rfl⟩) hP hD hS hA rfl rfl (by decide) (by decide) (fun r u H locs hv hP hD hS => ?_)
    have hP : va_P (dC, dI) zCl [(h0, .inr (12, o_M I0 J0 h1 a0_4 a0_5 a0_6 a0_7 a0_8 a0_9 a0_10 a0_11 a0_22 a0_26 a0_29 a0_31 a0_32 a0_34)), (h1, .inl (cA1, n1, .inl f1))] H := hP.sub [0, 1] rfl
    have hD : va_D A [(h0, .inr (12, o_M I0 J0 h1 a0_4 a0_5 a0_6 a0_7 a0_8 a0_9 a0_10 a0_11 a0_22 a0_26 a0_29 a0_31 a0_32 a0_34)), (h1, .inl (cA1, n1, .inl f1))] := hD.sub [0, 1] (by decide) rfl
    exact b_M_kindOf_69 hc hA hE hk23 (lv_sub hl [0, 1, 2, 3] rfl) hK hP hD hS hv
set_option maxHeartbeats 4000000 in
set_option maxRecDepth 100000 in
theorem b_M_kindOf_50 {h0 : Nat} {a0_4 : Nat} {a0_5 : Nat} {a0_6 : Nat} {a0_7 : Nat} {a0_8 : Nat} {a0_9 : Nat} {a0_10 : Nat} {a0_11 : Nat} {a0_22 : Nat} {a0_26 : Nat} {a0_29 : Nat} {a0_31 : Nat} {a0_32 : Nat} {a0_34 : Nat} {h1 : Nat} {cA1 : ClassId} {I0 : Nat → Int32} {J0 : Nat → Int64} {n1 : Nat} {f1 : Nat → Int32} {x2 : Int32} {x3 : Int32} {x4 : Int32} {s0 : Int32} {k23 : Int32 → Prop} {Z : Int32 → Unit → Prop} {H : Heap} {locs : List Loc} {ls : Array Slot} (hc : zC p s m args meth c prog_14_method_19_code (some .int) 5 "NumberDressModel") (hA : ∀ q : Nat, s.heap.size ≤ q → A q) (hE : zE gE A s) (hk23 : ∀ (x3 : Int32) (H : Heap) (locs : List Loc) (ls : Array Slot), lv_has ls 5 [(0, .ref h0), (2, .int x2), (3, .int x3)] → va_K (dC, dI) zCl [(cA1, .int)] s → va_P (dC, dI) zCl [(h0, .inr (12, o_M I0 J0 h1 a0_4 a0_5 a0_6 a0_7 a0_8 a0_9 a0_10 a0_11 a0_22 a0_26 a0_29 a0_31 a0_32 a0_34)), (h1, .inl (cA1, n1, .inl f1))] H → va_D A [(h0, .inr (12, o_M I0 J0 h1 a0_4 a0_5 a0_6 a0_7 a0_8 a0_9 a0_10 a0_11 a0_22 a0_26 a0_29 a0_31 a0_32 a0_34)), (h1, .inl (cA1, n1, .inl f1))] → va_S A s.heap H locs → k23 x3 → W p l e (headSpec (Cond.code (⟨"NumberDressModel", "kindOf", "(II)I"⟩ : MethodName) prog_14_method_19_code 5 (some .int) :: zT) { frames := 4, cells := 0, slots := 0, locals := 90 }).room s m args below meth c H locs 0 0 (MQ below (va_Qi Z (zB (dC, dI) zCl [(cA1, .int)] A (fun u : Unit => [(h0, .inr (12, o_M I0 J0 h1 a0_4 a0_5 a0_6 a0_7 a0_8 a0_9 a0_10 a0_11 a0_22 a0_26 a0_29 a0_31 a0_32 a0_34)), (h1, .inl (cA1, n1, .inl f1))])) A) args s 0 0 A) (F0 m 23 ls [])) (hl : lv_has ls 5 [(0, .ref h0), (2, .int x2), (3, .int x3), (4, .int x4)]) (hK : va_K (dC, dI) zCl [(cA1, .int)] s) (hP : va_P (dC, dI) zCl [(h0, .inr (12, o_M I0 J0 h1 a0_4 a0_5 a0_6 a0_7 a0_8 a0_9 a0_10 a0_11 a0_22 a0_26 a0_29 a0_31 a0_32 a0_34)), (h1, .inl (cA1, n1, .inl f1))] H) (hD : va_D A [(h0, .inr (12, o_M I0 J0 h1 a0_4 a0_5 a0_6 a0_7 a0_8 a0_9 a0_10 a0_11 a0_22 a0_26 a0_29 a0_31 a0_32 a0_34)), (h1, .inl (cA1, n1, .inl f1))]) (hS : va_S A s.heap H locs) (hv : v_M_kindOf_50 I0 J0 n1 f1 x2 x3 x4 s0 k23 Z) : W p l e (headSpec (Cond.code (⟨"NumberDressModel", "kindOf", "(II)I"⟩ : MethodName) prog_14_method_19_code 5 (some .int) :: zT) { frames := 4, cells := 0, slots := 0, locals := 90 }).room s m args below meth c H locs 0 0 (MQ below (va_Qi Z (zB (dC, dI) zCl [(cA1, .int)] A (fun u : Unit => [(h0, .inr (12, o_M I0 J0 h1 a0_4 a0_5 a0_6 a0_7 a0_8 a0_9 a0_10 a0_11 a0_22 a0_26 a0_29 a0_31 a0_32 a0_34)), (h1, .inl (cA1, n1, .inl f1))])) A) args s 0 0 A) (F0 m 50 ls [.int s0]) := by
  obtain ⟨hx, hb, hr, hml, hown, ht, hlocks⟩ := id hc
  unfold v_M_kindOf_50 at hv
  refine lv_if_ne (tgt := 83) hx hb d_M_kindOf_50 (by decide) (fun c_1 => ?_) (fun c_1 => ?_)
  · have hv := hv.1 c_1
    refine lv_iconst (v := (5 : Int32)) hx hb d_M_kindOf_83 (by decide) ?_
    exact W.iret (v := (5 : Int32)) hx hb hr (fun t ht hW => ⟨⟨_, (), rfl, hv, ⟨by rw [ht]; exact hP, va_K.moved hW.alike hK, hD⟩⟩, hS.F ht⟩) hS.2.2 d_M_kindOf_84
  · have hv := hv.2 c_1
    refine lv_aload_n hx hb d_M_kindOf_53 rfl (lv_at hl 0 rfl) ?_
    refine lv_iload_n hx hb d_M_kindOf_54 rfl (lv_at hl 2 rfl) ?_
    refine z_calli (wc := [(h0, .inr (12, o_M I0 J0 h1 a0_4 a0_5 a0_6 a0_7 a0_8 a0_9 a0_10 a0_11 a0_22 a0_26 a0_29 a0_31 a0_32 a0_34)), (h1, .inl (cA1, n1, .inl f1))]) (wr := []) [0, 1] [] (va_runV (As := [.int x3]) (rest := []) ⟨hx, hb, hml, hown, ht⟩ (m_M_inBrackets l dC dI hv) ⟨(callB_of 1 ht (zG_in zi_M_inBrackets) rfl rfl rfl (ht _ zw_122) (ht _ zw_1452) zh_M_inBrackets ⟨Nat.le_of_ble_eq_true rfl, Nat.le_of_ble_eq_true rfl⟩), (ht _ zw_1454), (ht _ zw_68)⟩ ⟨zPc_blind, va_recv hK hP (ci := 12) (q0 := 0) rfl rfl, zPc_pre hP hK hD hS hA hE [0, 1] [0] rfl rfl (by decide) rfl⟩ rfl rfl hl.1 rfl (lv_room (Nat.le_of_ble_eq_true rfl)) d_M_kindOf_55 ⟨Nat.le_of_ble_eq_true rfl, Nat.le_of_ble_eq_true rfl⟩) hP hD hS hA rfl rfl (by decide) (by decide) (fun r u H locs hv hP hD hS => ?_)
    have hP : va_P (dC, dI) zCl [(h0, .inr (12, o_M I0 J0 h1 a0_4 a0_5 a0_6 a0_7 a0_8 a0_9 a0_10 a0_11 a0_22 a0_26 a0_29 a0_31 a0_32 a0_34)), (h1, .inl (cA1, n1, .inl f1))] H := hP.sub [0, 1] rfl
    have hD : va_D A [(h0, .inr (12, o_M I0 J0 h1 a0_4 a0_5 a0_6 a0_7 a0_8 a0_9 a0_10 a0_11 a0_22 a0_26 a0_29 a0_31 a0_32 a0_34)), (h1, .inl (cA1, n1, .inl f1))] := hD.sub [0, 1] (by decide) rfl
    exact b_M_kindOf_58 hc hA hE hk23 (lv_sub hl [0, 1, 2, 3] rfl) hK hP hD hS hv
set_option maxHeartbeats 4000000 in
set_option maxRecDepth 100000 in
theorem b_M_kindOf_40 {h0 : Nat} {a0_4 : Nat} {a0_5 : Nat} {a0_6 : Nat} {a0_7 : Nat} {a0_8 : Nat} {a0_9 : Nat} {a0_10 : Nat} {a0_11 : Nat} {a0_22 : Nat} {a0_26 : Nat} {a0_29 : Nat} {a0_31 : Nat} {a0_32 : Nat} {a0_34 : Nat} {h1 : Nat} {cA1 : ClassId} {I0 : Nat → Int32} {J0 : Nat → Int64} {n1 : Nat} {f1 : Nat → Int32} {x2 : Int32} {x3 : Int32} {x4 : Int32} {s0 : Int32} {k23 : Int32 → Prop} {Z : Int32 → Unit → Prop} {H : Heap} {locs : List Loc} {ls : Array Slot} (hc : zC p s m args meth c prog_14_method_19_code (some .int) 5 "NumberDressModel") (hA : ∀ q : Nat, s.heap.size ≤ q → A q) (hE : zE gE A s) (hk23 : ∀ (x3 : Int32) (H : Heap) (locs : List Loc) (ls : Array Slot), lv_has ls 5 [(0, .ref h0), (2, .int x2), (3, .int x3)] → va_K (dC, dI) zCl [(cA1, .int)] s → va_P (dC, dI) zCl [(h0, .inr (12, o_M I0 J0 h1 a0_4 a0_5 a0_6 a0_7 a0_8 a0_9 a0_10 a0_11 a0_22 a0_26 a0_29 a0_31 a0_32 a0_34)), (h1, .inl (cA1, n1, .inl f1))] H → va_D A [(h0, .inr (12, o_M I0 J0 h1 a0_4 a0_5 a0_6 a0_7 a0_8 a0_9 a0_10 a0_11 a0_22 a0_26 a0_29 a0_31 a0_32 a0_34)), (h1, .inl (cA1, n1, .inl f1))] → va_S A s.heap H locs → k23 x3 → W p l e (headSpec (Cond.code (⟨"NumberDressModel", "kindOf", "(II)I"⟩ : MethodName) prog_14_method_19_code 5 (some .int) :: zT) { frames := 4, cells := 0, slots := 0, locals := 90 }).room s m args below meth c H locs 0 0 (MQ below (va_Qi Z (zB (dC, dI) zCl [(cA1, .int)] A (fun u : Unit => [(h0, .inr (12, o_M I0 J0 h1 a0_4 a0_5 a0_6 a0_7 a0_8 a0_9 a0_10 a0_11 a0_22 a0_26 a0_29 a0_31 a0_32 a0_34)), (h1, .inl (cA1, n1, .inl f1))])) A) args s 0 0 A) (F0 m 23 ls [])) (hl : lv_has ls 5 [(0, .ref h0), (2, .int x2), (3, .int x3), (4, .int x4)]) (hK : va_K (dC, dI) zCl [(cA1, .int)] s) (hP : va_P (dC, dI) zCl [(h0, .inr (12, o_M I0 J0 h1 a0_4 a0_5 a0_6 a0_7 a0_8 a0_9 a0_10 a0_11 a0_22 a0_26 a0_29 a0_31 a0_32 a0_34)), (h1, .inl (cA1, n1, .inl f1))] H) (hD : va_D A [(h0, .inr (12, o_M I0 J0 h1 a0_4 a0_5 a0_6 a0_7 a0_8 a0_9 a0_10 a0_11 a0_22 a0_26 a0_29 a0_31 a0_32 a0_34)), (h1, .inl (cA1, n1, .inl f1))]) (hS : va_S A s.heap H locs) (hv : v_M_kindOf_40 I0 J0 n1 f1 x2 x3 x4 s0 k23 Z) : W p l e (headSpec (Cond.code (⟨"NumberDressModel", "kindOf", "(II)I"⟩ : MethodName) prog_14_method_19_code 5 (some .int) :: zT) { frames := 4, cells := 0, slots := 0, locals := 90 }).room s m args below meth c H locs 0 0 (MQ below (va_Qi Z (zB (dC, dI) zCl [(cA1, .int)] A (fun u : Unit => [(h0, .inr (12, o_M I0 J0 h1 a0_4 a0_5 a0_6 a0_7 a0_8 a0_9 a0_10 a0_11 a0_22 a0_26 a0_29 a0_31 a0_32 a0_34)), (h1, .inl (cA1, n1, .inl f1))])) A) args s 0 0 A) (F0 m 40 ls [.int s0]) := by
  obtain ⟨hx, hb, hr, hml, hown, ht, hlocks⟩ := id hc
  unfold v_M_kindOf_40 at hv
  refine lv_if_eq (tgt := 45) hx hb d_M_kindOf_40 (by decide) (fun c_1 => ?_) (fun c_1 => ?_)
  · have hv := hv.1 c_1
    refine lv_iload hx hb d_M_kindOf_45 (lv_at hl 3 rfl) ?_
    refine z_calli (wc := []) (wr := [(h0, .inr (12, o_M I0 J0 h1 a0_4 a0_5 a0_6 a0_7 a0_8 a0_9 a0_10 a0_11 a0_22 a0_26 a0_29 a0_31 a0_32 a0_34)), (h1, .inl (cA1, n1, .inl f1))]) [] [0, 1] (va_runS (As := [.int x4]) (rest := []) ⟨hx, hb, hml, hown, ht⟩ (m_M_isRow l dC dI hv) ⟨(callB_of 1 ht (zG_in zi_M_isRow) rfl rfl rfl (ht _ zw_122) (ht _ zw_1449) zh_M_isRow ⟨Nat.le_of_ble_eq_true rfl, Nat.le_of_ble_eq_true rfl⟩), (ht _ zw_1450)⟩ ⟨zPc_blind, zPc_pre hP hK hD hS hA hE [] [] rfl rfl (by decide) rfl⟩ rfl rfl hl.1 rfl (lv_room (Nat.le_of_ble_eq_true rfl)) d_M_kindOf_47 ⟨Nat.le_of_ble_eq_true rfl, Nat.le_of_ble_eq_true rfl⟩) hP hD hS hA rfl rfl (by decide) (by decide) (fun r u H locs hv hP hD hS => ?_)
    have hP : va_P (dC, dI) zCl [(h0, .inr (12, o_M I0 J0 h1 a0_4 a0_5 a0_6 a0_7 a0_8 a0_9 a0_10 a0_11 a0_22 a0_26 a0_29 a0_31 a0_32 a0_34)), (h1, .inl (cA1, n1, .inl f1))] H := hP.sub [0, 1] rfl
    have hD : va_D A [(h0, .inr (12, o_M I0 J0 h1 a0_4 a0_5 a0_6 a0_7 a0_8 a0_9 a0_10 a0_11 a0_22 a0_26 a0_29 a0_31 a0_32 a0_34)), (h1, .inl (cA1, n1, .inl f1))] := hD.sub [0, 1] (by decide) rfl
    exact b_M_kindOf_50 hc hA hE hk23 (lv_sub hl [0, 1, 2, 3] rfl) hK hP hD hS hv
  · have hv := hv.2 c_1
    refine lv_iconst (v := (2 : Int32)) hx hb d_M_kindOf_43 (by decide) ?_
    exact W.iret (v := (2 : Int32)) hx hb hr (fun t ht hW => ⟨⟨_, (), rfl, hv, ⟨by rw [ht]; exact hP, va_K.moved hW.alike hK, hD⟩⟩, hS.F ht⟩) hS.2.2 d_M_kindOf_44
set_option maxHeartbeats 4000000 in
set_option maxRecDepth 100000 in
theorem b_M_kindOf_33 {h0 : Nat} {a0_4 : Nat} {a0_5 : Nat} {a0_6 : Nat} {a0_7 : Nat} {a0_8 : Nat} {a0_9 : Nat} {a0_10 : Nat} {a0_11 : Nat} {a0_22 : Nat} {a0_26 : Nat} {a0_29 : Nat} {a0_31 : Nat} {a0_32 : Nat} {a0_34 : Nat} {h1 : Nat} {cA1 : ClassId} {I0 : Nat → Int32} {J0 : Nat → Int64} {n1 : Nat} {f1 : Nat → Int32} {x2 : Int32} {x3 : Int32} {s0 : Int32} {k23 : Int32 → Prop} {Z : Int32 → Unit → Prop} {H : Heap} {locs : List Loc} {ls : Array Slot} (hc : zC p s m args meth c prog_14_method_19_code (some .int) 5 "NumberDressModel") (hA : ∀ q : Nat, s.heap.size ≤ q → A q) (hE : zE gE A s) (hk23 : ∀ (x3 : Int32) (H : Heap) (locs : List Loc) (ls : Array Slot), lv_has ls 5 [(0, .ref h0), (2, .int x2), (3, .int x3)] → va_K (dC, dI) zCl [(cA1, .int)] s → va_P (dC, dI) zCl [(h0, .inr (12, o_M I0 J0 h1 a0_4 a0_5 a0_6 a0_7 a0_8 a0_9 a0_10 a0_11 a0_22 a0_26 a0_29 a0_31 a0_32 a0_34)), (h1, .inl (cA1, n1, .inl f1))] H → va_D A [(h0, .inr (12, o_M I0 J0 h1 a0_4 a0_5 a0_6 a0_7 a0_8 a0_9 a0_10 a0_11 a0_22 a0_26 a0_29 a0_31 a0_32 a0_34)), (h1, .inl (cA1, n1, .inl f1))] → va_S A s.heap H locs → k23 x3 → W p l e (headSpec (Cond.code (⟨"NumberDressModel", "kindOf", "(II)I"⟩ : MethodName) prog_14_method_19_code 5 (some .int) :: zT) { frames := 4, cells := 0, slots := 0, locals := 90 }).room s m args below meth c H locs 0 0 (MQ below (va_Qi Z (zB (dC, dI) zCl [(cA1, .int)] A (fun u : Unit => [(h0, .inr (12, o_M I0 J0 h1 a0_4 a0_5 a0_6 a0_7 a0_8 a0_9 a0_10 a0_11 a0_22 a0_26 a0_29 a0_31 a0_32 a0_34)), (h1, .inl (cA1, n1, .inl f1))])) A) args s 0 0 A) (F0 m 23 ls [])) (hl : lv_has ls 5 [(0, .ref h0), (2, .int x2), (3, .int x3)]) (hK : va_K (dC, dI) zCl [(cA1, .int)] s) (hP : va_P (dC, dI) zCl [(h0, .inr (12, o_M I0 J0 h1 a0_4 a0_5 a0_6 a0_7 a0_8 a0_9 a0_10 a0_11 a0_22 a0_26 a0_29 a0_31 a0_32 a0_34)), (h1, .inl (cA1, n1, .inl f1))] H) (hD : va_D A [(h0, .inr (12, o_M I0 J0 h1 a0_4 a0_5 a0_6 a0_7 a0_8 a0_9 a0_10 a0_11 a0_22 a0_26 a0_29 a0_31 a0_32 a0_34)), (h1, .inl (cA1, n1, .inl f1))]) (hS : va_S A s.heap H locs) (hv : v_M_kindOf_33 I0 J0 n1 f1 x2 x3 s0 k23 Z) : W p l e (headSpec (Cond.code (⟨"NumberDressModel", "kindOf", "(II)I"⟩ : MethodName) prog_14_method_19_code 5 (some .int) :: zT) { frames := 4, cells := 0, slots := 0, locals := 90 }).room s m args below meth c H locs 0 0 (MQ below (va_Qi Z (zB (dC, dI) zCl [(cA1, .int)] A (fun u : Unit => [(h0, .inr (12, o_M I0 J0 h1 a0_4 a0_5 a0_6 a0_7 a0_8 a0_9 a0_10 a0_11 a0_22 a0_26 a0_29 a0_31 a0_32 a0_34)), (h1, .inl (cA1, n1, .inl f1))])) A) args s 0 0 A) (F0 m 33 ls [.int s0]) := by
  obtain ⟨hx, hb, hr, hml, hown, ht, hlocks⟩ := id hc
  unfold v_M_kindOf_33 at hv
  refine lv_istore (lv' := [(4, .int s0), (0, .ref h0), (2, .int x2), (3, .int x3)]) hx hb d_M_kindOf_33 hl (by decide) rfl (fun ls hl => ?_)
  refine lv_iload hx hb d_M_kindOf_35 (lv_at hl 0 rfl) ?_
  refine z_calli (wc := []) (wr := [(h0, .inr (12, o_M I0 J0 h1 a0_4 a0_5 a0_6 a0_7 a0_8 a0_9 a0_10 a0_11 a0_22 a0_26 a0_29 a0_31 a0_32 a0_34)), (h1, .inl (cA1, n1, .inl f1))]) [] [0, 1] (va_runS (As := [.int s0]) (rest := []) ⟨hx, hb, hml, hown, ht⟩ (m_M_isPlace l dC dI hv) ⟨(callB_of 1 ht (zG_in zi_M_isPlace) rfl rfl rfl (ht _ zw_122) (ht _ zw_1446) zh_M_isPlace ⟨Nat.le_of_ble_eq_true rfl, Nat.le_of_ble_eq_true rfl⟩), (ht _ zw_1447)⟩ ⟨zPc_blind, zPc_pre hP hK hD hS hA hE [] [] rfl rfl (by decide) rfl⟩ rfl rfl hl.1 rfl (lv_room (Nat.le_of_ble_eq_true rfl)) d_M_kindOf_37 ⟨Nat.le_of_ble_eq_true rfl, Nat.le_of_ble_eq_true rfl⟩) hP hD hS hA rfl rfl (by decide) (by decide) (fun r u H locs hv hP hD hS => ?_)
  have hP : va_P (dC, dI) zCl [(h0, .inr (12, o_M I0 J0 h1 a0_4 a0_5 a0_6 a0_7 a0_8 a0_9 a0_10 a0_11 a0_22 a0_26 a0_29 a0_31 a0_32 a0_34)), (h1, .inl (cA1, n1, .inl f1))] H := hP.sub [0, 1] rfl
  have hD : va_D A [(h0, .inr (12, o_M I0 J0 h1 a0_4 a0_5 a0_6 a0_7 a0_8 a0_9 a0_10 a0_11 a0_22 a0_26 a0_29 a0_31 a0_32 a0_34)), (h1, .inl (cA1, n1, .inl f1))] := hD.sub [0, 1] (by decide) rfl
  exact b_M_kindOf_40 hc hA hE hk23 (lv_sub hl [1, 2, 3, 0] rfl) hK hP hD hS hv
set_option maxHeartbeats 4000000 in
set_option maxRecDepth 100000 in
theorem b_M_kindOf_23 {h0 : Nat} {a0_4 : Nat} {a0_5 : Nat} {a0_6 : Nat} {a0_7 : Nat} {a0_8 : Nat} {a0_9 : Nat} {a0_10 : Nat} {a0_11 : Nat} {a0_22 : Nat} {a0_26 : Nat} {a0_29 : Nat} {a0_31 : Nat} {a0_32 : Nat} {a0_34 : Nat} {h1 : Nat} {cA1 : ClassId} {I0 : Nat → Int32} {J0 : Nat → Int64} {n1 : Nat} {f1 : Nat → Int32} {x2 : Int32}  {Z : Int32 → Unit → Prop} (hc : zC p s m args meth c prog_14_method_19_code (some .int) 5 "NumberDressModel") (hA : ∀ q : Nat, s.heap.size ≤ q → A q) (hE : zE gE A s) : ∀ (N : Nat) (x3 : Int32) (H : Heap) (locs : List Loc) (ls : Array Slot), lv_has ls 5 [(0, .ref h0), (2, .int x2), (3, .int x3)] → va_K (dC, dI) zCl [(cA1, .int)] s → va_P (dC, dI) zCl [(h0, .inr (12, o_M I0 J0 h1 a0_4 a0_5 a0_6 a0_7 a0_8 a0_9 a0_10 a0_11 a0_22 a0_26 a0_29 a0_31 a0_32 a0_34)), (h1, .inl (cA1, n1, .inl f1))] H → va_D A [(h0, .inr (12, o_M I0 J0 h1 a0_4 a0_5 a0_6 a0_7 a0_8 a0_9 a0_10 a0_11 a0_22 a0_26 a0_29 a0_31 a0_32 a0_34)), (h1, .inl (cA1, n1, .inl f1))] → va_S A s.heap H locs → v_M_kindOf_23 I0 J0 n1 f1 x2  Z N x3 → W p l e (headSpec (Cond.code (⟨"NumberDressModel", "kindOf", "(II)I"⟩ : MethodName) prog_14_method_19_code 5 (some .int) :: zT) { frames := 4, cells := 0, slots := 0, locals := 90 }).room s m args below meth c H locs 0 0 (MQ below (va_Qi Z (zB (dC, dI) zCl [(cA1, .int)] A (fun u : Unit => [(h0, .inr (12, o_M I0 J0 h1 a0_4 a0_5 a0_6 a0_7 a0_8 a0_9 a0_10 a0_11 a0_22 a0_26 a0_29 a0_31 a0_32 a0_34)), (h1, .inl (cA1, n1, .inl f1))])) A) args s 0 0 A) (F0 m 23 ls []) := by
  obtain ⟨hx, hb, hr, hml, hown, ht, hlocks⟩ := id hc
  intro N
  induction N with
  | zero => intro x3 H locs ls hl hK hP hD hS hv; exact hv.elim
  | succ N hk23 =>
    intro x3 H locs ls hl hK hP hD hS hv
    unfold v_M_kindOf_23 at hv
    refine lv_iload_n hx hb d_M_kindOf_23 rfl (lv_at hl 2 rfl) ?_
    refine lv_iload_n hx hb d_M_kindOf_24 rfl (lv_at hl 1 rfl) ?_
    refine lv_icmp_ge (tgt := 158) hx hb d_M_kindOf_25 (by decide) (fun c_1 => ?_) (fun c_1 => ?_)
    · have hv := hv.1 c_1
      refine lv_iconst (v := (1 : Int32)) hx hb d_M_kindOf_158 (by decide) ?_
      exact W.iret (v := (1 : Int32)) hx hb hr (fun t ht hW => ⟨⟨_, (), rfl, hv, ⟨by rw [ht]; exact hP, va_K.moved hW.alike hK, hD⟩⟩, hS.F ht⟩) hS.2.2 d_M_kindOf_159
    · have hv := hv.2 c_1
      refine lv_aload_n hx hb d_M_kindOf_28 rfl (lv_at hl 0 rfl) ?_
      refine lv_iload_n hx hb d_M_kindOf_29 rfl (lv_at hl 2 rfl) ?_
      refine z_calli (wc := [(h0, .inr (12, o_M I0 J0 h1 a0_4 a0_5 a0_6 a0_7 a0_8 a0_9 a0_10 a0_11 a0_22 a0_26 a0_29 a0_31 a0_32 a0_34)), (h1, .inl (cA1, n1, .inl f1))]) (wr := []) [0, 1] [] (va_runV (As := [.int x3]) (rest := []) ⟨hx, hb, hml, hown, ht⟩ (m_M_low l dC dI hv) ⟨(callB_of 1 ht (zG_in zi_M_low) rfl rfl rfl (ht _ zw_122) (ht _ zw_1438) zh_M_low ⟨Nat.le_of_ble_eq_true rfl, Nat.le_of_ble_eq_true rfl⟩), (ht _ zw_1440), (ht _ zw_67)⟩ ⟨zPc_blind, va_recv hK hP (ci := 12) (q0 := 0) rfl rfl, zPc_pre hP hK hD hS hA hE [0, 1] [0] rfl rfl (by decide) rfl⟩ rfl rfl hl.1 rfl (lv_room (Nat.le_of_ble_eq_true rfl)) d_M_kindOf_30 ⟨Nat.le_of_ble_eq_true rfl, Nat.le_of_ble_eq_true rfl⟩) hP hD hS hA rfl rfl (by decide) (by decide) (fun r u H locs hv hP hD hS => ?_)
      have hP : va_P (dC, dI) zCl [(h0, .inr (12, o_M I0 J0 h1 a0_4 a0_5 a0_6 a0_7 a0_8 a0_9 a0_10 a0_11 a0_22 a0_26 a0_29 a0_31 a0_32 a0_34)), (h1, .inl (cA1, n1, .inl f1))] H := hP.sub [0, 1] rfl
      have hD : va_D A [(h0, .inr (12, o_M I0 J0 h1 a0_4 a0_5 a0_6 a0_7 a0_8 a0_9 a0_10 a0_11 a0_22 a0_26 a0_29 a0_31 a0_32 a0_34)), (h1, .inl (cA1, n1, .inl f1))] := hD.sub [0, 1] (by decide) rfl
      exact b_M_kindOf_33 hc hA hE hk23 (lv_sub hl [0, 1, 2] rfl) hK hP hD hS hv
set_option maxHeartbeats 4000000 in
set_option maxRecDepth 100000 in
theorem b_M_kindOf_21 {h0 : Nat} {a0_4 : Nat} {a0_5 : Nat} {a0_6 : Nat} {a0_7 : Nat} {a0_8 : Nat} {a0_9 : Nat} {a0_10 : Nat} {a0_11 : Nat} {a0_22 : Nat} {a0_26 : Nat} {a0_29 : Nat} {a0_31 : Nat} {a0_32 : Nat} {a0_34 : Nat} {h1 : Nat} {cA1 : ClassId} {I0 : Nat → Int32} {J0 : Nat → Int64} {n1 : Nat} {f1 : Nat → Int32} {x1 : Int32} {x2 : Int32}  {Z : Int32 → Unit → Prop} {H : Heap} {locs : List Loc} {ls : Array Slot} (hc : zC p s m args meth c prog_14_method_19_code (some .int) 5 "NumberDressModel") (hA : ∀ q : Nat, s.heap.size ≤ q → A q) (hE : zE gE A s) (hl : lv_has ls 5 [(0, .ref h0), (1, .int x1), (2, .int x2)]) (hK : va_K (dC, dI) zCl [(cA1, .int)] s) (hP : va_P (dC, dI) zCl [(h0, .inr (12, o_M I0 J0 h1 a0_4 a0_5 a0_6 a0_7 a0_8 a0_9 a0_10 a0_11 a0_22 a0_26 a0_29 a0_31 a0_32 a0_34)), (h1, .inl (cA1, n1, .inl f1))] H) (hD : va_D A [(h0, .inr (12, o_M I0 J0 h1 a0_4 a0_5 a0_6 a0_7 a0_8 a0_9 a0_10 a0_11 a0_22 a0_26 a0_29 a0_31 a0_32 a0_34)), (h1, .inl (cA1, n1, .inl f1))]) (hS : va_S A s.heap H locs) (hv : v_M_kindOf_21 I0 J0 n1 f1 x1 x2  Z) : W p l e (headSpec (Cond.code (⟨"NumberDressModel", "kindOf", "(II)I"⟩ : MethodName) prog_14_method_19_code 5 (some .int) :: zT) { frames := 4, cells := 0, slots := 0, locals := 90 }).room s m args below meth c H locs 0 0 (MQ below (va_Qi Z (zB (dC, dI) zCl [(cA1, .int)] A (fun u : Unit => [(h0, .inr (12, o_M I0 J0 h1 a0_4 a0_5 a0_6 a0_7 a0_8 a0_9 a0_10 a0_11 a0_22 a0_26 a0_29 a0_31 a0_32 a0_34)), (h1, .inl (cA1, n1, .inl f1))])) A) args s 0 0 A) (F0 m 21 ls []) := by
  obtain ⟨hx, hb, hr, hml, hown, ht, hlocks⟩ := id hc
  unfold v_M_kindOf_21 at hv
  refine lv_iload_n hx hb d_M_kindOf_21 rfl (lv_at hl 1 rfl) ?_
  refine lv_istore_n (lv' := [(3, .int x1), (0, .ref h0), (1, .int x1), (2, .int x2)]) hx hb d_M_kindOf_22 rfl hl (by decide) rfl (fun ls hl => ?_)
  obtain ⟨Nx, hv⟩ := hv
  exact b_M_kindOf_23 hc hA hE  Nx x1 _ _ _ (lv_sub hl [1, 3, 0] rfl) hK hP hD hS hv
set_option maxHeartbeats 4000000 in
set_option maxRecDepth 100000 in
theorem b_M_kindOf_16 {h0 : Nat} {a0_4 : Nat} {a0_5 : Nat} {a0_6 : Nat} {a0_7 : Nat} {a0_8 : Nat} {a0_9 : Nat} {a0_10 : Nat} {a0_11 : Nat} {a0_22 : Nat} {a0_26 : Nat} {a0_29 : Nat} {a0_31 : Nat} {a0_32 : Nat} {a0_34 : Nat} {h1 : Nat} {cA1 : ClassId} {I0 : Nat → Int32} {J0 : Nat → Int64} {n1 : Nat} {f1 : Nat → Int32} {x1 : Int32} {x2 : Int32} {s0 : Int32}  {Z : Int32 → Unit → Prop} {H : Heap} {locs : List Loc} {ls : Array Slot} (hc : zC p s m args meth c prog_14_method_19_code (some .int) 5 "NumberDressModel") (hA : ∀ q : Nat, s.heap.size ≤ q → A q) (hE : zE gE A s) (hl : lv_has ls 5 [(0, .ref h0), (1, .int x1), (2, .int x2)]) (hK : va_K (dC, dI) zCl [(cA1, .int)] s) (hP : va_P (dC, dI) zCl [(h0, .inr (12, o_M I0 J0 h1 a0_4 a0_5 a0_6 a0_7 a0_8 a0_9 a0_10 a0_11 a0_22 a0_26 a0_29 a0_31 a0_32 a0_34)), (h1, .inl (cA1, n1, .inl f1))] H) (hD : va_D A [(h0, .inr (12, o_M I0 J0 h1 a0_4 a0_5 a0_6 a0_7 a0_8 a0_9 a0_10 a0_11 a0_22 a0_26 a0_29 a0_31 a0_32 a0_34)), (h1, .inl (cA1, n1, .inl f1))]) (hS : va_S A s.heap H locs) (hv : v_M_kindOf_16 I0 J0 n1 f1 x1 x2 s0  Z) : W p l e (headSpec (Cond.code (⟨"NumberDressModel", "kindOf", "(II)I"⟩ : MethodName) prog_14_method_19_code 5 (some .int) :: zT) { frames := 4, cells := 0, slots := 0, locals := 90 }).room s m args below meth c H locs 0 0 (MQ below (va_Qi Z (zB (dC, dI) zCl [(cA1, .int)] A (fun u : Unit => [(h0, .inr (12, o_M I0 J0 h1 a0_4 a0_5 a0_6 a0_7 a0_8 a0_9 a0_10 a0_11 a0_22 a0_26 a0_29 a0_31 a0_32 a0_34)), (h1, .inl (cA1, n1, .inl f1))])) A) args s 0 0 A) (F0 m 16 ls [.int s0]) := by
  obtain ⟨hx, hb, hr, hml, hown, ht, hlocks⟩ := id hc
  unfold v_M_kindOf_16 at hv
  refine lv_if_eq (tgt := 21) hx hb d_M_kindOf_16 (by decide) (fun c_1 => ?_) (fun c_1 => ?_)
  · have hv := hv.1 c_1
    exact b_M_kindOf_21 hc hA hE  (lv_sub hl [0, 1, 2] rfl) hK hP hD hS hv
  · have hv := hv.2 c_1
    refine lv_iconst (v := (0 : Int32)) hx hb d_M_kindOf_19 (by decide) ?_
    exact W.iret (v := (0 : Int32)) hx hb hr (fun t ht hW => ⟨⟨_, (), rfl, hv, ⟨by rw [ht]; exact hP, va_K.moved hW.alike hK, hD⟩⟩, hS.F ht⟩) hS.2.2 d_M_kindOf_20
set_option maxHeartbeats 4000000 in
set_option maxRecDepth 100000 in
theorem b_M_kindOf_0 {h0 : Nat} {a0_4 : Nat} {a0_5 : Nat} {a0_6 : Nat} {a0_7 : Nat} {a0_8 : Nat} {a0_9 : Nat} {a0_10 : Nat} {a0_11 : Nat} {a0_22 : Nat} {a0_26 : Nat} {a0_29 : Nat} {a0_31 : Nat} {a0_32 : Nat} {a0_34 : Nat} {h1 : Nat} {cA1 : ClassId} {I0 : Nat → Int32} {J0 : Nat → Int64} {n1 : Nat} {f1 : Nat → Int32} {x1 : Int32} {x2 : Int32}  {Z : Int32 → Unit → Prop} {H : Heap} {locs : List Loc} {ls : Array Slot} (hc : zC p s m args meth c prog_14_method_19_code (some .int) 5 "NumberDressModel") (hA : ∀ q : Nat, s.heap.size ≤ q → A q) (hE : zE gE A s) (hl : lv_has ls 5 [(0, .ref h0), (1, .int x1), (2, .int x2)]) (hK : va_K (dC, dI) zCl [(cA1, .int)] s) (hP : va_P (dC, dI) zCl [(h0, .inr (12, o_M I0 J0 h1 a0_4 a0_5 a0_6 a0_7 a0_8 a0_9 a0_10 a0_11 a0_22 a0_26 a0_29 a0_31 a0_32 a0_34)), (h1, .inl (cA1, n1, .inl f1))] H) (hD : va_D A [(h0, .inr (12, o_M I0 J0 h1 a0_4 a0_5 a0_6 a0_7 a0_8 a0_9 a0_10 a0_11 a0_22 a0_26 a0_29 a0_31 a0_32 a0_34)), (h1, .inl (cA1, n1, .inl f1))]) (hS : va_S A s.heap H locs) (hv : v_M_kindOf_0 I0 J0 n1 f1 x1 x2  Z) : W p l e (headSpec (Cond.code (⟨"NumberDressModel", "kindOf", "(II)I"⟩ : MethodName) prog_14_method_19_code 5 (some .int) :: zT) { frames := 4, cells := 0, slots := 0, locals := 90 }).room s m args below meth c H locs 0 0 (MQ below (va_Qi Z (zB (dC, dI) zCl [(cA1, .int)] A (fun u : Unit => [(h0, .inr (12, o_M I0 J0 h1 a0_4 a0_5 a0_6 a0_7 a0_8 a0_9 a0_10 a0_11 a0_22 a0_26 a0_29 a0_31 a0_32 a0_34)), (h1, .inl (cA1, n1, .inl f1))])) A) args s 0 0 A) (F0 m 0 ls []) := by
  obtain ⟨hx, hb, hr, hml, hown, ht, hlocks⟩ := id hc
  unfold v_M_kindOf_0 at hv
  refine lv_iload_n hx hb d_M_kindOf_0 rfl (lv_at hl 2 rfl) ?_
  refine lv_iload_n hx hb d_M_kindOf_1 rfl (lv_at hl 1 rfl) ?_
  refine lv_isub hx hb d_M_kindOf_2 ?_
  refine lv_bipush (v := (7 : Int32)) hx hb d_M_kindOf_3 (by decide) ?_
  refine lv_icmp_ne (tgt := 21) hx hb d_M_kindOf_5 (by decide) (fun c_1 => ?_) (fun c_1 => ?_)
  · have hv := hv.1 c_1
    exact b_M_kindOf_21 hc hA hE  (lv_sub hl [0, 1, 2] rfl) hK hP hD hS hv
  · have hv := hv.2 c_1
    refine lv_aload_n hx hb d_M_kindOf_8 rfl (lv_at hl 0 rfl) ?_
    refine lv_iload_n hx hb d_M_kindOf_9 rfl (lv_at hl 1 rfl) ?_
    refine lv_ldc2 (v := (29103447424000364 : Int64)) hx hb hown (ht _ zw_1433) d_M_kindOf_10 ?_
    refine z_calli (wc := [(h0, .inr (12, o_M I0 J0 h1 a0_4 a0_5 a0_6 a0_7 a0_8 a0_9 a0_10 a0_11 a0_22 a0_26 a0_29 a0_31 a0_32 a0_34)), (h1, .inl (cA1, n1, .inl f1))]) (wr := []) [0, 1] [] (va_runV (As := [.int x1, .long (29103447424000364 : Int64)]) (rest := []) ⟨hx, hb, hml, hown, ht⟩ (m_M_stands l dC dI hv) ⟨(callB_of 2 ht (zG_in zi_M_stands) rfl rfl rfl (ht _ zw_122) (ht _ zw_1434) zh_M_stands ⟨Nat.le_of_ble_eq_true rfl, Nat.le_of_ble_eq_true rfl⟩), (ht _ zw_1436), (ht _ zw_66)⟩ ⟨zPc_blind, va_recv hK hP (ci := 12) (q0 := 0) rfl rfl, zPc_pre hP hK hD hS hA hE [0, 1] [0] rfl rfl (by decide) rfl⟩ rfl rfl hl.1 rfl (lv_room (Nat.le_of_ble_eq_true rfl)) d_M_kindOf_13 ⟨Nat.le_of_ble_eq_true rfl, Nat.le_of_ble_eq_true rfl⟩) hP hD hS hA rfl rfl (by decide) (by decide) (fun r u H locs hv hP hD hS => ?_)
    have hP : va_P (dC, dI) zCl [(h0, .inr (12, o_M I0 J0 h1 a0_4 a0_5 a0_6 a0_7 a0_8 a0_9 a0_10 a0_11 a0_22 a0_26 a0_29 a0_31 a0_32 a0_34)), (h1, .inl (cA1, n1, .inl f1))] H := hP.sub [0, 1] rfl
    have hD : va_D A [(h0, .inr (12, o_M I0 J0 h1 a0_4 a0_5 a0_6 a0_7 a0_8 a0_9 a0_10 a0_11 a0_22 a0_26 a0_29 a0_31 a0_32 a0_34)), (h1, .inl (cA1, n1, .inl f1))] := hD.sub [0, 1] (by decide) rfl
    exact b_M_kindOf_16 hc hA hE  (lv_sub hl [0, 1, 2] rfl) hK hP hD hS hv
theorem zi_M_kindOf : Cond.code (⟨"NumberDressModel", "kindOf", "(II)I"⟩ : MethodName) prog_14_method_19_code 5 (some .int) ∈ zT := zw_1432
theorem zh_M_kindOf : (((⟨"NumberDressModel", "kindOf", "(II)I"⟩ : MethodName)).cls ≠ "java/lang/invoke/MethodHandle" ∧ ((⟨"NumberDressModel", "kindOf", "(II)I"⟩ : MethodName)).cls ≠ "java/lang/invoke/VarHandle" ∧ (parseMethodDescriptor ((⟨"NumberDressModel", "kindOf", "(II)I"⟩ : MethodName)).desc).map (fun d => d.parameters.length) = some 2) := by decide +kernel
set_option maxHeartbeats 4000000 in
set_option maxRecDepth 100000 in
theorem m_M_kindOf (l : Launch) (dC : Nat → ClassId) (dI : Nat → Nat → Nat) {gE : zG} {h0 : Nat} {a0_4 : Nat} {a0_5 : Nat} {a0_6 : Nat} {a0_7 : Nat} {a0_8 : Nat} {a0_9 : Nat} {a0_10 : Nat} {a0_11 : Nat} {a0_22 : Nat} {a0_26 : Nat} {a0_29 : Nat} {a0_31 : Nat} {a0_32 : Nat} {a0_34 : Nat} {h1 : Nat} {cA1 : ClassId} {I0 : Nat → Int32} {J0 : Nat → Int64} {n1 : Nat} {f1 : Nat → Int32} {x1 : Int32} {x2 : Int32} {sz : Nat} {Z : Int32 → Unit → Prop} (hv : v_M_kindOf_0 I0 J0 n1 f1 x1 x2 Z) : Met l (⟨"NumberDressModel", "kindOf", "(II)I"⟩ : MethodName) (Cond.code (⟨"NumberDressModel", "kindOf", "(II)I"⟩ : MethodName) prog_14_method_19_code 5 (some .int) :: zT) { frames := 4, cells := 0, slots := 0, locals := 90 } (zPc gE (dC, dI) zCl [(cA1, .int)] [.ref h0, .int x1, .int x2] sz [(h0, .inr (12, o_M I0 J0 h1 a0_4 a0_5 a0_6 a0_7 a0_8 a0_9 a0_10 a0_11 a0_22 a0_26 a0_29 a0_31 a0_32 a0_34)), (h1, .inl (cA1, n1, .inl f1))]) (va_Qi Z (zB (dC, dI) zCl [(cA1, .int)] (va_A [(h0, .inr (12, o_M I0 J0 h1 a0_4 a0_5 a0_6 a0_7 a0_8 a0_9 a0_10 a0_11 a0_22 a0_26 a0_29 a0_31 a0_32 a0_34)), (h1, .inl (cA1, n1, .inl f1))] sz) (fun u : Unit => [(h0, .inr (12, o_M I0 J0 h1 a0_4 a0_5 a0_6 a0_7 a0_8 a0_9 a0_10 a0_11 a0_22 a0_26 a0_29 a0_31 a0_32 a0_34)), (h1, .inl (cA1, n1, .inl f1))])) (va_A [(h0, .inr (12, o_M I0 J0 h1 a0_4 a0_5 a0_6 a0_7 a0_8 a0_9 a0_10 a0_11 a0_22 a0_26 a0_29 a0_31 a0_32 a0_34)), (h1, .inl (cA1, n1, .inl f1))] sz)) 0 0 (va_A [(h0, .inr (12, o_M I0 J0 h1 a0_4 a0_5 a0_6 a0_7 a0_8 a0_9 a0_10 a0_11 a0_22 a0_26 a0_29 a0_31 a0_32 a0_34)), (h1, .inl (cA1, n1, .inl f1))] sz) := by
  refine Met.ofW (cc := prog_14_method_19_code) (maxL := 5) (ret := (some .int)) (by decide +kernel) rfl ?_
  intro p e s m args below meth c s₁ B hml hp
  obtain ⟨rfl, hsz, hP, hK, hD0, hE⟩ := hp
  have hts := atoms_spec (ws := (Cond.code (⟨"NumberDressModel", "kindOf", "(II)I"⟩ : MethodName) prog_14_method_19_code 5 (some .int) :: zT)) B.pre
  have hown : s.vm.findClass "NumberDressModel" = some m.cls := findClass_of_methodNamed B.named
  have hc : zC p s m _ meth c prog_14_method_19_code (some .int) 5 "NumberDressModel" := ⟨B.exec, B.bytes, B.returns, hml, hown, fun w h => hts w (List.mem_cons_of_mem _ h), B.notSynchronized⟩
  subst hsz
  have hD := hD0.self (sz := s.heap.size)
  generalize hAe : va_A [(h0, .inr (12, o_M I0 J0 h1 a0_4 a0_5 a0_6 a0_7 a0_8 a0_9 a0_10 a0_11 a0_22 a0_26 a0_29 a0_31 a0_32 a0_34)), (h1, .inl (cA1, n1, .inl f1))] s.heap.size = A at hD hE ⊢
  have hA : ∀ q : Nat, s.heap.size ≤ q → A q := fun q h => by rw [← hAe]; exact Or.inr h
  have hl := lv_entry ([.ref h0, .int x1, .int x2]) (n := 5) (Nat.le_of_ble_eq_true rfl)
  rw [lg_entry_eq]
  exact b_M_kindOf_0 hc hA hE hl hK hP hD va_S.rf hv
end
