section
variable {p : Program} {l : Launch} {e : Env} {s : State} {m : MethodId} {args : Array Value} {below : List Frame} {meth : Method} {c : Code} {dC : Nat → ClassId} {dI : Nat → Nat → Nat} {A : Nat → Prop} {gE : zG}
theorem d_M_split_0 : decode prog_14_method_36_code 0 = .ok (.aload_n 0, 1) := by decide +kernel
theorem d_M_split_1 : decode prog_14_method_36_code 1 = .ok (.aload_n 0, 1) := by decide +kernel
theorem d_M_split_2 : decode prog_14_method_36_code 2 = .ok (.getfield 222, 3) := by decide +kernel
theorem d_M_split_5 : decode prog_14_method_36_code 5 = .ok (.ifCond .ge 7, 3) := by decide +kernel
theorem d_M_split_8 : decode prog_14_method_36_code 8 = .ok (.iconst 0, 1) := by decide +kernel
theorem d_M_split_9 : decode prog_14_method_36_code 9 = .ok (.goto 7, 3) := by decide +kernel
theorem d_M_split_12 : decode prog_14_method_36_code 12 = .ok (.aload_n 0, 1) := by decide +kernel
theorem d_M_split_13 : decode prog_14_method_36_code 13 = .ok (.getfield 222, 3) := by decide +kernel
theorem d_M_split_16 : decode prog_14_method_36_code 16 = .ok (.putfield 225, 3) := by decide +kernel
theorem d_M_split_19 : decode prog_14_method_36_code 19 = .ok (.iconst 0, 1) := by decide +kernel
theorem d_M_split_20 : decode prog_14_method_36_code 20 = .ok (.istore_n 1, 1) := by decide +kernel
theorem d_M_split_21 : decode prog_14_method_36_code 21 = .ok (.iload_n 1, 1) := by decide +kernel
theorem d_M_split_22 : decode prog_14_method_36_code 22 = .ok (.aload_n 0, 1) := by decide +kernel
theorem d_M_split_23 : decode prog_14_method_36_code 23 = .ok (.getfield 225, 3) := by decide +kernel
theorem d_M_split_26 : decode prog_14_method_36_code 26 = .ok (.if_icmp .ge 20, 3) := by decide +kernel
theorem d_M_split_29 : decode prog_14_method_36_code 29 = .ok (.aload_n 0, 1) := by decide +kernel
theorem d_M_split_30 : decode prog_14_method_36_code 30 = .ok (.getfield 46, 3) := by decide +kernel
theorem d_M_split_33 : decode prog_14_method_36_code 33 = .ok (.iload_n 1, 1) := by decide +kernel
theorem d_M_split_34 : decode prog_14_method_36_code 34 = .ok (.aload_n 0, 1) := by decide +kernel
theorem d_M_split_35 : decode prog_14_method_36_code 35 = .ok (.iload_n 1, 1) := by decide +kernel
theorem d_M_split_36 : decode prog_14_method_36_code 36 = .ok (.invokevirtual 228, 3) := by decide +kernel
theorem d_M_split_39 : decode prog_14_method_36_code 39 = .ok (.iastore, 1) := by decide +kernel
theorem d_M_split_40 : decode prog_14_method_36_code 40 = .ok (.iinc 1 1, 3) := by decide +kernel
theorem d_M_split_43 : decode prog_14_method_36_code 43 = .ok (.goto (-22), 3) := by decide +kernel
theorem d_M_split_46 : decode prog_14_method_36_code 46 = .ok (.return_, 1) := by decide +kernel
set_option maxHeartbeats 4000000 in
set_option maxRecDepth 100000 in
theorem b_M_split_39 {h0 : Nat} {a0_2 : Nat} {a0_4 : Nat} {a0_5 : Nat} {a0_6 : Nat} {a0_7 : Nat} {a0_8 : Nat} {a0_9 : Nat} {a0_10 : Nat} {a0_11 : Nat} {a0_22 : Nat} {a0_26 : Nat} {a0_32 : Nat} {a0_34 : Nat} {h1 : Nat} {cA1 : ClassId} {h2 : Nat} {cA2 : ClassId} {I0 : Nat → Int32} {J0 : Nat → Int64} {n1 : Nat} {f1 : Nat → Int32} {n2 : Nat} {f2 : Nat → Int32} {x1 : Int32} {s1 : Int32} {s2 : Int32} {k21 : (Nat → Int32) → Int32 → Prop} {Z : (Nat → Int32) × (Nat → Int32) → Prop} {H : Heap} {locs : List Loc} {ls : Array Slot} (hc : zC p s m args meth c prog_14_method_36_code none 2 "NumberDressModel") (hA : ∀ q : Nat, s.heap.size ≤ q → A q) (hE : zE gE A s) (hk21 : ∀ (f2 : Nat → Int32) (x1 : Int32) (H : Heap) (locs : List Loc) (ls : Array Slot), lv_has ls 2 [(0, .ref h0), (1, .int x1)] → va_K (dC, dI) zCl [(cA1, .int), (cA2, .int)] s → va_P (dC, dI) zCl [(h0, .inr (12, o_M I0 J0 a0_2 a0_4 a0_5 a0_6 a0_7 a0_8 a0_9 a0_10 a0_11 a0_22 a0_26 h1 h2 a0_32 a0_34)), (h1, .inl (cA1, n1, .inl f1)), (h2, .inl (cA2, n2, .inl f2))] H → va_D A [(h0, .inr (12, o_M I0 J0 a0_2 a0_4 a0_5 a0_6 a0_7 a0_8 a0_9 a0_10 a0_11 a0_22 a0_26 h1 h2 a0_32 a0_34)), (h1, .inl (cA1, n1, .inl f1)), (h2, .inl (cA2, n2, .inl f2))] → va_S A s.heap H locs → k21 f2 x1 → W p l e (headSpec (Cond.code (⟨"NumberDressModel", "split", "()V"⟩ : MethodName) prog_14_method_36_code 2 none :: zT) { frames := 1, cells := 0, slots := 0, locals := 22 }).room s m args below meth c H locs 0 0 (MQ below (va_Qv Z (zB (dC, dI) zCl [(cA1, .int), (cA2, .int)] A (fun u : (Nat → Int32) × (Nat → Int32) => [(h0, .inr (12, o_M u.1 J0 a0_2 a0_4 a0_5 a0_6 a0_7 a0_8 a0_9 a0_10 a0_11 a0_22 a0_26 h1 h2 a0_32 a0_34)), (h1, .inl (cA1, n1, .inl f1)), (h2, .inl (cA2, n2, .inl u.2))])) A) args s 0 0 A) (F0 m 21 ls [])) (hl : lv_has ls 2 [(0, .ref h0), (1, .int x1)]) (hK : va_K (dC, dI) zCl [(cA1, .int), (cA2, .int)] s) (hP : va_P (dC, dI) zCl [(h0, .inr (12, o_M I0 J0 a0_2 a0_4 a0_5 a0_6 a0_7 a0_8 a0_9 a0_10 a0_11 a0_22 a0_26 h1 h2 a0_32 a0_34)), (h1, .inl (cA1, n1, .inl f1)), (h2, .inl (cA2, n2, .inl f2))] H) (hD : va_D A [(h0, .inr (12, o_M I0 J0 a0_2 a0_4 a0_5 a0_6 a0_7 a0_8 a0_9 a0_10 a0_11 a0_22 a0_26 h1 h2 a0_32 a0_34)), (h1, .inl (cA1, n1, .inl f1)), (h2, .inl (cA2, n2, .inl f2))]) (hS : va_S A s.heap H locs) (hv : v_M_split_39 I0 J0 n1 f1 n2 f2 x1 s1 s2 k21 Z) : W p l e (headSpec (Cond.code (⟨"NumberDressModel", "split", "()V"⟩ : MethodName) prog_14_method_36_code 2 none :: zT) { frames := 1, cells := 0, slots := 0, locals := 22 }).room s m args below meth c H locs 0 0 (MQ below (va_Qv Z (zB (dC, dI) zCl [(cA1, .int), (cA2, .int)] A (fun u : (Nat → Int32) × (Nat → Int32) => [(h0, .inr (12, o_M u.1 J0 a0_2 a0_4 a0_5 a0_6 a0_7 a0_8 a0_9 a0_10 a0_11 a0_22 a0_26 h1 h2 a0_32 a0_34)), (h1, .inl (cA1, n1, .inl f1)), (h2, .inl (cA2, n2, .inl u.2))])) A) args s 0 0 A) (F0 m 39 ls [.int s2, .int s1, .ref h2]) := by
  obtain ⟨hx, hb, hr, hml, hown, ht, hlocks⟩ := id hc
  unfold v_M_split_39 at hv
  obtain ⟨q_1, hv⟩ := hv
  refine va_iast hx hb hK hP hD hS 2 1 rfl rfl q_1 d_M_split_39 (fun H locs hP hD hS => ?_)
  have hP : va_P (dC, dI) zCl [(h0, .inr (12, o_M I0 J0 a0_2 a0_4 a0_5 a0_6 a0_7 a0_8 a0_9 a0_10 a0_11 a0_22 a0_26 h1 h2 a0_32 a0_34)), (h1, .inl (cA1, n1, .inl f1)), (h2, .inl (cA2, n2, .inl (upd f2 s1.toNatClampNeg s2)))] H := hP
  have hD : va_D A [(h0, .inr (12, o_M I0 J0 a0_2 a0_4 a0_5 a0_6 a0_7 a0_8 a0_9 a0_10 a0_11 a0_22 a0_26 h1 h2 a0_32 a0_34)), (h1, .inl (cA1, n1, .inl f1)), (h2, .inl (cA2, n2, .inl (upd f2 s1.toNatClampNeg s2)))] := hD
  refine lv_iinc (v := (x1 + (1 : Int32))) (lv' := [(1, .int (x1 + (1 : Int32))), (0, .ref h0)]) hx hb d_M_split_40 hl (k := 1) rfl rfl (by decide) rfl (fun ls hl => ?_)
  refine lv_goto (tgt := 21) hx hb d_M_split_43 (by decide) ?_
  exact hk21 (upd f2 s1.toNatClampNeg s2) (x1 + (1 : Int32)) _ _ _ (lv_sub hl [1, 0] rfl) hK hP hD hS hv
set_option maxHeartbeats 4000000 in
set_option maxRecDepth 100000 in
theorem b_M_split_21 {h0 : Nat} {a0_2 : Nat} {a0_4 : Nat} {a0_5 : Nat} {a0_6 : Nat} {a0_7 : Nat} {a0_8 : Nat} {a0_9 : Nat} {a0_10 : Nat} {a0_11 : Nat} {a0_22 : Nat} {a0_26 : Nat} {a0_32 : Nat} {a0_34 : Nat} {h1 : Nat} {cA1 : ClassId} {h2 : Nat} {cA2 : ClassId} {I0 : Nat → Int32} {J0 : Nat → Int64} {n1 : Nat} {f1 : Nat → Int32} {n2 : Nat}  {Z : (Nat → Int32) × (Nat → Int32) → Prop} (hc : zC p s m args meth c prog_14_method_36_code none 2 "NumberDressModel") (hA : ∀ q : Nat, s.heap.size ≤ q → A q) (hE : zE gE A s) : ∀ (N : Nat) (f2 : Nat → Int32) (x1 : Int32) (H : Heap) (locs : List Loc) (ls : Array Slot), lv_has ls 2 [(0, .ref h0), (1, .int x1)] → va_K (dC, dI) zCl [(cA1, .int), (cA2, .int)] s → va_P (dC, dI) zCl [(h0, .inr (12, o_M I0 J0 a0_2 a0_4 a0_5 a0_6 a0_7 a0_8 a0_9 a0_10 a0_11 a0_22 a0_26 h1 h2 a0_32 a0_34)), (h1, .inl (cA1, n1, .inl f1)), (h2, .inl (cA2, n2, .inl f2))] H → va_D A [(h0, .inr (12, o_M I0 J0 a0_2 a0_4 a0_5 a0_6 a0_7 a0_8 a0_9 a0_10 a0_11 a0_22 a0_26 h1 h2 a0_32 a0_34)), (h1, .inl (cA1, n1, .inl f1)), (h2, .inl (cA2, n2, .inl f2))] → va_S A s.heap H locs → v_M_split_21 I0 J0 n1 f1 n2  Z N f2 x1 → W p l e (headSpec (Cond.code (⟨"NumberDressModel", "split", "()V"⟩ : MethodName) prog_14_method_36_code 2 none :: zT) { frames := 1, cells := 0, slots := 0, locals := 22 }).room s m args below meth c H locs 0 0 (MQ below (va_Qv Z (zB (dC, dI) zCl [(cA1, .int), (cA2, .int)] A (fun u : (Nat → Int32) × (Nat → Int32) => [(h0, .inr (12, o_M u.1 J0 a0_2 a0_4 a0_5 a0_6 a0_7 a0_8 a0_9 a0_10 a0_11 a0_22 a0_26 h1 h2 a0_32 a0_34)), (h1, .inl (cA1, n1, .inl f1)), (h2, .inl (cA2, n2, .inl u.2))])) A) args s 0 0 A) (F0 m 21 ls []) := by
  obtain ⟨hx, hb, hr, hml, hown, ht, hlocks⟩ := id hc
  intro N
  induction N with
  | zero => intro f2 x1 H locs ls hl hK hP hD hS hv; exact hv.elim
  | succ N hk21 =>
    intro f2 x1 H locs ls hl hK hP hD hS hv
    unfold v_M_split_21 at hv
    refine lv_iload_n hx hb d_M_split_21 rfl (lv_at hl 1 rfl) ?_
    refine lv_aload_n hx hb d_M_split_22 rfl (lv_at hl 0 rfl) ?_
    refine va_get (D := (dC, dI)) (ci := 12) (v := .int (I0 30)) (C := "NumberDressModel") (T := T_M) (N := 41) hx hb ht zin_M hown hK hP 0 rfl rfl 30 (by decide) (ht _ zw_1291) (fun _ h9 => h9) rfl d_M_split_23 ?_
    refine lv_icmp_ge (tgt := 46) hx hb d_M_split_26 (by decide) (fun c_1 => ?_) (fun c_1 => ?_)
    · have hv := hv.1 c_1
      exact W.vret hx hb hr (fun t ht hW => ⟨⟨(I0, f2), rfl, hv, ⟨by rw [ht]; exact hP, va_K.moved hW.alike hK, hD⟩⟩, hS.F ht⟩) hS.2.2 d_M_split_46
    · have hv := hv.2 c_1
      refine lv_aload_n hx hb d_M_split_29 rfl (lv_at hl 0 rfl) ?_
      refine va_get (D := (dC, dI)) (ci := 12) (v := .ref h2) (C := "NumberDressModel") (T := T_M) (N := 41) hx hb ht zin_M hown hK hP 0 rfl rfl 31 (by decide) (ht _ zw_1292) (fun _ h9 => h9) rfl d_M_split_30 ?_
      refine lv_iload_n hx hb d_M_split_33 rfl (lv_at hl 1 rfl) ?_
      refine lv_aload_n hx hb d_M_split_34 rfl (lv_at hl 0 rfl) ?_
      refine lv_iload_n hx hb d_M_split_35 rfl (lv_at hl 1 rfl) ?_
      refine z_calli (wc := [(h0, .inr (12, o_M I0 J0 a0_2 a0_4 a0_5 a0_6 a0_7 a0_8 a0_9 a0_10 a0_11 a0_22 a0_26 h1 h2 a0_32 a0_34)), (h1, .inl (cA1, n1, .inl f1))]) (wr := [(h2, .inl (cA2, n2, .inl f2))]) [0, 1] [2] (va_runV (As := [.int x1]) (rest := [.int x1, .ref h2]) ⟨hx, hb, hml, hown, ht⟩ (m_M_digit l dC dI hv) ⟨(callB_of 1 ht (zG_in zi_M_digit) rfl rfl rfl (ht _ zw_122) (ht _ zw_1546) zh_M_digit ⟨Nat.le_of_ble_eq_true rfl, Nat.le_of_ble_eq_true rfl⟩), (ht _ zw_1548), (ht _ zw_87)⟩ ⟨zPc_blind, va_recv hK hP (ci := 12) (q0 := 0) rfl rfl, zPc_pre hP hK hD hS hA hE [0, 1] [0] rfl rfl (by decide) rfl⟩ rfl rfl hl.1 rfl (lv_room (Nat.le_of_ble_eq_true rfl)) d_M_split_36 ⟨Nat.le_of_ble_eq_true rfl, Nat.le_of_ble_eq_true rfl⟩) hP hD hS hA rfl rfl (by decide) (by decide) (fun r u H locs hv hP hD hS => ?_)
      have hP : va_P (dC, dI) zCl [(h0, .inr (12, o_M I0 J0 a0_2 a0_4 a0_5 a0_6 a0_7 a0_8 a0_9 a0_10 a0_11 a0_22 a0_26 h1 h2 a0_32 a0_34)), (h1, .inl (cA1, n1, .inl f1)), (h2, .inl (cA2, n2, .inl f2))] H := hP.sub [1, 2, 0] rfl
      have hD : va_D A [(h0, .inr (12, o_M I0 J0 a0_2 a0_4 a0_5 a0_6 a0_7 a0_8 a0_9 a0_10 a0_11 a0_22 a0_26 h1 h2 a0_32 a0_34)), (h1, .inl (cA1, n1, .inl f1)), (h2, .inl (cA2, n2, .inl f2))] := hD.sub [1, 2, 0] (by decide) rfl
      exact b_M_split_39 hc hA hE hk21 (lv_sub hl [0, 1] rfl) hK hP hD hS hv
set_option maxHeartbeats 4000000 in
set_option maxRecDepth 100000 in
theorem b_M_split_16 {h0 : Nat} {a0_2 : Nat} {a0_4 : Nat} {a0_5 : Nat} {a0_6 : Nat} {a0_7 : Nat} {a0_8 : Nat} {a0_9 : Nat} {a0_10 : Nat} {a0_11 : Nat} {a0_22 : Nat} {a0_26 : Nat} {a0_32 : Nat} {a0_34 : Nat} {h1 : Nat} {cA1 : ClassId} {h2 : Nat} {cA2 : ClassId} {I0 : Nat → Int32} {J0 : Nat → Int64} {n1 : Nat} {f1 : Nat → Int32} {n2 : Nat} {f2 : Nat → Int32} {s1 : Int32}  {Z : (Nat → Int32) × (Nat → Int32) → Prop} {H : Heap} {locs : List Loc} {ls : Array Slot} (hc : zC p s m args meth c prog_14_method_36_code none 2 "NumberDressModel") (hA : ∀ q : Nat, s.heap.size ≤ q → A q) (hE : zE gE A s) (hl : lv_has ls 2 [(0, .ref h0)]) (hK : va_K (dC, dI) zCl [(cA1, .int), (cA2, .int)] s) (hP : va_P (dC, dI) zCl [(h0, .inr (12, o_M I0 J0 a0_2 a0_4 a0_5 a0_6 a0_7 a0_8 a0_9 a0_10 a0_11 a0_22 a0_26 h1 h2 a0_32 a0_34)), (h1, .inl (cA1, n1, .inl f1)), (h2, .inl (cA2, n2, .inl f2))] H) (hD : va_D A [(h0, .inr (12, o_M I0 J0 a0_2 a0_4 a0_5 a0_6 a0_7 a0_8 a0_9 a0_10 a0_11 a0_22 a0_26 h1 h2 a0_32 a0_34)), (h1, .inl (cA1, n1, .inl f1)), (h2, .inl (cA2, n2, .inl f2))]) (hS : va_S A s.heap H locs) (hv : v_M_split_16 I0 J0 n1 f1 n2 f2 s1  Z) : W p l e (headSpec (Cond.code (⟨"NumberDressModel", "split", "()V"⟩ : MethodName) prog_14_method_36_code 2 none :: zT) { frames := 1, cells := 0, slots := 0, locals := 22 }).room s m args below meth c H locs 0 0 (MQ below (va_Qv Z (zB (dC, dI) zCl [(cA1, .int), (cA2, .int)] A (fun u : (Nat → Int32) × (Nat → Int32) => [(h0, .inr (12, o_M u.1 J0 a0_2 a0_4 a0_5 a0_6 a0_7 a0_8 a0_9 a0_10 a0_11 a0_22 a0_26 h1 h2 a0_32 a0_34)), (h1, .inl (cA1, n1, .inl f1)), (h2, .inl (cA2, n2, .inl u.2))])) A) args s 0 0 A) (F0 m 16 ls [.int s1, .ref h0]) := by
  obtain ⟨hx, hb, hr, hml, hown, ht, hlocks⟩ := id hc
  unfold v_M_split_16 at hv
  refine va_put (D := (dC, dI)) (ci := 12) (v := .int s1) (ty := .int) (C := "NumberDressModel") (T := T_M) (N := 41) hx hb ht zin_M ty_M tyok_M nm_M hown hK hP hD hS 0 rfl rfl 30 (by decide) (ht _ zw_1291) (fun _ h9 => h9) rfl (by decide +kernel) rfl rfl (Nat.le_of_ble_eq_true rfl) d_M_split_16 (fun H locs hP hD hS => ?_)
  have hP : va_P (dC, dI) zCl [(h0, .inr (12, o_M (zu I0 30 s1) J0 a0_2 a0_4 a0_5 a0_6 a0_7 a0_8 a0_9 a0_10 a0_11 a0_22 a0_26 h1 h2 a0_32 a0_34)), (h1, .inl (cA1, n1, .inl f1)), (h2, .inl (cA2, n2, .inl f2))] H := hP
  have hD : va_D A [(h0, .inr (12, o_M (zu I0 30 s1) J0 a0_2 a0_4 a0_5 a0_6 a0_7 a0_8 a0_9 a0_10 a0_11 a0_22 a0_26 h1 h2 a0_32 a0_34)), (h1, .inl (cA1, n1, .inl f1)), (h2, .inl (cA2, n2, .inl f2))] := hD
  refine lv_iconst (v := (0 : Int32)) hx hb d_M_split_19 (by decide) ?_
  refine lv_istore_n (lv' := [(1, .int (0 : Int32)), (0, .ref h0)]) hx hb d_M_split_20 rfl hl (by decide) rfl (fun ls hl => ?_)
  obtain ⟨Nx, hv⟩ := hv
  exact b_M_split_21 hc hA hE  Nx f2 (0 : Int32) _ _ _ (lv_sub hl [1, 0] rfl) hK hP hD hS hv
set_option maxHeartbeats 4000000 in
set_option maxRecDepth 100000 in
theorem b_M_split_0 {h0 : Nat} {a0_2 : Nat} {a0_4 : Nat} {a0_5 : Nat} {a0_6 : Nat} {a0_7 : Nat} {a0_8 : Nat} {a0_9 : Nat} {a0_10 : Nat} {a0_11 : Nat} {a0_22 : Nat} {a0_26 : Nat} {a0_32 : Nat} {a0_34 : Nat} {h1 : Nat} {cA1 : ClassId} {h2 : Nat} {cA2 : ClassId} {I0 : Nat → Int32} {J0 : Nat → Int64} {n1 : Nat} {f1 : Nat → Int32} {n2 : Nat} {f2 : Nat → Int32}  {Z : (Nat → Int32) × (Nat → Int32) → Prop} {H : Heap} {locs : List Loc} {ls : Array Slot} (hc : zC p s m args meth c prog_14_method_36_code none 2 "NumberDressModel") (hA : ∀ q : Nat, s.heap.size ≤ q → A q) (hE : zE gE A s) (hl : lv_has ls 2 [(0, .ref h0)]) (hK : va_K (dC, dI) zCl [(cA1, .int), (cA2, .int)] s) (hP : va_P (dC, dI) zCl [(h0, .inr (12, o_M I0 J0 a0_2 a0_4 a0_5 a0_6 a0_7 a0_8 a0_9 a0_10 a0_11 a0_22 a0_26 h1 h2 a0_32 a0_34)), (h1, .inl (cA1, n1, .inl f1)), (h2, .inl (cA2, n2, .inl f2))] H) (hD : va_D A [(h0, .inr (12, o_M I0 J0 a0_2 a0_4 a0_5 a0_6 a0_7 a0_8 a0_9 a0_10 a0_11 a0_22 a0_26 h1 h2 a0_32 a0_34)), (h1, .inl (cA1, n1, .inl f1)), (h2, .inl (cA2, n2, .inl f2))]) (hS : va_S A s.heap H locs) (hv : v_M_split_0 I0 J0 n1 f1 n2 f2  Z) : W p l e (headSpec (Cond.code (⟨"NumberDressModel", "split", "()V"⟩ : MethodName) prog_14_method_36_code 2 none :: zT) { frames := 1, cells := 0, slots := 0, locals := 22 }).room s m args below meth c H locs 0 0 (MQ below (va_Qv Z (zB (dC, dI) zCl [(cA1, .int), (cA2, .int)] A (fun u : (Nat → Int32) × (Nat → Int32) => [(h0, .inr (12, o_M u.1 J0 a0_2 a0_4 a0_5 a0_6 a0_7 a0_8 a0_9 a0_10 a0_11 a0_22 a0_26 h1 h2 a0_32 a0_34)), (h1, .inl (cA1, n1, .inl f1)), (h2, .inl (cA2, n2, .inl u.2))])) A) args s 0 0 A) (F0 m 0 ls []) := by
  obtain ⟨hx, hb, hr, hml, hown, ht, hlocks⟩ := id hc
  unfold v_M_split_0 at hv
  refine lv_aload_n hx hb d_M_split_0 rfl (lv_at hl 0 rfl) ?_
  refine lv_aload_n hx hb d_M_split_1 rfl (lv_at hl 0 rfl) ?_
  refine va_get (D := (dC, dI)) (ci := 12) (v := .int (I0 28)) (C := "NumberDressModel") (T := T_M) (N := 41) hx hb ht zin_M hown hK hP 0 rfl rfl 28 (by decide) (ht _ zw_1289) (fun _ h9 => h9) rfl d_M_split_2 ?_
  refine lv_if_ge (tgt := 12) hx hb d_M_split_5 (by decide) (fun c_1 => ?_) (fun c_1 => ?_)
  · have hv := hv.1 c_1
    refine lv_aload_n hx hb d_M_split_12 rfl (lv_at hl 0 rfl) ?_
    refine va_get (D := (dC, dI)) (ci := 12) (v := .int (I0 28)) (C := "NumberDressModel") (T := T_M) (N := 41) hx hb ht zin_M hown hK hP 0 rfl rfl 28 (by decide) (ht _ zw_1289) (fun _ h9 => h9) rfl d_M_split_13 ?_
    exact b_M_split_16 hc hA hE  (lv_sub hl [0] rfl) hK hP hD hS hv
  · have hv := hv.2 c_1
    refine lv_iconst (v := (0 : Int32)) hx hb d_M_split_8 (by decide) ?_
    refine lv_goto (tgt := 16) hx hb d_M_split_9 (by decide) ?_
    exact b_M_split_16 hc hA hE  (lv_sub hl [0] rfl) hK hP hD hS hv
theorem zi_M_split : Cond.code (⟨"NumberDressModel", "split", "()V"⟩ : MethodName) prog_14_method_36_code 2 none ∈ zT := zw_1573
theorem zh_M_split : (((⟨"NumberDressModel", "split", "()V"⟩ : MethodName)).cls ≠ "java/lang/invoke/MethodHandle" ∧ ((⟨"NumberDressModel", "split", "()V"⟩ : MethodName)).cls ≠ "java/lang/invoke/VarHandle" ∧ (parseMethodDescriptor ((⟨"NumberDressModel", "split", "()V"⟩ : MethodName)).desc).map (fun d => d.parameters.length) = some 0) := by decide +kernel
set_option maxHeartbeats 4000000 in
set_option maxRecDepth 100000 in
theorem m_M_split (l : Launch) (dC : Nat → ClassId) (dI : Nat → Nat → Nat) {gE : zG} {h0 : Nat} {a0_2 : Nat} {a0_4 : Nat} {a0_5 : Nat} {a0_6 : Nat} {a0_7 : Nat} {a0_8 : Nat} {a0_9 : Nat} {a0_10 : Nat} {a0_11 : Nat} {a0_22 : Nat} {a0_26 : Nat} {a0_32 : Nat} {a0_34 : Nat} {h1 : Nat} {cA1 : ClassId} {h2 : Nat} {cA2 : ClassId} {I0 : Nat → Int32} {J0 : Nat → Int64} {n1 : Nat} {f1 : Nat → Int32} {n2 : Nat} {f2 : Nat → Int32} {sz : Nat} {Z : (Nat → Int32) × (Nat → Int32) → Prop} (hv : v_M_split_0 I0 J0 n1 f1 n2 f2 Z) : Met l (⟨"NumberDressModel", "split", "()V"⟩ : MethodName) (Cond.code (⟨"NumberDressModel", "split", "()V"⟩ : MethodName) prog_14_method_36_code 2 none :: zT) { frames := 1, cells := 0, slots := 0, locals := 22 } (zPc gE (dC, dI) zCl [(cA1, .int), (cA2, .int)] [.ref h0] sz [(h0, .inr (12, o_M I0 J0 a0_2 a0_4 a0_5 a0_6 a0_7 a0_8 a0_9 a0_10 a0_11 a0_22 a0_26 h1 h2 a0_32 a0_34)), (h1, .inl (cA1, n1, .inl f1)), (h2, .inl (cA2, n2, .inl f2))]) (va_Qv Z (zB (dC, dI) zCl [(cA1, .int), (cA2, .int)] (va_A [(h0, .inr (12, o_M I0 J0 a0_2 a0_4 a0_5 a0_6 a0_7 a0_8 a0_9 a0_10 a0_11 a0_22 a0_26 h1 h2 a0_32 a0_34)), (h1, .inl (cA1, n1, .inl f1)), (h2, .inl (cA2, n2, .inl f2))] sz) (fun u : (Nat → Int32) × (Nat → Int32) => [(h0, .inr (12, o_M u.1 J0 a0_2 a0_4 a0_5 a0_6 a0_7 a0_8 a0_9 a0_10 a0_11 a0_22 a0_26 h1 h2 a0_32 a0_34)), (h1, .inl (cA1, n1, .inl f1)), (h2, .inl (cA2, n2, .inl u.2))])) (va_A [(h0, .inr (12, o_M I0 J0 a0_2 a0_4 a0_5 a0_6 a0_7 a0_8 a0_9 a0_10 a0_11 a0_22 a0_26 h1 h2 a0_32 a0_34)), (h1, .inl (cA1, n1, .inl f1)), (h2, .inl (cA2, n2, .inl f2))] sz)) 0 0 (va_A [(h0, .inr (12, o_M I0 J0 a0_2 a0_4 a0_5 a0_6 a0_7 a0_8 a0_9 a0_10 a0_11 a0_22 a0_26 h1 h2 a0_32 a0_34)), (h1, .inl (cA1, n1, .inl f1)), (h2, .inl (cA2, n2, .inl f2))] sz) := by
  refine Met.ofW (cc := prog_14_method_36_code) (maxL := 2) (ret := none) (by decide +kernel) rfl ?_
  intro p e s m args below meth c s₁ B hml hp
  obtain ⟨rfl, hsz, hP, hK, hD0, hE⟩ := hp
  have hts := atoms_spec (ws := (Cond.code (⟨"NumberDressModel", "split", "()V"⟩ : MethodName) prog_14_method_36_code 2 none :: zT)) B.pre
  have hown : s.vm.findClass "NumberDressModel" = some m.cls := findClass_of_methodNamed B.named
  have hc : zC p s m _ meth c prog_14_method_36_code none 2 "NumberDressModel" := ⟨B.exec, B.bytes, B.returns, hml, hown, fun w h => hts w (List.mem_cons_of_mem _ h), B.notSynchronized⟩
  subst hsz
  have hD := hD0.self (sz := s.heap.size)
  generalize hAe : va_A [(h0, .inr (12, o_M I0 J0 a0_2 a0_4 a0_5 a0_6 a0_7 a0_8 a0_9 a0_10 a0_11 a0_22 a0_26 h1 h2 a0_32 a0_34)), (h1, .inl (cA1, n1, .inl f1)), (h2, .inl (cA2, n2, .inl f2))] s.heap.size = A at hD hE ⊢
  have hA : ∀ q : Nat, s.heap.size ≤ q → A q := fun q h => by rw [← hAe]; exact Or.inr h
  have hl := lv_entry ([.ref h0]) (n := 2) (Nat.le_of_ble_eq_true rfl)
  rw [lg_entry_eq]
  exact b_M_split_0 hc hA hE hl hK hP hD va_S.rf hv
theorem d_M_put_0 : decode prog_14_method_37_code 0 = .ok (.aload_n 0, 1) := by decide +kernel
theorem d_M_put_1 : decode prog_14_method_37_code 1 = .ok (.getfield 52, 3) := by decide +kernel
theorem d_M_put_4 : decode prog_14_method_37_code 4 = .ok (.aload_n 0, 1) := by decide +kernel
theorem d_M_put_5 : decode prog_14_method_37_code 5 = .ok (.getfield 231, 3) := by decide +kernel
theorem d_M_put_8 : decode prog_14_method_37_code 8 = .ok (.iload_n 1, 1) := by decide +kernel
theorem d_M_put_9 : decode prog_14_method_37_code 9 = .ok (.iastore, 1) := by decide +kernel
theorem d_M_put_10 : decode prog_14_method_37_code 10 = .ok (.aload_n 0, 1) := by decide +kernel
theorem d_M_put_11 : decode prog_14_method_37_code 11 = .ok (.dup, 1) := by decide +kernel
theorem d_M_put_12 : decode prog_14_method_37_code 12 = .ok (.getfield 231, 3) := by decide +kernel
theorem d_M_put_15 : decode prog_14_method_37_code 15 = .ok (.iconst 1, 1) := by decide +kernel
theorem d_M_put_16 : decode prog_14_method_37_code 16 = .ok (.iadd, 1) := by decide +kernel
theorem d_M_put_17 : decode prog_14_method_37_code 17 = .ok (.putfield 231, 3) := by decide +kernel
theorem d_M_put_20 : decode prog_14_method_37_code 20 = .ok (.return_, 1) := by decide +kernel
set_option maxHeartbeats 4000000 in
set_option maxRecDepth 100000 in
theorem b_M_put_0 {h0 : Nat} {a0_2 : Nat} {a0_4 : Nat} {a0_5 : Nat} {a0_6 : Nat} {a0_7 : Nat} {a0_8 : Nat} {a0_9 : Nat} {a0_10 : Nat} {a0_11 : Nat} {a0_22 : Nat} {a0_26 : Nat} {a0_29 : Nat} {a0_31 : Nat} {a0_32 : Nat} {h1 : Nat} {cA1 : ClassId} {I0 : Nat → Int32} {J0 : Nat → Int64} {n1 : Nat} {f1 : Nat → Int32} {x1 : Int32}  {Z : (Nat → Int32) × (Nat → Int32) → Prop} {H : Heap} {locs : List Loc} {ls : Array Slot} (hc : zC p s m args meth c prog_14_method_37_code none 2 "NumberDressModel") (hA : ∀ q : Nat, s.heap.size ≤ q → A q) (hE : zE gE A s) (hl : lv_has ls 2 [(0, .ref h0), (1, .int x1)]) (hK : va_K (dC, dI) zCl [(cA1, .int)] s) (hP : va_P (dC, dI) zCl [(h0, .inr (12, o_M I0 J0 a0_2 a0_4 a0_5 a0_6 a0_7 a0_8 a0_9 a0_10 a0_11 a0_22 a0_26 a0_29 a0_31 a0_32 h1)), (h1, .inl (cA1, n1, .inl f1))] H) (hD : va_D A [(h0, .inr (12, o_M I0 J0 a0_2 a0_4 a0_5 a0_6 a0_7 a0_8 a0_9 a0_10 a0_11 a0_22 a0_26 a0_29 a0_31 a0_32 h1)), (h1, .inl (cA1, n1, .inl f1))]) (hS : va_S A s.heap H locs) (hv : v_M_put_0 I0 J0 n1 f1 x1  Z) : W p l e (headSpec (Cond.code (⟨"NumberDressModel", "put", "(I)V"⟩ : MethodName) prog_14_method_37_code 2 none :: zT) { frames := 0, cells := 0, slots := 0, locals := 0 }).room s m args below meth c H locs 0 0 (MQ below (va_Qv Z (zB (dC, dI) zCl [(cA1, .int)] A (fun u : (Nat → Int32) × (Nat → Int32) => [(h0, .inr (12, o_M u.1 J0 a0_2 a0_4 a0_5 a0_6 a0_7 a0_8 a0_9 a0_10 a0_11 a0_22 a0_26 a0_29 a0_31 a0_32 h1)), (h1, .inl (cA1, n1, .inl u.2))])) A) args s 0 0 A) (F0 m 0 ls []) := by
  obtain ⟨hx, hb, hr, hml, hown, ht, hlocks⟩ := id hc
  unfold v_M_put_0 at hv
  refine lv_aload_n hx hb d_M_put_0 rfl (lv_at hl 0 rfl) ?_
  refine va_get (D := (dC, dI)) (ci := 12) (v := .ref h1) (C := "NumberDressModel") (T := T_M) (N := 41) hx hb ht zin_M hown hK hP 0 rfl rfl 34 (by decide) (ht _ zw_1295) (fun _ h9 => h9) rfl d_M_put_1 ?_
  refine lv_aload_n hx hb d_M_put_4 rfl (lv_at hl 0 rfl) ?_
  refine va_get (D := (dC, dI)) (ci := 12) (v := .int (I0 33)) (C := "NumberDressModel") (T := T_M) (N := 41) hx hb ht zin_M hown hK hP 0 rfl rfl 33 (by decide) (ht _ zw_1294) (fun _ h9 => h9) rfl d_M_put_5 ?_
  refine lv_iload_n hx hb d_M_put_8 rfl (lv_at hl 1 rfl) ?_
  obtain ⟨q_1, hv⟩ := hv
  refine va_iast hx hb hK hP hD hS 1 0 rfl rfl q_1 d_M_put_9 (fun H locs hP hD hS => ?_)
  have hP : va_P (dC, dI) zCl [(h0, .inr (12, o_M I0 J0 a0_2 a0_4 a0_5 a0_6 a0_7 a0_8 a0_9 a0_10 a0_11 a0_22 a0_26 a0_29 a0_31 a0_32 h1)), (h1, .inl (cA1, n1, .inl (upd f1 (I0 33).toNatClampNeg x1)))] H := hP
  have hD : va_D A [(h0, .inr (12, o_M I0 J0 a0_2 a0_4 a0_5 a0_6 a0_7 a0_8 a0_9 a0_10 a0_11 a0_22 a0_26 a0_29 a0_31 a0_32 h1)), (h1, .inl (cA1, n1, .inl (upd f1 (I0 33).toNatClampNeg x1)))] := hD
  refine lv_aload_n hx hb d_M_put_10 rfl (lv_at hl 0 rfl) ?_
  refine lv_dup hx hb d_M_put_11 rfl ?_
  refine va_get (D := (dC, dI)) (ci := 12) (v := .int (I0 33)) (C := "NumberDressModel") (T := T_M) (N := 41) hx hb ht zin_M hown hK hP 0 rfl rfl 33 (by decide) (ht _ zw_1294) (fun _ h9 => h9) rfl d_M_put_12 ?_
  refine lv_iconst (v := (1 : Int32)) hx hb d_M_put_15 (by decide) ?_
  refine lv_iadd hx hb d_M_put_16 ?_
  refine va_put (D := (dC, dI)) (ci := 12) (v := .int ((I0 33) + (1 : Int32))) (ty := .int) (C := "NumberDressModel") (T := T_M) (N := 41) hx hb ht zin_M ty_M tyok_M nm_M hown hK hP hD hS 0 rfl rfl 33 (by decide) (ht _ zw_1294) (fun _ h9 => h9) rfl (by decide +kernel) rfl rfl (Nat.le_of_ble_eq_true rfl) d_M_put_17 (fun H locs hP hD hS => ?_)
  have hP : va_P (dC, dI) zCl [(h0, .inr (12, o_M (zu I0 33 ((I0 33) + (1 : Int32))) J0 a0_2 a0_4 a0_5 a0_6 a0_7 a0_8 a0_9 a0_10 a0_11 a0_22 a0_26 a0_29 a0_31 a0_32 h1)), (h1, .inl (cA1, n1, .inl (upd f1 (I0 33).toNatClampNeg x1)))] H := hP
  have hD : va_D A [(h0, .inr (12, o_M (zu I0 33 ((I0 33) + (1 : Int32))) J0 a0_2 a0_4 a0_5 a0_6 a0_7 a0_8 a0_9 a0_10 a0_11 a0_22 a0_26 a0_29 a0_31 a0_32 h1)), (h1, .inl (cA1, n1, .inl (upd f1 (I0 33).toNatClampNeg x1)))] := hD
  exact W.vret hx hb hr (fun t ht hW => ⟨⟨((zu I0 33 ((I0 33) + (1 : Int32))), (upd f1 (I0 33).toNatClampNeg x1)), rfl, hv, ⟨by rw [ht]; exact hP, va_K.moved hW.alike hK, hD⟩⟩, hS.F ht⟩) hS.2.2 d_M_put_20
theorem zi_M_put : Cond.code (⟨"NumberDressModel", "put", "(I)V"⟩ : MethodName) prog_14_method_37_code 2 none ∈ zT := zw_1532
theorem zh_M_put : (((⟨"NumberDressModel", "put", "(I)V"⟩ : MethodName)).cls ≠ "java/lang/invoke/MethodHandle" ∧ ((⟨"NumberDressModel", "put", "(I)V"⟩ : MethodName)).cls ≠ "java/lang/invoke/VarHandle" ∧ (parseMethodDescriptor ((⟨"NumberDressModel", "put", "(I)V"⟩ : MethodName)).desc).map (fun d => d.parameters.length) = some 1) := by decide +kernel
set_option maxHeartbeats 4000000 in
set_option maxRecDepth 100000 in
theorem m_M_put (l : Launch) (dC : Nat → ClassId) (dI : Nat → Nat → Nat) {gE : zG} {h0 : Nat} {a0_2 : Nat} {a0_4 : Nat} {a0_5 : Nat} {a0_6 : Nat} {a0_7 : Nat} {a0_8 : Nat} {a0_9 : Nat} {a0_10 : Nat} {a0_11 : Nat} {a0_22 : Nat} {a0_26 : Nat} {a0_29 : Nat} {a0_31 : Nat} {a0_32 : Nat} {h1 : Nat} {cA1 : ClassId} {I0 : Nat → Int32} {J0 : Nat → Int64} {n1 : Nat} {f1 : Nat → Int32} {x1 : Int32} {sz : Nat} {Z : (Nat → Int32) × (Nat → Int32) → Prop} (hv : v_M_put_0 I0 J0 n1 f1 x1 Z) : Met l (⟨"NumberDressModel", "put", "(I)V"⟩ : MethodName) (Cond.code (⟨"NumberDressModel", "put", "(I)V"⟩ : MethodName) prog_14_method_37_code 2 none :: zT) { frames := 0, cells := 0, slots := 0, locals := 0 } (zPc gE (dC, dI) zCl [(cA1, .int)] [.ref h0, .int x1] sz [(h0, .inr (12, o_M I0 J0 a0_2 a0_4 a0_5 a0_6 a0_7 a0_8 a0_9 a0_10 a0_11 a0_22 a0_26 a0_29 a0_31 a0_32 h1)), (h1, .inl (cA1, n1, .inl f1))]) (va_Qv Z (zB (dC, dI) zCl [(cA1, .int)] (va_A [(h0, .inr (12, o_M I0 J0 a0_2 a0_4 a0_5 a0_6 a0_7 a0_8 a0_9 a0_10 a0_11 a0_22 a0_26 a0_29 a0_31 a0_32 h1)), (h1, .inl (cA1, n1, .inl f1))] sz) (fun u : (Nat → Int32) × (Nat → Int32) => [(h0, .inr (12, o_M u.1 J0 a0_2 a0_4 a0_5 a0_6 a0_7 a0_8 a0_9 a0_10 a0_11 a0_22 a0_26 a0_29 a0_31 a0_32 h1)), (h1, .inl (cA1, n1, .inl u.2))])) (va_A [(h0, .inr (12, o_M I0 J0 a0_2 a0_4 a0_5 a0_6 a0_7 a0_8 a0_9 a0_10 a0_11 a0_22 a0_26 a0_29 a0_31 a0_32 h1)), (h1, .inl (cA1, n1, .inl f1))] sz)) 0 0 (va_A [(h0, .inr (12, o_M I0 J0 a0_2 a0_4 a0_5 a0_6 a0_7 a0_8 a0_9 a0_10 a0_11 a0_22 a0_26 a0_29 a0_31 a0_32 h1)), (h1, .inl (cA1, n1, .inl f1))] sz) := by
  refine Met.ofW (cc := prog_14_method_37_code) (maxL := 2) (ret := none) (by decide +kernel) rfl ?_
  intro p e s m args below meth c s₁ B hml hp
  obtain ⟨rfl, hsz, hP, hK, hD0, hE⟩ := hp
  have hts := atoms_spec (ws := (Cond.code (⟨"NumberDressModel", "put", "(I)V"⟩ : MethodName) prog_14_method_37_code 2 none :: zT)) B.pre
  have hown : s.vm.findClass "NumberDressModel" = some m.cls := findClass_of_methodNamed B.named
  have hc : zC p s m _ meth c prog_14_method_37_code none 2 "NumberDressModel" := ⟨B.exec, B.bytes, B.returns, hml, hown, fun w h => hts w (List.mem_cons_of_mem _ h), B.notSynchronized⟩
  subst hsz
  have hD := hD0.self (sz := s.heap.size)
  generalize hAe : va_A [(h0, .inr (12, o_M I0 J0 a0_2 a0_4 a0_5 a0_6 a0_7 a0_8 a0_9 a0_10 a0_11 a0_22 a0_26 a0_29 a0_31 a0_32 h1)), (h1, .inl (cA1, n1, .inl f1))] s.heap.size = A at hD hE ⊢
  have hA : ∀ q : Nat, s.heap.size ≤ q → A q := fun q h => by rw [← hAe]; exact Or.inr h
  have hl := lv_entry ([.ref h0, .int x1]) (n := 2) (Nat.le_of_ble_eq_true rfl)
  rw [lg_entry_eq]
  exact b_M_put_0 hc hA hE hl hK hP hD va_S.rf hv
theorem d_M_figures_0 : decode prog_14_method_39_code 0 = .ok (.lconst 1, 1) := by decide +kernel
theorem d_M_figures_1 : decode prog_14_method_39_code 1 = .ok (.lstore 4, 2) := by decide +kernel
theorem d_M_figures_3 : decode prog_14_method_39_code 3 = .ok (.iconst 1, 1) := by decide +kernel
theorem d_M_figures_4 : decode prog_14_method_39_code 4 = .ok (.istore 6, 2) := by decide +kernel
theorem d_M_figures_6 : decode prog_14_method_39_code 6 = .ok (.lload 4, 2) := by decide +kernel
theorem d_M_figures_8 : decode prog_14_method_39_code 8 = .ok (.lload_n 1, 1) := by decide +kernel
theorem d_M_figures_9 : decode prog_14_method_39_code 9 = .ok (.ldc2_w 86, 3) := by decide +kernel
theorem d_M_figures_12 : decode prog_14_method_39_code 12 = .ok (.ldiv, 1) := by decide +kernel
theorem d_M_figures_13 : decode prog_14_method_39_code 13 = .ok (.lcmp, 1) := by decide +kernel
theorem d_M_figures_14 : decode prog_14_method_39_code 14 = .ok (.ifCond .le 9, 3) := by decide +kernel
theorem d_M_figures_17 : decode prog_14_method_39_code 17 = .ok (.iload 6, 2) := by decide +kernel
theorem d_M_figures_19 : decode prog_14_method_39_code 19 = .ok (.iload_n 3, 1) := by decide +kernel
theorem d_M_figures_20 : decode prog_14_method_39_code 20 = .ok (.if_icmp .ge 17, 3) := by decide +kernel
theorem d_M_figures_23 : decode prog_14_method_39_code 23 = .ok (.ldc2_w 86, 3) := by decide +kernel
theorem d_M_figures_26 : decode prog_14_method_39_code 26 = .ok (.lload 4, 2) := by decide +kernel
theorem d_M_figures_28 : decode prog_14_method_39_code 28 = .ok (.lmul, 1) := by decide +kernel
theorem d_M_figures_29 : decode prog_14_method_39_code 29 = .ok (.lstore 4, 2) := by decide +kernel
theorem d_M_figures_31 : decode prog_14_method_39_code 31 = .ok (.iinc 6 1, 3) := by decide +kernel
theorem d_M_figures_34 : decode prog_14_method_39_code 34 = .ok (.goto (-28), 3) := by decide +kernel
theorem d_M_figures_37 : decode prog_14_method_39_code 37 = .ok (.lload 4, 2) := by decide +kernel
theorem d_M_figures_39 : decode prog_14_method_39_code 39 = .ok (.lconst 0, 1) := by decide +kernel
theorem d_M_figures_40 : decode prog_14_method_39_code 40 = .ok (.lcmp, 1) := by decide +kernel
theorem d_M_figures_41 : decode prog_14_method_39_code 41 = .ok (.ifCond .le 31, 3) := by decide +kernel
theorem d_M_figures_44 : decode prog_14_method_39_code 44 = .ok (.aload_n 0, 1) := by decide +kernel
theorem d_M_figures_45 : decode prog_14_method_39_code 45 = .ok (.ldc2_w 237, 3) := by decide +kernel
theorem d_M_figures_48 : decode prog_14_method_39_code 48 = .ok (.lload_n 1, 1) := by decide +kernel
theorem d_M_figures_49 : decode prog_14_method_39_code 49 = .ok (.lload 4, 2) := by decide +kernel
theorem d_M_figures_51 : decode prog_14_method_39_code 51 = .ok (.ldiv, 1) := by decide +kernel
theorem d_M_figures_52 : decode prog_14_method_39_code 52 = .ok (.ldc2_w 86, 3) := by decide +kernel
theorem d_M_figures_55 : decode prog_14_method_39_code 55 = .ok (.lrem, 1) := by decide +kernel
theorem d_M_figures_56 : decode prog_14_method_39_code 56 = .ok (.ladd, 1) := by decide +kernel
theorem d_M_figures_57 : decode prog_14_method_39_code 57 = .ok (.l2i, 1) := by decide +kernel
theorem d_M_figures_58 : decode prog_14_method_39_code 58 = .ok (.invokevirtual 234, 3) := by decide +kernel
theorem d_M_figures_61 : decode prog_14_method_39_code 61 = .ok (.lload 4, 2) := by decide +kernel
theorem d_M_figures_63 : decode prog_14_method_39_code 63 = .ok (.ldc2_w 86, 3) := by decide +kernel
theorem d_M_figures_66 : decode prog_14_method_39_code 66 = .ok (.ldiv, 1) := by decide +kernel
theorem d_M_figures_67 : decode prog_14_method_39_code 67 = .ok (.lstore 4, 2) := by decide +kernel
theorem d_M_figures_69 : decode prog_14_method_39_code 69 = .ok (.goto (-32), 3) := by decide +kernel
theorem d_M_figures_72 : decode prog_14_method_39_code 72 = .ok (.return_, 1) := by decide +kernel
set_option maxHeartbeats 4000000 in
set_option maxRecDepth 100000 in
theorem b_M_figures_23 {h0 : Nat} {a0_2 : Nat} {a0_4 : Nat} {a0_5 : Nat} {a0_6 : Nat} {a0_7 : Nat} {a0_8 : Nat} {a0_9 : Nat} {a0_10 : Nat} {a0_11 : Nat} {a0_22 : Nat} {a0_26 : Nat} {a0_29 : Nat} {a0_31 : Nat} {a0_32 : Nat} {h1 : Nat} {cA1 : ClassId} {I0 : Nat → Int32} {J0 : Nat → Int64} {n1 : Nat} {f1 : Nat → Int32} {x1 : Int64} {x3 : Int32} {x4 : Int64} {x6 : Int32} {k6 : Int64 → Int32 → Prop} {Z : (Nat → Int32) × (Nat → Int32) → Prop} {H : Heap} {locs : List Loc} {ls : Array Slot} (hc : zC p s m args meth c prog_14_method_39_code none 7 "NumberDressModel") (hA : ∀ q : Nat, s.heap.size ≤ q → A q) (hE : zE gE A s) (hk6 : ∀ (x4 : Int64) (x6 : Int32) (H : Heap) (locs : List Loc) (ls : Array Slot), lv_has ls 7 [(0, .ref h0), (1, .long x1), (3, .int x3), (4, .long x4), (6, .int x6)] → va_K (dC, dI) zCl [(cA1, .int)] s → va_P (dC, dI) zCl [(h0, .inr (12, o_M I0 J0 a0_2 a0_4 a0_5 a0_6 a0_7 a0_8 a0_9 a0_10 a0_11 a0_22 a0_26 a0_29 a0_31 a0_32 h1)), (h1, .inl (cA1, n1, .inl f1))] H → va_D A [(h0, .inr (12, o_M I0 J0 a0_2 a0_4 a0_5 a0_6 a0_7 a0_8 a0_9 a0_10 a0_11 a0_22 a0_26 a0_29 a0_31 a0_32 h1)), (h1, .inl (cA1, n1, .inl f1))] → va_S A s.heap H locs → k6 x4 x6 → W p l e (headSpec (Cond.code (⟨"NumberDressModel", "figures", "(JI)V"⟩ : MethodName) prog_14_method_39_code 7 none :: zT) { frames := 1, cells := 0, slots := 0, locals := 21 }).room s m args below meth c H locs 0 0 (MQ below (va_Qv Z (zB (dC, dI) zCl [(cA1, .int)] A (fun u : (Nat → Int32) × (Nat → Int32) => [(h0, .inr (12, o_M u.1 J0 a0_2 a0_4 a0_5 a0_6 a0_7 a0_8 a0_9 a0_10 a0_11 a0_22 a0_26 a0_29 a0_31 a0_32 h1)), (h1, .inl (cA1, n1, .inl u.2))])) A) args s 0 0 A) (F0 m 6 ls [])) (hl : lv_has ls 7 [(0, .ref h0), (1, .long x1), (3, .int x3), (4, .long x4), (6, .int x6)]) (hK : va_K (dC, dI) zCl [(cA1, .int)] s) (hP : va_P (dC, dI) zCl [(h0, .inr (12, o_M I0 J0 a0_2 a0_4 a0_5 a0_6 a0_7 a0_8 a0_9 a0_10 a0_11 a0_22 a0_26 a0_29 a0_31 a0_32 h1)), (h1, .inl (cA1, n1, .inl f1))] H) (hD : va_D A [(h0, .inr (12, o_M I0 J0 a0_2 a0_4 a0_5 a0_6 a0_7 a0_8 a0_9 a0_10 a0_11 a0_22 a0_26 a0_29 a0_31 a0_32 h1)), (h1, .inl (cA1, n1, .inl f1))]) (hS : va_S A s.heap H locs) (hv : v_M_figures_23 I0 J0 n1 f1 x1 x3 x4 x6 k6 Z) : W p l e (headSpec (Cond.code (⟨"NumberDressModel", "figures", "(JI)V"⟩ : MethodName) prog_14_method_39_code 7 none :: zT) { frames := 1, cells := 0, slots := 0, locals := 21 }).room s m args below meth c H locs 0 0 (MQ below (va_Qv Z (zB (dC, dI) zCl [(cA1, .int)] A (fun u : (Nat → Int32) × (Nat → Int32) => [(h0, .inr (12, o_M u.1 J0 a0_2 a0_4 a0_5 a0_6 a0_7 a0_8 a0_9 a0_10 a0_11 a0_22 a0_26 a0_29 a0_31 a0_32 h1)), (h1, .inl (cA1, n1, .inl u.2))])) A) args s 0 0 A) (F0 m 23 ls []) := by
  obtain ⟨hx, hb, hr, hml, hown, ht, hlocks⟩ := id hc
  unfold v_M_figures_23 at hv
  refine lv_ldc2 (v := (10 : Int64)) hx hb hown (ht _ zw_1400) d_M_figures_23 ?_
  refine lv_lload hx hb d_M_figures_26 (lv_at hl 3 rfl) ?_
  refine lv_lmul hx hb d_M_figures_28 ?_
  refine lv_lstore (lv' := [(4, .long ((10 : Int64) * x4)), (0, .ref h0), (1, .long x1), (3, .int x3), (6, .int x6)]) hx hb d_M_figures_29 hl (by decide) rfl (fun ls hl => ?_)
  refine lv_iinc (v := (x6 + (1 : Int32))) (lv' := [(6, .int (x6 + (1 : Int32))), (4, .long ((10 : Int64) * x4)), (0, .ref h0), (1, .long x1), (3, .int x3)]) hx hb d_M_figures_31 hl (k := 4) rfl rfl (by decide) rfl (fun ls hl => ?_)
  refine lv_goto (tgt := 6) hx hb d_M_figures_34 (by decide) ?_
  exact hk6 ((10 : Int64) * x4) (x6 + (1 : Int32)) _ _ _ (lv_sub hl [2, 3, 4, 1, 0] rfl) hK hP hD hS hv
set_option maxHeartbeats 4000000 in
set_option maxRecDepth 100000 in
theorem b_M_figures_61 {h0 : Nat} {a0_2 : Nat} {a0_4 : Nat} {a0_5 : Nat} {a0_6 : Nat} {a0_7 : Nat} {a0_8 : Nat} {a0_9 : Nat} {a0_10 : Nat} {a0_11 : Nat} {a0_22 : Nat} {a0_26 : Nat} {a0_29 : Nat} {a0_31 : Nat} {a0_32 : Nat} {h1 : Nat} {cA1 : ClassId} {I0 : Nat → Int32} {J0 : Nat → Int64} {n1 : Nat} {f1 : Nat → Int32} {x1 : Int64} {x4 : Int64} {k37 : (Nat → Int32) → (Nat → Int32) → Int64 → Prop} {Z : (Nat → Int32) × (Nat → Int32) → Prop} {H : Heap} {locs : List Loc} {ls : Array Slot} (hc : zC p s m args meth c prog_14_method_39_code none 7 "NumberDressModel") (hA : ∀ q : Nat, s.heap.size ≤ q → A q) (hE : zE gE A s) (hk37 : ∀ (I0 : Nat → Int32) (f1 : Nat → Int32) (x4 : Int64) (H : Heap) (locs : List Loc) (ls : Array Slot), lv_has ls 7 [(0, .ref h0), (1, .long x1), (4, .long x4)] → va_K (dC, dI) zCl [(cA1, .int)] s → va_P (dC, dI) zCl [(h0, .inr (12, o_M I0 J0 a0_2 a0_4 a0_5 a0_6 a0_7 a0_8 a0_9 a0_10 a0_11 a0_22 a0_26 a0_29 a0_31 a0_32 h1)), (h1, .inl (cA1, n1, .inl f1))] H → va_D A [(h0, .inr (12, o_M I0 J0 a0_2 a0_4 a0_5 a0_6 a0_7 a0_8 a0_9 a0_10 a0_11 a0_22 a0_26 a0_29 a0_31 a0_32 h1)), (h1, .inl (cA1, n1, .inl f1))] → va_S A s.heap H locs → k37 I0 f1 x4 → W p l e (headSpec (Cond.code (⟨"NumberDressModel", "figures", "(JI)V"⟩ : MethodName) prog_14_method_39_code 7 none :: zT) { frames := 1, cells := 0, slots := 0, locals := 21 }).room s m args below meth c H locs 0 0 (MQ below (va_Qv Z (zB (dC, dI) zCl [(cA1, .int)] A (fun u : (Nat → Int32) × (Nat → Int32) => [(h0, .inr (12, o_M u.1 J0 a0_2 a0_4 a0_5 a0_6 a0_7 a0_8 a0_9 a0_10 a0_11 a0_22 a0_26 a0_29 a0_31 a0_32 h1)), (h1, .inl (cA1, n1, .inl u.2))])) A) args s 0 0 A) (F0 m 37 ls [])) (hl : lv_has ls 7 [(0, .ref h0), (1, .long x1), (4, .long x4)]) (hK : va_K (dC, dI) zCl [(cA1, .int)] s) (hP : va_P (dC, dI) zCl [(h0, .inr (12, o_M I0 J0 a0_2 a0_4 a0_5 a0_6 a0_7 a0_8 a0_9 a0_10 a0_11 a0_22 a0_26 a0_29 a0_31 a0_32 h1)), (h1, .inl (cA1, n1, .inl f1))] H) (hD : va_D A [(h0, .inr (12, o_M I0 J0 a0_2 a0_4 a0_5 a0_6 a0_7 a0_8 a0_9 a0_10 a0_11 a0_22 a0_26 a0_29 a0_31 a0_32 h1)), (h1, .inl (cA1, n1, .inl f1))]) (hS : va_S A s.heap H locs) (hv : v_M_figures_61 I0 J0 n1 f1 x1 x4 k37 Z) : W p l e (headSpec (Cond.code (⟨"NumberDressModel", "figures", "(JI)V"⟩ : MethodName) prog_14_method_39_code 7 none :: zT) { frames := 1, cells := 0, slots := 0, locals := 21 }).room s m args below meth c H locs 0 0 (MQ below (va_Qv Z (zB (dC, dI) zCl [(cA1, .int)] A (fun u : (Nat → Int32) × (Nat → Int32) => [(h0, .inr (12, o_M u.1 J0 a0_2 a0_4 a0_5 a0_6 a0_7 a0_8 a0_9 a0_10 a0_11 a0_22 a0_26 a0_29 a0_31 a0_32 h1)), (h1, .inl (cA1, n1, .inl u.2))])) A) args s 0 0 A) (F0 m 61 ls []) := by
  obtain ⟨hx, hb, hr, hml, hown, ht, hlocks⟩ := id hc
  unfold v_M_figures_61 at hv
  refine lv_lload hx hb d_M_figures_61 (lv_at hl 2 rfl) ?_
  refine lv_ldc2 (v := (10 : Int64)) hx hb hown (ht _ zw_1400) d_M_figures_63 ?_
  refine lv_ldiv hx hb d_M_figures_66 (by decide) ?_
  refine lv_lstore (lv' := [(4, .long (x4 / (10 : Int64))), (0, .ref h0), (1, .long x1)]) hx hb d_M_figures_67 hl (by decide) rfl (fun ls hl => ?_)
  refine lv_goto (tgt := 37) hx hb d_M_figures_69 (by decide) ?_
  exact hk37 I0 f1 (x4 / (10 : Int64)) _ _ _ (lv_sub hl [1, 2, 0] rfl) hK hP hD hS hv
set_option maxHeartbeats 4000000 in
set_option maxRecDepth 100000 in
theorem b_M_figures_37 {h0 : Nat} {a0_2 : Nat} {a0_4 : Nat} {a0_5 : Nat} {a0_6 : Nat} {a0_7 : Nat} {a0_8 : Nat} {a0_9 : Nat} {a0_10 : Nat} {a0_11 : Nat} {a0_22 : Nat} {a0_26 : Nat} {a0_29 : Nat} {a0_31 : Nat} {a0_32 : Nat} {h1 : Nat} {cA1 : ClassId} {J0 : Nat → Int64} {n1 : Nat} {x1 : Int64}  {Z : (Nat → Int32) × (Nat → Int32) → Prop} (hc : zC p s m args meth c prog_14_method_39_code none 7 "NumberDressModel") (hA : ∀ q : Nat, s.heap.size ≤ q → A q) (hE : zE gE A s) : ∀ (N : Nat) (I0 : Nat → Int32) (f1 : Nat → Int32) (x4 : Int64) (H : Heap) (locs : List Loc) (ls : Array Slot), lv_has ls 7 [(0, .ref h0), (1, .long x1), (4, .long x4)] → va_K (dC, dI) zCl [(cA1, .int)] s → va_P (dC, dI) zCl [(h0, .inr (12, o_M I0 J0 a0_2 a0_4 a0_5 a0_6 a0_7 a0_8 a0_9 a0_10 a0_11 a0_22 a0_26 a0_29 a0_31 a0_32 h1)), (h1, .inl (cA1, n1, .inl f1))] H → va_D A [(h0, .inr (12, o_M I0 J0 a0_2 a0_4 a0_5 a0_6 a0_7 a0_8 a0_9 a0_10 a0_11 a0_22 a0_26 a0_29 a0_31 a0_32 h1)), (h1, .inl (cA1, n1, .inl f1))] → va_S A s.heap H locs → v_M_figures_37 J0 n1 x1  Z N I0 f1 x4 → W p l e (headSpec (Cond.code (⟨"NumberDressModel", "figures", "(JI)V"⟩ : MethodName) prog_14_method_39_code 7 none :: zT) { frames := 1, cells := 0, slots := 0, locals := 21 }).room s m args below meth c H locs 0 0 (MQ below (va_Qv Z (zB (dC, dI) zCl [(cA1, .int)] A (fun u : (Nat → Int32) × (Nat → Int32) => [(h0, .inr (12, o_M u.1 J0 a0_2 a0_4 a0_5 a0_6 a0_7 a0_8 a0_9 a0_10 a0_11 a0_22 a0_26 a0_29 a0_31 a0_32 h1)), (h1, .inl (cA1, n1, .inl u.2))])) A) args s 0 0 A) (F0 m 37 ls []) := by
  obtain ⟨hx, hb, hr, hml, hown, ht, hlocks⟩ := id hc
  intro N
  induction N with
  | zero => intro I0 f1 x4 H locs ls hl hK hP hD hS hv; exact hv.elim
  | succ N hk37 =>
    intro I0 f1 x4 H locs ls hl hK hP hD hS hv
    unfold v_M_figures_37 at hv
    refine lv_lload hx hb d_M_figures_37 (lv_at hl 2 rfl) ?_
    refine lv_lconst (v := (0 : Int64)) hx hb d_M_figures_39 (by decide) ?_
    refine z_lcmp_le (tgt := 72) hx hb d_M_figures_40 d_M_figures_41 (by decide) (fun c_1 => ?_) (fun c_1 => ?_)
    · have hv := hv.1 c_1
      exact W.vret hx hb hr (fun t ht hW => ⟨⟨(I0, f1), rfl, hv, ⟨by rw [ht]; exact hP, va_K.moved hW.alike hK, hD⟩⟩, hS.F ht⟩) hS.2.2 d_M_figures_72
    · have hv := hv.2 c_1
      refine lv_aload_n hx hb d_M_figures_44 rfl (lv_at hl 0 rfl) ?_
      refine lv_ldc2 (v := (48 : Int64)) hx hb hown (ht _ zw_1545) d_M_figures_45 ?_
      refine lv_lload_n hx hb d_M_figures_48 rfl (lv_at hl 1 rfl) ?_
      refine lv_lload hx hb d_M_figures_49 (lv_at hl 2 rfl) ?_
      obtain ⟨q_2, hv⟩ := hv
      refine lv_ldiv hx hb d_M_figures_51 q_2 ?_
      refine lv_ldc2 (v := (10 : Int64)) hx hb hown (ht _ zw_1400) d_M_figures_52 ?_
      refine lv_lrem hx hb d_M_figures_55 (by decide) ?_
      refine lv_ladd hx hb d_M_figures_56 ?_
      refine lv_l2i (v := ((48 : Int64) + ((x1 / x4) - (x1 / x4) / (10 : Int64) * (10 : Int64))).toInt32) hx hb d_M_figures_57 rfl ?_
      refine z_callv (wc := [(h0, .inr (12, o_M I0 J0 a0_2 a0_4 a0_5 a0_6 a0_7 a0_8 a0_9 a0_10 a0_11 a0_22 a0_26 a0_29 a0_31 a0_32 h1)), (h1, .inl (cA1, n1, .inl f1))]) (wr := []) [0, 1] [] (va_runV (As := [.int ((48 : Int64) + ((x1 / x4) - (x1 / x4) / (10 : Int64) * (10 : Int64))).toInt32]) (rest := []) ⟨hx, hb, hml, hown, ht⟩ (m_M_put l dC dI hv) ⟨(callB_of 1 ht (zG_in zi_M_put) rfl rfl rfl (ht _ zw_122) (ht _ zw_1529) zh_M_put ⟨Nat.le_of_ble_eq_true rfl, Nat.le_of_ble_eq_true rfl⟩), (ht _ zw_1531), (ht _ zw_83)⟩ ⟨zPc_blind, va_recv hK hP (ci := 12) (q0 := 0) rfl rfl, zPc_pre hP hK hD hS hA hE [0, 1] [0] rfl rfl (by decide) rfl⟩ rfl rfl hl.1 rfl (lv_room (Nat.le_of_ble_eq_true rfl)) d_M_figures_58 ⟨Nat.le_of_ble_eq_true rfl, Nat.le_of_ble_eq_true rfl⟩) hP hD hS hA rfl rfl (by decide) (by decide) (fun u H locs hv hP hD hS => ?_)
      have hP : va_P (dC, dI) zCl [(h0, .inr (12, o_M u.1 J0 a0_2 a0_4 a0_5 a0_6 a0_7 a0_8 a0_9 a0_10 a0_11 a0_22 a0_26 a0_29 a0_31 a0_32 h1)), (h1, .inl (cA1, n1, .inl u.2))] H := hP.sub [0, 1] rfl
      have hD : va_D A [(h0, .inr (12, o_M u.1 J0 a0_2 a0_4 a0_5 a0_6 a0_7 a0_8 a0_9 a0_10 a0_11 a0_22 a0_26 a0_29 a0_31 a0_32 h1)), (h1, .inl (cA1, n1, .inl u.2))] := hD.sub [0, 1] (by decide) rfl
      exact b_M_figures_61 hc hA hE hk37 (lv_sub hl [0, 1, 2] rfl) hK hP hD hS hv
set_option maxHeartbeats 4000000 in
set_option maxRecDepth 100000 in
theorem b_M_figures_6 {h0 : Nat} {a0_2 : Nat} {a0_4 : Nat} {a0_5 : Nat} {a0_6 : Nat} {a0_7 : Nat} {a0_8 : Nat} {a0_9 : Nat} {a0_10 : Nat} {a0_11 : Nat} {a0_22 : Nat} {a0_26 : Nat} {a0_29 : Nat} {a0_31 : Nat} {a0_32 : Nat} {h1 : Nat} {cA1 : ClassId} {I0 : Nat → Int32} {J0 : Nat → Int64} {n1 : Nat} {f1 : Nat → Int32} {x1 : Int64} {x3 : Int32}  {Z : (Nat → Int32) × (Nat → Int32) → Prop} (hc : zC p s m args meth c prog_14_method_39_code none 7 "NumberDressModel") (hA : ∀ q : Nat, s.heap.size ≤ q → A q) (hE : zE gE A s) : ∀ (N : Nat) (x4 : Int64) (x6 : Int32) (H : Heap) (locs : List Loc) (ls : Array Slot), lv_has ls 7 [(0, .ref h0), (1, .long x1), (3, .int x3), (4, .long x4), (6, .int x6)] → va_K (dC, dI) zCl [(cA1, .int)] s → va_P (dC, dI) zCl [(h0, .inr (12, o_M I0 J0 a0_2 a0_4 a0_5 a0_6 a0_7 a0_8 a0_9 a0_10 a0_11 a0_22 a0_26 a0_29 a0_31 a0_32 h1)), (h1, .inl (cA1, n1, .inl f1))] H → va_D A [(h0, .inr (12, o_M I0 J0 a0_2 a0_4 a0_5 a0_6 a0_7 a0_8 a0_9 a0_10 a0_11 a0_22 a0_26 a0_29 a0_31 a0_32 h1)), (h1, .inl (cA1, n1, .inl f1))] → va_S A s.heap H locs → v_M_figures_6 I0 J0 n1 f1 x1 x3  Z N x4 x6 → W p l e (headSpec (Cond.code (⟨"NumberDressModel", "figures", "(JI)V"⟩ : MethodName) prog_14_method_39_code 7 none :: zT) { frames := 1, cells := 0, slots := 0, locals := 21 }).room s m args below meth c H locs 0 0 (MQ below (va_Qv Z (zB (dC, dI) zCl [(cA1, .int)] A (fun u : (Nat → Int32) × (Nat → Int32) => [(h0, .inr (12, o_M u.1 J0 a0_2 a0_4 a0_5 a0_6 a0_7 a0_8 a0_9 a0_10 a0_11 a0_22 a0_26 a0_29 a0_31 a0_32 h1)), (h1, .inl (cA1, n1, .inl u.2))])) A) args s 0 0 A) (F0 m 6 ls []) := by
  obtain ⟨hx, hb, hr, hml, hown, ht, hlocks⟩ := id hc
  intro N
  induction N with
  | zero => intro x4 x6 H locs ls hl hK hP hD hS hv; exact hv.elim
  | succ N hk6 =>
    intro x4 x6 H locs ls hl hK hP hD hS hv
    unfold v_M_figures_6 at hv
    refine lv_lload hx hb d_M_figures_6 (lv_at hl 3 rfl) ?_
    refine lv_lload_n hx hb d_M_figures_8 rfl (lv_at hl 1 rfl) ?_
    refine lv_ldc2 (v := (10 : Int64)) hx hb hown (ht _ zw_1400) d_M_figures_9 ?_
    refine lv_ldiv hx hb d_M_figures_12 (by decide) ?_
    refine z_lcmp_le (tgt := 23) hx hb d_M_figures_13 d_M_figures_14 (by decide) (fun c_1 => ?_) (fun c_1 => ?_)
    · have hv := hv.1 c_1
      exact b_M_figures_23 hc hA hE hk6 (lv_sub hl [0, 1, 2, 3, 4] rfl) hK hP hD hS hv
    · have hv := hv.2 c_1
      refine lv_iload hx hb d_M_figures_17 (lv_at hl 4 rfl) ?_
      refine lv_iload_n hx hb d_M_figures_19 rfl (lv_at hl 2 rfl) ?_
      refine lv_icmp_ge (tgt := 37) hx hb d_M_figures_20 (by decide) (fun c_2 => ?_) (fun c_2 => ?_)
      · have hv := hv.1 c_2
        obtain ⟨Nx, hv⟩ := hv
        exact b_M_figures_37 hc hA hE  Nx I0 f1 x4 _ _ _ (lv_sub hl [0, 1, 3] rfl) hK hP hD hS hv
      · have hv := hv.2 c_2
        exact b_M_figures_23 hc hA hE hk6 (lv_sub hl [0, 1, 2, 3, 4] rfl) hK hP hD hS hv
set_option maxHeartbeats 4000000 in
set_option maxRecDepth 100000 in
theorem b_M_figures_0 {h0 : Nat} {a0_2 : Nat} {a0_4 : Nat} {a0_5 : Nat} {a0_6 : Nat} {a0_7 : Nat} {a0_8 : Nat} {a0_9 : Nat} {a0_10 : Nat} {a0_11 : Nat} {a0_22 : Nat} {a0_26 : Nat} {a0_29 : Nat} {a0_31 : Nat} {a0_32 : Nat} {h1 : Nat} {cA1 : ClassId} {I0 : Nat → Int32} {J0 : Nat → Int64} {n1 : Nat} {f1 : Nat → Int32} {x1 : Int64} {x3 : Int32}  {Z : (Nat → Int32) × (Nat → Int32) → Prop} {H : Heap} {locs : List Loc} {ls : Array Slot} (hc : zC p s m args meth c prog_14_method_39_code none 7 "NumberDressModel") (hA : ∀ q : Nat, s.heap.size ≤ q → A q) (hE : zE gE A s) (hl : lv_has ls 7 [(0, .ref h0), (1, .long x1), (3, .int x3)]) (hK : va_K (dC, dI) zCl [(cA1, .int)] s) (hP : va_P (dC, dI) zCl [(h0, .inr (12, o_M I0 J0 a0_2 a0_4 a0_5 a0_6 a0_7 a0_8 a0_9 a0_10 a0_11 a0_22 a0_26 a0_29 a0_31 a0_32 h1)), (h1, .inl (cA1, n1, .inl f1))] H) (hD : va_D A [(h0, .inr (12, o_M I0 J0 a0_2 a0_4 a0_5 a0_6 a0_7 a0_8 a0_9 a0_10 a0_11 a0_22 a0_26 a0_29 a0_31 a0_32 h1)), (h1, .inl (cA1, n1, .inl f1))]) (hS : va_S A s.heap H locs) (hv : v_M_figures_0 I0 J0 n1 f1 x1 x3  Z) : W p l e (headSpec (Cond.code (⟨"NumberDressModel", "figures", "(JI)V"⟩ : MethodName) prog_14_method_39_code 7 none :: zT) { frames := 1, cells := 0, slots := 0, locals := 21 }).room s m args below meth c H locs 0 0 (MQ below (va_Qv Z (zB (dC, dI) zCl [(cA1, .int)] A (fun u : (Nat → Int32) × (Nat → Int32) => [(h0, .inr (12, o_M u.1 J0 a0_2 a0_4 a0_5 a0_6 a0_7 a0_8 a0_9 a0_10 a0_11 a0_22 a0_26 a0_29 a0_31 a0_32 h1)), (h1, .inl (cA1, n1, .inl u.2))])) A) args s 0 0 A) (F0 m 0 ls []) := by
  obtain ⟨hx, hb, hr, hml, hown, ht, hlocks⟩ := id hc
  unfold v_M_figures_0 at hv
  refine lv_lconst (v := (1 : Int64)) hx hb d_M_figures_0 (by decide) ?_
  refine lv_lstore (lv' := [(4, .long (1 : Int64)), (0, .ref h0), (1, .long x1), (3, .int x3)]) hx hb d_M_figures_1 hl (by decide) rfl (fun ls hl => ?_)
  refine lv_iconst (v := (1 : Int32)) hx hb d_M_figures_3 (by decide) ?_
  refine lv_istore (lv' := [(6, .int (1 : Int32)), (4, .long (1 : Int64)), (0, .ref h0), (1, .long x1), (3, .int x3)]) hx hb d_M_figures_4 hl (by decide) rfl (fun ls hl => ?_)
  obtain ⟨Nx, hv⟩ := hv
  exact b_M_figures_6 hc hA hE  Nx (1 : Int64) (1 : Int32) _ _ _ (lv_sub hl [2, 3, 4, 1, 0] rfl) hK hP hD hS hv
theorem zi_M_figures : Cond.code (⟨"NumberDressModel", "figures", "(JI)V"⟩ : MethodName) prog_14_method_39_code 7 none ∈ zT := zw_1544
theorem zh_M_figures : (((⟨"NumberDressModel", "figures", "(JI)V"⟩ : MethodName)).cls ≠ "java/lang/invoke/MethodHandle" ∧ ((⟨"NumberDressModel", "figures", "(JI)V"⟩ : MethodName)).cls ≠ "java/lang/invoke/VarHandle" ∧ (parseMethodDescriptor ((⟨"NumberDressModel", "figures", "(JI)V"⟩ : MethodName)).desc).map (fun d => d.parameters.length) = some 2) := by decide +kernel
set_option maxHeartbeats 4000000 in
set_option maxRecDepth 100000 in
theorem m_M_figures (l : Launch) (dC : Nat → ClassId) (dI : Nat → Nat → Nat) {gE : zG} {h0 : Nat} {a0_2 : Nat} {a0_4 : Nat} {a0_5 : Nat} {a0_6 : Nat} {a0_7 : Nat} {a0_8 : Nat} {a0_9 : Nat} {a0_10 : Nat} {a0_11 : Nat} {a0_22 : Nat} {a0_26 : Nat} {a0_29 : Nat} {a0_31 : Nat} {a0_32 : Nat} {h1 : Nat} {cA1 : ClassId} {I0 : Nat → Int32} {J0 : Nat → Int64} {n1 : Nat} {f1 : Nat → Int32} {x1 : Int64} {x3 : Int32} {sz : Nat} {Z : (Nat → Int32) × (Nat → Int32) → Prop} (hv : v_M_figures_0 I0 J0 n1 f1 x1 x3 Z) : Met l (⟨"NumberDressModel", "figures", "(JI)V"⟩ : MethodName) (Cond.code (⟨"NumberDressModel", "figures", "(JI)V"⟩ : MethodName) prog_14_method_39_code 7 none :: zT) { frames := 1, cells := 0, slots := 0, locals := 21 } (zPc gE (dC, dI) zCl [(cA1, .int)] [.ref h0, .long x1, .int x3] sz [(h0, .inr (12, o_M I0 J0 a0_2 a0_4 a0_5 a0_6 a0_7 a0_8 a0_9 a0_10 a0_11 a0_22 a0_26 a0_29 a0_31 a0_32 h1)), (h1, .inl (cA1, n1, .inl f1))]) (va_Qv Z (zB (dC, dI) zCl [(cA1, .int)] (va_A [(h0, .inr (12, o_M I0 J0 a0_2 a0_4 a0_5 a0_6 a0_7 a0_8 a0_9 a0_10 a0_11 a0_22 a0_26 a0_29 a0_31 a0_32 h1)), (h1, .inl (cA1, n1, .inl f1))] sz) (fun u : (Nat → Int32) × (Nat → Int32) => [(h0, .inr (12, o_M u.1 J0 a0_2 a0_4 a0_5 a0_6 a0_7 a0_8 a0_9 a0_10 a0_11 a0_22 a0_26 a0_29 a0_31 a0_32 h1)), (h1, .inl (cA1, n1, .inl u.2))])) (va_A [(h0, .inr (12, o_M I0 J0 a0_2 a0_4 a0_5 a0_6 a0_7 a0_8 a0_9 a0_10 a0_11 a0_22 a0_26 a0_29 a0_31 a0_32 h1)), (h1, .inl (cA1, n1, .inl f1))] sz)) 0 0 (va_A [(h0, .inr (12, o_M I0 J0 a0_2 a0_4 a0_5 a0_6 a0_7 a0_8 a0_9 a0_10 a0_11 a0_22 a0_26 a0_29 a0_31 a0_32 h1)), (h1, .inl (cA1, n1, .inl f1))] sz) := by
  refine Met.ofW (cc := prog_14_method_39_code) (maxL := 7) (ret := none) (by decide +kernel) rfl ?_
  intro p e s m args below meth c s₁ B hml hp
  obtain ⟨rfl, hsz, hP, hK, hD0, hE⟩ := hp
  have hts := atoms_spec (ws := (Cond.code (⟨"NumberDressModel", "figures", "(JI)V"⟩ : MethodName) prog_14_method_39_code 7 none :: zT)) B.pre
  have hown : s.vm.findClass "NumberDressModel" = some m.cls := findClass_of_methodNamed B.named
  have hc : zC p s m _ meth c prog_14_method_39_code none 7 "NumberDressModel" := ⟨B.exec, B.bytes, B.returns, hml, hown, fun w h => hts w (List.mem_cons_of_mem _ h), B.notSynchronized⟩
  subst hsz
  have hD := hD0.self (sz := s.heap.size)
  generalize hAe : va_A [(h0, .inr (12, o_M I0 J0 a0_2 a0_4 a0_5 a0_6 a0_7 a0_8 a0_9 a0_10 a0_11 a0_22 a0_26 a0_29 a0_31 a0_32 h1)), (h1, .inl (cA1, n1, .inl f1))] s.heap.size = A at hD hE ⊢
  have hA : ∀ q : Nat, s.heap.size ≤ q → A q := fun q h => by rw [← hAe]; exact Or.inr h
  have hl := lv_entry ([.ref h0, .long x1, .int x3]) (n := 7) (Nat.le_of_ble_eq_true rfl)
  rw [lg_entry_eq]
  exact b_M_figures_0 hc hA hE hl hK hP hD va_S.rf hv
theorem d_M_general_0 : decode prog_14_method_40_code 0 = .ok (.aload_n 0, 1) := by decide +kernel
theorem d_M_general_1 : decode prog_14_method_40_code 1 = .ok (.iconst 0, 1) := by decide +kernel
theorem d_M_general_2 : decode prog_14_method_40_code 2 = .ok (.invokevirtual 239, 3) := by decide +kernel
theorem d_M_general_5 : decode prog_14_method_40_code 5 = .ok (.aload_n 0, 1) := by decide +kernel
theorem d_M_general_6 : decode prog_14_method_40_code 6 = .ok (.getfield 219, 3) := by decide +kernel
theorem d_M_general_9 : decode prog_14_method_40_code 9 = .ok (.ifCond .ne 10, 3) := by decide +kernel
theorem d_M_general_12 : decode prog_14_method_40_code 12 = .ok (.aload_n 0, 1) := by decide +kernel
theorem d_M_general_13 : decode prog_14_method_40_code 13 = .ok (.bipush 48, 2) := by decide +kernel
theorem d_M_general_15 : decode prog_14_method_40_code 15 = .ok (.invokevirtual 234, 3) := by decide +kernel
theorem d_M_general_18 : decode prog_14_method_40_code 18 = .ok (.return_, 1) := by decide +kernel
theorem d_M_general_19 : decode prog_14_method_40_code 19 = .ok (.aload_n 0, 1) := by decide +kernel
theorem d_M_general_20 : decode prog_14_method_40_code 20 = .ok (.getfield 80, 3) := by decide +kernel
theorem d_M_general_23 : decode prog_14_method_40_code 23 = .ok (.ifCond .eq 9, 3) := by decide +kernel
theorem d_M_general_26 : decode prog_14_method_40_code 26 = .ok (.aload_n 0, 1) := by decide +kernel
theorem d_M_general_27 : decode prog_14_method_40_code 27 = .ok (.bipush 45, 2) := by decide +kernel
theorem d_M_general_29 : decode prog_14_method_40_code 29 = .ok (.invokevirtual 234, 3) := by decide +kernel
theorem d_M_general_32 : decode prog_14_method_40_code 32 = .ok (.aload_n 0, 1) := by decide +kernel
theorem d_M_general_33 : decode prog_14_method_40_code 33 = .ok (.getfield 222, 3) := by decide +kernel
theorem d_M_general_36 : decode prog_14_method_40_code 36 = .ok (.bipush (-5), 2) := by decide +kernel
theorem d_M_general_38 : decode prog_14_method_40_code 38 = .ok (.if_icmp .lt 12, 3) := by decide +kernel
theorem d_M_general_41 : decode prog_14_method_40_code 41 = .ok (.aload_n 0, 1) := by decide +kernel
theorem d_M_general_42 : decode prog_14_method_40_code 42 = .ok (.getfield 222, 3) := by decide +kernel
theorem d_M_general_45 : decode prog_14_method_40_code 45 = .ok (.bipush 21, 2) := by decide +kernel
theorem d_M_general_47 : decode prog_14_method_40_code 47 = .ok (.if_icmp .le 110, 3) := by decide +kernel
theorem d_M_general_50 : decode prog_14_method_40_code 50 = .ok (.aload_n 0, 1) := by decide +kernel
theorem d_M_general_51 : decode prog_14_method_40_code 51 = .ok (.bipush 48, 2) := by decide +kernel
theorem d_M_general_53 : decode prog_14_method_40_code 53 = .ok (.aload_n 0, 1) := by decide +kernel
theorem d_M_general_54 : decode prog_14_method_40_code 54 = .ok (.getfield 43, 3) := by decide +kernel
theorem d_M_general_57 : decode prog_14_method_40_code 57 = .ok (.iconst 0, 1) := by decide +kernel
theorem d_M_general_58 : decode prog_14_method_40_code 58 = .ok (.iaload, 1) := by decide +kernel
theorem d_M_general_59 : decode prog_14_method_40_code 59 = .ok (.iadd, 1) := by decide +kernel
theorem d_M_general_60 : decode prog_14_method_40_code 60 = .ok (.invokevirtual 234, 3) := by decide +kernel
theorem d_M_general_63 : decode prog_14_method_40_code 63 = .ok (.aload_n 0, 1) := by decide +kernel
theorem d_M_general_64 : decode prog_14_method_40_code 64 = .ok (.getfield 219, 3) := by decide +kernel
theorem d_M_general_67 : decode prog_14_method_40_code 67 = .ok (.iconst 1, 1) := by decide +kernel
theorem d_M_general_68 : decode prog_14_method_40_code 68 = .ok (.if_icmp .le 9, 3) := by decide +kernel
theorem d_M_general_71 : decode prog_14_method_40_code 71 = .ok (.aload_n 0, 1) := by decide +kernel
theorem d_M_general_72 : decode prog_14_method_40_code 72 = .ok (.bipush 46, 2) := by decide +kernel
theorem d_M_general_74 : decode prog_14_method_40_code 74 = .ok (.invokevirtual 234, 3) := by decide +kernel
theorem d_M_general_77 : decode prog_14_method_40_code 77 = .ok (.iconst 1, 1) := by decide +kernel
theorem d_M_general_78 : decode prog_14_method_40_code 78 = .ok (.istore_n 1, 1) := by decide +kernel
theorem d_M_general_79 : decode prog_14_method_40_code 79 = .ok (.iload_n 1, 1) := by decide +kernel
theorem d_M_general_80 : decode prog_14_method_40_code 80 = .ok (.aload_n 0, 1) := by decide +kernel
theorem d_M_general_81 : decode prog_14_method_40_code 81 = .ok (.getfield 219, 3) := by decide +kernel
theorem d_M_general_84 : decode prog_14_method_40_code 84 = .ok (.if_icmp .ge 22, 3) := by decide +kernel
theorem d_M_general_87 : decode prog_14_method_40_code 87 = .ok (.aload_n 0, 1) := by decide +kernel
theorem d_M_general_88 : decode prog_14_method_40_code 88 = .ok (.bipush 48, 2) := by decide +kernel
theorem d_M_general_90 : decode prog_14_method_40_code 90 = .ok (.aload_n 0, 1) := by decide +kernel
theorem d_M_general_91 : decode prog_14_method_40_code 91 = .ok (.getfield 43, 3) := by decide +kernel
theorem d_M_general_94 : decode prog_14_method_40_code 94 = .ok (.iload_n 1, 1) := by decide +kernel
theorem d_M_general_95 : decode prog_14_method_40_code 95 = .ok (.iaload, 1) := by decide +kernel
theorem d_M_general_96 : decode prog_14_method_40_code 96 = .ok (.iadd, 1) := by decide +kernel
theorem d_M_general_97 : decode prog_14_method_40_code 97 = .ok (.invokevirtual 234, 3) := by decide +kernel
theorem d_M_general_100 : decode prog_14_method_40_code 100 = .ok (.iinc 1 1, 3) := by decide +kernel
theorem d_M_general_103 : decode prog_14_method_40_code 103 = .ok (.goto (-24), 3) := by decide +kernel
theorem d_M_general_106 : decode prog_14_method_40_code 106 = .ok (.aload_n 0, 1) := by decide +kernel
theorem d_M_general_107 : decode prog_14_method_40_code 107 = .ok (.bipush 69, 2) := by decide +kernel
theorem d_M_general_109 : decode prog_14_method_40_code 109 = .ok (.invokevirtual 234, 3) := by decide +kernel
theorem d_M_general_112 : decode prog_14_method_40_code 112 = .ok (.aload_n 0, 1) := by decide +kernel
theorem d_M_general_113 : decode prog_14_method_40_code 113 = .ok (.getfield 222, 3) := by decide +kernel
theorem d_M_general_116 : decode prog_14_method_40_code 116 = .ok (.iconst 1, 1) := by decide +kernel
theorem d_M_general_117 : decode prog_14_method_40_code 117 = .ok (.if_icmp .ge 9, 3) := by decide +kernel
theorem d_M_general_120 : decode prog_14_method_40_code 120 = .ok (.aload_n 0, 1) := by decide +kernel
theorem d_M_general_121 : decode prog_14_method_40_code 121 = .ok (.bipush 45, 2) := by decide +kernel
theorem d_M_general_123 : decode prog_14_method_40_code 123 = .ok (.invokevirtual 234, 3) := by decide +kernel
theorem d_M_general_126 : decode prog_14_method_40_code 126 = .ok (.aload_n 0, 1) := by decide +kernel
theorem d_M_general_127 : decode prog_14_method_40_code 127 = .ok (.aload_n 0, 1) := by decide +kernel
theorem d_M_general_128 : decode prog_14_method_40_code 128 = .ok (.getfield 222, 3) := by decide +kernel
theorem d_M_general_131 : decode prog_14_method_40_code 131 = .ok (.iconst 1, 1) := by decide +kernel
theorem d_M_general_132 : decode prog_14_method_40_code 132 = .ok (.if_icmp .ge 13, 3) := by decide +kernel
theorem d_M_general_135 : decode prog_14_method_40_code 135 = .ok (.iconst 1, 1) := by decide +kernel
theorem d_M_general_136 : decode prog_14_method_40_code 136 = .ok (.aload_n 0, 1) := by decide +kernel
theorem d_M_general_137 : decode prog_14_method_40_code 137 = .ok (.getfield 222, 3) := by decide +kernel
theorem d_M_general_140 : decode prog_14_method_40_code 140 = .ok (.isub, 1) := by decide +kernel
theorem d_M_general_141 : decode prog_14_method_40_code 141 = .ok (.i2l, 1) := by decide +kernel
theorem d_M_general_142 : decode prog_14_method_40_code 142 = .ok (.goto 10, 3) := by decide +kernel
theorem d_M_general_145 : decode prog_14_method_40_code 145 = .ok (.aload_n 0, 1) := by decide +kernel
theorem d_M_general_146 : decode prog_14_method_40_code 146 = .ok (.getfield 222, 3) := by decide +kernel
theorem d_M_general_149 : decode prog_14_method_40_code 149 = .ok (.iconst 1, 1) := by decide +kernel
theorem d_M_general_150 : decode prog_14_method_40_code 150 = .ok (.isub, 1) := by decide +kernel
theorem d_M_general_151 : decode prog_14_method_40_code 151 = .ok (.i2l, 1) := by decide +kernel
theorem d_M_general_152 : decode prog_14_method_40_code 152 = .ok (.iconst 1, 1) := by decide +kernel
theorem d_M_general_153 : decode prog_14_method_40_code 153 = .ok (.invokevirtual 242, 3) := by decide +kernel
theorem d_M_general_156 : decode prog_14_method_40_code 156 = .ok (.return_, 1) := by decide +kernel
theorem d_M_general_157 : decode prog_14_method_40_code 157 = .ok (.aload_n 0, 1) := by decide +kernel
theorem d_M_general_158 : decode prog_14_method_40_code 158 = .ok (.getfield 222, 3) := by decide +kernel
theorem d_M_general_161 : decode prog_14_method_40_code 161 = .ok (.ifCond .gt 9, 3) := by decide +kernel
theorem d_M_general_164 : decode prog_14_method_40_code 164 = .ok (.aload_n 0, 1) := by decide +kernel
theorem d_M_general_165 : decode prog_14_method_40_code 165 = .ok (.bipush 48, 2) := by decide +kernel
theorem d_M_general_167 : decode prog_14_method_40_code 167 = .ok (.invokevirtual 234, 3) := by decide +kernel
theorem d_M_general_170 : decode prog_14_method_40_code 170 = .ok (.aload_n 0, 1) := by decide +kernel
theorem d_M_general_171 : decode prog_14_method_40_code 171 = .ok (.getfield 222, 3) := by decide +kernel
theorem d_M_general_174 : decode prog_14_method_40_code 174 = .ok (.iconst 1, 1) := by decide +kernel
theorem d_M_general_175 : decode prog_14_method_40_code 175 = .ok (.isub, 1) := by decide +kernel
theorem d_M_general_176 : decode prog_14_method_40_code 176 = .ok (.istore_n 1, 1) := by decide +kernel
theorem d_M_general_177 : decode prog_14_method_40_code 177 = .ok (.iload_n 1, 1) := by decide +kernel
theorem d_M_general_178 : decode prog_14_method_40_code 178 = .ok (.ifCond .lt 21, 3) := by decide +kernel
theorem d_M_general_181 : decode prog_14_method_40_code 181 = .ok (.aload_n 0, 1) := by decide +kernel
theorem d_M_general_182 : decode prog_14_method_40_code 182 = .ok (.bipush 48, 2) := by decide +kernel
theorem d_M_general_184 : decode prog_14_method_40_code 184 = .ok (.aload_n 0, 1) := by decide +kernel
theorem d_M_general_185 : decode prog_14_method_40_code 185 = .ok (.iload_n 1, 1) := by decide +kernel
theorem d_M_general_186 : decode prog_14_method_40_code 186 = .ok (.invokevirtual 228, 3) := by decide +kernel
theorem d_M_general_189 : decode prog_14_method_40_code 189 = .ok (.iadd, 1) := by decide +kernel
theorem d_M_general_190 : decode prog_14_method_40_code 190 = .ok (.invokevirtual 234, 3) := by decide +kernel
theorem d_M_general_193 : decode prog_14_method_40_code 193 = .ok (.iinc 1 (-1), 3) := by decide +kernel
theorem d_M_general_196 : decode prog_14_method_40_code 196 = .ok (.goto (-19), 3) := by decide +kernel
theorem d_M_general_199 : decode prog_14_method_40_code 199 = .ok (.aload_n 0, 1) := by decide +kernel
theorem d_M_general_200 : decode prog_14_method_40_code 200 = .ok (.getfield 219, 3) := by decide +kernel
theorem d_M_general_203 : decode prog_14_method_40_code 203 = .ok (.aload_n 0, 1) := by decide +kernel
theorem d_M_general_204 : decode prog_14_method_40_code 204 = .ok (.getfield 222, 3) := by decide +kernel
theorem d_M_general_207 : decode prog_14_method_40_code 207 = .ok (.if_icmp .le 9, 3) := by decide +kernel
theorem d_M_general_210 : decode prog_14_method_40_code 210 = .ok (.aload_n 0, 1) := by decide +kernel
theorem d_M_general_211 : decode prog_14_method_40_code 211 = .ok (.bipush 46, 2) := by decide +kernel
theorem d_M_general_213 : decode prog_14_method_40_code 213 = .ok (.invokevirtual 234, 3) := by decide +kernel
theorem d_M_general_216 : decode prog_14_method_40_code 216 = .ok (.iconst (-1), 1) := by decide +kernel
theorem d_M_general_217 : decode prog_14_method_40_code 217 = .ok (.istore_n 1, 1) := by decide +kernel
theorem d_M_general_218 : decode prog_14_method_40_code 218 = .ok (.iload_n 1, 1) := by decide +kernel
theorem d_M_general_219 : decode prog_14_method_40_code 219 = .ok (.aload_n 0, 1) := by decide +kernel
theorem d_M_general_220 : decode prog_14_method_40_code 220 = .ok (.getfield 222, 3) := by decide +kernel
theorem d_M_general_223 : decode prog_14_method_40_code 223 = .ok (.aload_n 0, 1) := by decide +kernel
theorem d_M_general_224 : decode prog_14_method_40_code 224 = .ok (.getfield 219, 3) := by decide +kernel
theorem d_M_general_227 : decode prog_14_method_40_code 227 = .ok (.isub, 1) := by decide +kernel
theorem d_M_general_228 : decode prog_14_method_40_code 228 = .ok (.if_icmp .lt 21, 3) := by decide +kernel
theorem d_M_general_231 : decode prog_14_method_40_code 231 = .ok (.aload_n 0, 1) := by decide +kernel
theorem d_M_general_232 : decode prog_14_method_40_code 232 = .ok (.bipush 48, 2) := by decide +kernel
theorem d_M_general_234 : decode prog_14_method_40_code 234 = .ok (.aload_n 0, 1) := by decide +kernel
theorem d_M_general_235 : decode prog_14_method_40_code 235 = .ok (.iload_n 1, 1) := by decide +kernel
theorem d_M_general_236 : decode prog_14_method_40_code 236 = .ok (.invokevirtual 228, 3) := by decide +kernel
theorem d_M_general_239 : decode prog_14_method_40_code 239 = .ok (.iadd, 1) := by decide +kernel
theorem d_M_general_240 : decode prog_14_method_40_code 240 = .ok (.invokevirtual 234, 3) := by decide +kernel
theorem d_M_general_243 : decode prog_14_method_40_code 243 = .ok (.iinc 1 (-1), 3) := by decide +kernel
theorem d_M_general_246 : decode prog_14_method_40_code 246 = .ok (.goto (-28), 3) := by decide +kernel
theorem d_M_general_249 : decode prog_14_method_40_code 249 = .ok (.return_, 1) := by decide +kernel
set_option maxHeartbeats 4000000 in
set_option maxRecDepth 100000 in
theorem b_M_general_18 {h0 : Nat} {a0_2 : Nat} {a0_4 : Nat} {a0_5 : Nat} {a0_6 : Nat} {a0_7 : Nat} {a0_8 : Nat} {a0_9 : Nat} {a0_10 : Nat} {a0_11 : Nat} {a0_22 : Nat} {a0_31 : Nat} {a0_32 : Nat} {h1 : Nat} {cA1 : ClassId} {h2 : Nat} {cA2 : ClassId} {h3 : Nat} {cA3 : ClassId} {I0 : Nat → Int32} {J0 : Nat → Int64} {n1 : Nat} {f1 : Nat → Int32} {n2 : Nat} {f2 : Nat → Int32} {n3 : Nat} {f3 : Nat → Int32}  {Z : (Nat → Int32) × (Nat → Int32) × (Nat → Int32) → Prop} {H : Heap} {locs : List Loc} {ls : Array Slot} (hc : zC p s m args meth c prog_14_method_40_code none 2 "NumberDressModel") (hA : ∀ q : Nat, s.heap.size ≤ q → A q) (hE : zE gE A s) (hl : lv_has ls 2 []) (hK : va_K (dC, dI) zCl [(cA1, .int), (cA2, .int), (cA3, .int)] s) (hP : va_P (dC, dI) zCl [(h0, .inr (12, o_M I0 J0 a0_2 a0_4 a0_5 a0_6 a0_7 a0_8 a0_9 a0_10 a0_11 a0_22 h1 h2 a0_31 a0_32 h3)), (h1, .inl (cA1, n1, .inl f1)), (h2, .inl (cA2, n2, .inl f2)), (h3, .inl (cA3, n3, .inl f3))] H) (hD : va_D A [(h0, .inr (12, o_M I0 J0 a0_2 a0_4 a0_5 a0_6 a0_7 a0_8 a0_9 a0_10 a0_11 a0_22 h1 h2 a0_31 a0_32 h3)), (h1, .inl (cA1, n1, .inl f1)), (h2, .inl (cA2, n2, .inl f2)), (h3, .inl (cA3, n3, .inl f3))]) (hS : va_S A s.heap H locs) (hv : v_M_general_18 I0 J0 n1 f1 n2 f2 n3 f3  Z) : W p l e (headSpec (Cond.code (⟨"NumberDressModel", "general", "()V"⟩ : MethodName) prog_14_method_40_code 2 none :: zT) { frames := 2, cells := 0, slots := 0, locals := 47 }).room s m args below meth c H locs 0 0 (MQ below (va_Qv Z (zB (dC, dI) zCl [(cA1, .int), (cA2, .int), (cA3, .int)] A (fun u : (Nat → Int32) × (Nat → Int32) × (Nat → Int32) => [(h0, .inr (12, o_M u.1 J0 a0_2 a0_4 a0_5 a0_6 a0_7 a0_8 a0_9 a0_10 a0_11 a0_22 h1 h2 a0_31 a0_32 h3)), (h1, .inl (cA1, n1, .inl f1)), (h2, .inl (cA2, n2, .inl u.2.1)), (h3, .inl (cA3, n3, .inl u.2.2))])) A) args s 0 0 A) (F0 m 18 ls []) := by
  obtain ⟨hx, hb, hr, hml, hown, ht, hlocks⟩ := id hc
  unfold v_M_general_18 at hv
  exact W.vret hx hb hr (fun t ht hW => ⟨⟨(I0, f2, f3), rfl, hv, ⟨by rw [ht]; exact hP, va_K.moved hW.alike hK, hD⟩⟩, hS.F ht⟩) hS.2.2 d_M_general_18
set_option maxHeartbeats 4000000 in
set_option maxRecDepth 100000 in
theorem b_M_general_193 {h0 : Nat} {a0_2 : Nat} {a0_4 : Nat} {a0_5 : Nat} {a0_6 : Nat} {a0_7 : Nat} {a0_8 : Nat} {a0_9 : Nat} {a0_10 : Nat} {a0_11 : Nat} {a0_22 : Nat} {a0_31 : Nat} {a0_32 : Nat} {h1 : Nat} {cA1 : ClassId} {h2 : Nat} {cA2 : ClassId} {h3 : Nat} {cA3 : ClassId} {I0 : Nat → Int32} {J0 : Nat → Int64} {n1 : Nat} {f1 : Nat → Int32} {n2 : Nat} {f2 : Nat → Int32} {n3 : Nat} {f3 : Nat → Int32} {x1 : Int32} {k177 : (Nat → Int32) → (Nat → Int32) → Int32 → Prop} {Z : (Nat → Int32) × (Nat → Int32) × (Nat → Int32) → Prop} {H : Heap} {locs : List Loc} {ls : Array Slot} (hc : zC p s m args meth c prog_14_method_40_code none 2 "NumberDressModel") (hA : ∀ q : Nat, s.heap.size ≤ q → A q) (hE : zE gE A s) (hk177 : ∀ (I0 : Nat → Int32) (f3 : Nat → Int32) (x1 : Int32) (H : Heap) (locs : List Loc) (ls : Array Slot), lv_has ls 2 [(0, .ref h0), (1, .int x1)] → va_K (dC, dI) zCl [(cA1, .int), (cA2, .int), (cA3, .int)] s → va_P (dC, dI) zCl [(h0, .inr (12, o_M I0 J0 a0_2 a0_4 a0_5 a0_6 a0_7 a0_8 a0_9 a0_10 a0_11 a0_22 h1 h2 a0_31 a0_32 h3)), (h1, .inl (cA1, n1, .inl f1)), (h2, .inl (cA2, n2, .inl f2)), (h3, .inl (cA3, n3, .inl f3))] H → va_D A [(h0, .inr (12, o_M I0 J0 a0_2 a0_4 a0_5 a0_6 a0_7 a0_8 a0_9 a0_10 a0_11 a0_22 h1 h2 a0_31 a0_32 h3)), (h1, .inl (cA1, n1, .inl f1)), (h2, .inl (cA2, n2, .inl f2)), (h3, .inl (cA3, n3, .inl f3))] → va_S A s.heap H locs → k177 I0 f3 x1 → W p l e (headSpec (Cond.code (⟨"NumberDressModel", "general", "()V"⟩ : MethodName) prog_14_method_40_code 2 none :: zT) { frames := 2, cells := 0, slots := 0, locals := 47 }).room s m args below meth c H locs 0 0 (MQ below (va_Qv Z (zB (dC, dI) zCl [(cA1, .int), (cA2, .int), (cA3, .int)] A (fun u : (Nat → Int32) × (Nat → Int32) × (Nat → Int32) => [(h0, .inr (12, o_M u.1 J0 a0_2 a0_4 a0_5 a0_6 a0_7 a0_8 a0_9 a0_10 a0_11 a0_22 h1 h2 a0_31 a0_32 h3)), (h1, .inl (cA1, n1, .inl f1)), (h2, .inl (cA2, n2, .inl u.2.1)), (h3, .inl (cA3, n3, .inl u.2.2))])) A) args s 0 0 A) (F0 m 177 ls [])) (hl : lv_has ls 2 [(0, .ref h0), (1, .int x1)]) (hK : va_K (dC, dI) zCl [(cA1, .int), (cA2, .int), (cA3, .int)] s) (hP : va_P (dC, dI) zCl [(h0, .inr (12, o_M I0 J0 a0_2 a0_4 a0_5 a0_6 a0_7 a0_8 a0_9 a0_10 a0_11 a0_22 h1 h2 a0_31 a0_32 h3)), (h1, .inl (cA1, n1, .inl f1)), (h2, .inl (cA2, n2, .inl f2)), (h3, .inl (cA3, n3, .inl f3))] H) (hD : va_D A [(h0, .inr (12, o_M I0 J0 a0_2 a0_4 a0_5 a0_6 a0_7 a0_8 a0_9 a0_10 a0_11 a0_22 h1 h2 a0_31 a0_32 h3)), (h1, .inl (cA1, n1, .inl f1)), (h2, .inl (cA2, n2, .inl f2)), (h3, .inl (cA3, n3, .inl f3))]) (hS : va_S A s.heap H locs) (hv : v_M_general_193 I0 J0 n1 f1 n2 f2 n3 f3 x1 k177 Z) : W p l e (headSpec (Cond.code (⟨"NumberDressModel", "general", "()V"⟩ : MethodName) prog_14_method_40_code 2 none :: zT) { frames := 2, cells := 0, slots := 0, locals := 47 }).room s m args below meth c H locs 0 0 (MQ below (va_Qv Z (zB (dC, dI) zCl [(cA1, .int), (cA2, .int), (cA3, .int)] A (fun u : (Nat → Int32) × (Nat → Int32) × (Nat → Int32) => [(h0, .inr (12, o_M u.1 J0 a0_2 a0_4 a0_5 a0_6 a0_7 a0_8 a0_9 a0_10 a0_11 a0_22 h1 h2 a0_31 a0_32 h3)), (h1, .inl (cA1, n1, .inl f1)), (h2, .inl (cA2, n2, .inl u.2.1)), (h3, .inl (cA3, n3, .inl u.2.2))])) A) args s 0 0 A) (F0 m 193 ls []) := by
  obtain ⟨hx, hb, hr, hml, hown, ht, hlocks⟩ := id hc
  unfold v_M_general_193 at hv
  refine lv_iinc (v := (x1 + (-1 : Int32))) (lv' := [(1, .int (x1 + (-1 : Int32))), (0, .ref h0)]) hx hb d_M_general_193 hl (k := 1) rfl rfl (by decide) rfl (fun ls hl => ?_)
  refine lv_goto (tgt := 177) hx hb d_M_general_196 (by decide) ?_
  exact hk177 I0 f3 (x1 + (-1 : Int32)) _ _ _ (lv_sub hl [1, 0] rfl) hK hP hD hS hv
set_option maxHeartbeats 4000000 in
set_option maxRecDepth 100000 in
theorem b_M_general_189 {h0 : Nat} {a0_2 : Nat} {a0_4 : Nat} {a0_5 : Nat} {a0_6 : Nat} {a0_7 : Nat} {a0_8 : Nat} {a0_9 : Nat} {a0_10 : Nat} {a0_11 : Nat} {a0_22 : Nat} {a0_31 : Nat} {a0_32 : Nat} {h1 : Nat} {cA1 : ClassId} {h2 : Nat} {cA2 : ClassId} {h3 : Nat} {cA3 : ClassId} {I0 : Nat → Int32} {J0 : Nat → Int64} {n1 : Nat} {f1 : Nat → Int32} {n2 : Nat} {f2 : Nat → Int32} {n3 : Nat} {f3 : Nat → Int32} {x1 : Int32} {s1 : Int32} {s2 : Int32} {k177 : (Nat → Int32) → (Nat → Int32) → Int32 → Prop} {Z : (Nat → Int32) × (Nat → Int32) × (Nat → Int32) → Prop} {H : Heap} {locs : List Loc} {ls : Array Slot} (hc : zC p s m args meth c prog_14_method_40_code none 2 "NumberDressModel") (hA : ∀ q : Nat, s.heap.size ≤ q → A q) (hE : zE gE A s) (hk177 : ∀ (I0 : Nat → Int32) (f3 : Nat → Int32) (x1 : Int32) (H : Heap) (locs : List Loc) (ls : Array Slot), lv_has ls 2 [(0, .ref h0), (1, .int x1)] → va_K (dC, dI) zCl [(cA1, .int), (cA2, .int), (cA3, .int)] s → va_P (dC, dI) zCl [(h0, .inr (12, o_M I0 J0 a0_2 a0_4 a0_5 a0_6 a0_7 a0_8 a0_9 a0_10 a0_11 a0_22 h1 h2 a0_31 a0_32 h3)), (h1, .inl (cA1, n1, .inl f1)), (h2, .inl (cA2, n2, .inl f2)), (h3, .inl (cA3, n3, .inl f3))] H → va_D A [(h0, .inr (12, o_M I0 J0 a0_2 a0_4 a0_5 a0_6 a0_7 a0_8 a0_9 a0_10 a0_11 a0_22 h1 h2 a0_31 a0_32 h3)), (h1, .inl (cA1, n1, .inl f1)), (h2, .inl (cA2, n2, .inl f2)), (h3, .inl (cA3, n3, .inl f3))] → va_S A s.heap H locs → k177 I0 f3 x1 → W p l e (headSpec (Cond.code (⟨"NumberDressModel", "general", "()V"⟩ : MethodName) prog_14_method_40_code 2 none :: zT) { frames := 2, cells := 0, slots := 0, locals := 47 }).room s m args below meth c H locs 0 0 (MQ below (va_Qv Z (zB (dC, dI) zCl [(cA1, .int), (cA2, .int), (cA3, .int)] A (fun u : (Nat → Int32) × (Nat → Int32) × (Nat → Int32) => [(h0, .inr (12, o_M u.1 J0 a0_2 a0_4 a0_5 a0_6 a0_7 a0_8 a0_9 a0_10 a0_11 a0_22 h1 h2 a0_31 a0_32 h3)), (h1, .inl (cA1, n1, .inl f1)), (h2, .inl (cA2, n2, .inl u.2.1)), (h3, .inl (cA3, n3, .inl u.2.2))])) A) args s 0 0 A) (F0 m 177 ls [])) (hl : lv_has ls 2 [(0, .ref h0), (1, .int x1)]) (hK : va_K (dC, dI) zCl [(cA1, .int), (cA2, .int), (cA3, .int)] s) (hP : va_P (dC, dI) zCl [(h0, .inr (12, o_M I0 J0 a0_2 a0_4 a0_5 a0_6 a0_7 a0_8 a0_9 a0_10 a0_11 a0_22 h1 h2 a0_31 a0_32 h3)), (h1, .inl (cA1, n1, .inl f1)), (h2, .inl (cA2, n2, .inl f2)), (h3, .inl (cA3, n3, .inl f3))] H) (hD : va_D A [(h0, .inr (12, o_M I0 J0 a0_2 a0_4 a0_5 a0_6 a0_7 a0_8 a0_9 a0_10 a0_11 a0_22 h1 h2 a0_31 a0_32 h3)), (h1, .inl (cA1, n1, .inl f1)), (h2, .inl (cA2, n2, .inl f2)), (h3, .inl (cA3, n3, .inl f3))]) (hS : va_S A s.heap H locs) (hv : v_M_general_189 I0 J0 n1 f1 n2 f2 n3 f3 x1 s1 s2 k177 Z) : W p l e (headSpec (Cond.code (⟨"NumberDressModel", "general", "()V"⟩ : MethodName) prog_14_method_40_code 2 none :: zT) { frames := 2, cells := 0, slots := 0, locals := 47 }).room s m args below meth c H locs 0 0 (MQ below (va_Qv Z (zB (dC, dI) zCl [(cA1, .int), (cA2, .int), (cA3, .int)] A (fun u : (Nat → Int32) × (Nat → Int32) × (Nat → Int32) => [(h0, .inr (12, o_M u.1 J0 a0_2 a0_4 a0_5 a0_6 a0_7 a0_8 a0_9 a0_10 a0_11 a0_22 h1 h2 a0_31 a0_32 h3)), (h1, .inl (cA1, n1, .inl f1)), (h2, .inl (cA2, n2, .inl u.2.1)), (h3, .inl (cA3, n3, .inl u.2.2))])) A) args s 0 0 A) (F0 m 189 ls [.int s2, .int s1, .ref h0]) := by
  obtain ⟨hx, hb, hr, hml, hown, ht, hlocks⟩ := id hc
  unfold v_M_general_189 at hv
  refine lv_iadd hx hb d_M_general_189 ?_
  refine z_callv (wc := [(h0, .inr (12, o_M I0 J0 a0_2 a0_4 a0_5 a0_6 a0_7 a0_8 a0_9 a0_10 a0_11 a0_22 h1 h2 a0_31 a0_32 h3)), (h3, .inl (cA3, n3, .inl f3))]) (wr := [(h1, .inl (cA1, n1, .inl f1)), (h2, .inl (cA2, n2, .inl f2))]) [0, 3] [1, 2] (va_runV (As := [.int (s1 + s2)]) (rest := []) ⟨hx, hb, hml, hown, ht⟩ (m_M_put l dC dI hv) ⟨(callB_of 1 ht (zG_in zi_M_put) rfl rfl rfl (ht _ zw_122) (ht _ zw_1529) zh_M_put ⟨Nat.le_of_ble_eq_true rfl, Nat.le_of_ble_eq_true rfl⟩), (ht _ zw_1531), (ht _ zw_83)⟩ ⟨zPc_blind, va_recv hK hP (ci := 12) (q0 := 0) rfl rfl, zPc_pre hP hK hD hS hA hE [0, 3] [2] rfl rfl (by decide) rfl⟩ rfl rfl hl.1 rfl (lv_room (Nat.le_of_ble_eq_true rfl)) d_M_general_190 ⟨Nat.le_of_ble_eq_true rfl, Nat.le_of_ble_eq_true rfl⟩) hP hD hS hA rfl rfl (by decide) (by decide) (fun u H locs hv hP hD hS => ?_)
  have hP : va_P (dC, dI) zCl [(h0, .inr (12, o_M u.1 J0 a0_2 a0_4 a0_5 a0_6 a0_7 a0_8 a0_9 a0_10 a0_11 a0_22 h1 h2 a0_31 a0_32 h3)), (h1, .inl (cA1, n1, .inl f1)), (h2, .inl (cA2, n2, .inl f2)), (h3, .inl (cA3, n3, .inl u.2))] H := hP.sub [2, 0, 1, 3] rfl
  have hD : va_D A [(h0, .inr (12, o_M u.1 J0 a0_2 a0_4 a0_5 a0_6 a0_7 a0_8 a0_9 a0_10 a0_11 a0_22 h1 h2 a0_31 a0_32 h3)), (h1, .inl (cA1, n1, .inl f1)), (h2, .inl (cA2, n2, .inl f2)), (h3, .inl (cA3, n3, .inl u.2))] := hD.sub [2, 0, 1, 3] (by decide) rfl
  exact b_M_general_193 hc hA hE hk177 (lv_sub hl [0, 1] rfl) hK hP hD hS hv
set_option maxHeartbeats 4000000 in
set_option maxRecDepth 100000 in
theorem b_M_general_243 {h0 : Nat} {a0_2 : Nat} {a0_4 : Nat} {a0_5 : Nat} {a0_6 : Nat} {a0_7 : Nat} {a0_8 : Nat} {a0_9 : Nat} {a0_10 : Nat} {a0_11 : Nat} {a0_22 : Nat} {a0_31 : Nat} {a0_32 : Nat} {h1 : Nat} {cA1 : ClassId} {h2 : Nat} {cA2 : ClassId} {h3 : Nat} {cA3 : ClassId} {I0 : Nat → Int32} {J0 : Nat → Int64} {n1 : Nat} {f1 : Nat → Int32} {n2 : Nat} {f2 : Nat → Int32} {n3 : Nat} {f3 : Nat → Int32} {x1 : Int32} {k218 : (Nat → Int32) → (Nat → Int32) → Int32 → Prop} {Z : (Nat → Int32) × (Nat → Int32) × (Nat → Int32) → Prop} {H : Heap} {locs : List Loc} {ls : Array Slot} (hc : zC p s m args meth c prog_14_method_40_code none 2 "NumberDressModel") (hA : ∀ q : Nat, s.heap.size ≤ q → A q) (hE : zE gE A s) (hk218 : ∀ (I0 : Nat → Int32) (f3 : Nat → Int32) (x1 : Int32) (H : Heap) (locs : List Loc) (ls : Array Slot), lv_has ls 2 [(0, .ref h0), (1, .int x1)] → va_K (dC, dI) zCl [(cA1, .int), (cA2, .int), (cA3, .int)] s → va_P (dC, dI) zCl [(h0, .inr (12, o_M I0 J0 a0_2 a0_4 a0_5 a0_6 a0_7 a0_8 a0_9 a0_10 a0_11 a0_22 h1 h2 a0_31 a0_32 h3)), (h1, .inl (cA1, n1, .inl f1)), (h2, .inl (cA2, n2, .inl f2)), (h3, .inl (cA3, n3, .inl f3))] H → va_D A [(h0, .inr (12, o_M I0 J0 a0_2 a0_4 a0_5 a0_6 a0_7 a0_8 a0_9 a0_10 a0_11 a0_22 h1 h2 a0_31 a0_32 h3)), (h1, .inl (cA1, n1, .inl f1)), (h2, .inl (cA2, n2, .inl f2)), (h3, .inl (cA3, n3, .inl f3))] → va_S A s.heap H locs → k218 I0 f3 x1 → W p l e (headSpec (Cond.code (⟨"NumberDressModel", "general", "()V"⟩ : MethodName) prog_14_method_40_code 2 none :: zT) { frames := 2, cells := 0, slots := 0, locals := 47 }).room s m args below meth c H locs 0 0 (MQ below (va_Qv Z (zB (dC, dI) zCl [(cA1, .int), (cA2, .int), (cA3, .int)] A (fun u : (Nat → Int32) × (Nat → Int32) × (Nat → Int32) => [(h0, .inr (12, o_M u.1 J0 a0_2 a0_4 a0_5 a0_6 a0_7 a0_8 a0_9 a0_10 a0_11 a0_22 h1 h2 a0_31 a0_32 h3)), (h1, .inl (cA1, n1, .inl f1)), (h2, .inl (cA2, n2, .inl u.2.1)), (h3, .inl (cA3, n3, .inl u.2.2))])) A) args s 0 0 A) (F0 m 218 ls [])) (hl : lv_has ls 2 [(0, .ref h0), (1, .int x1)]) (hK : va_K (dC, dI) zCl [(cA1, .int), (cA2, .int), (cA3, .int)] s) (hP : va_P (dC, dI) zCl [(h0, .inr (12, o_M I0 J0 a0_2 a0_4 a0_5 a0_6 a0_7 a0_8 a0_9 a0_10 a0_11 a0_22 h1 h2 a0_31 a0_32 h3)), (h1, .inl (cA1, n1, .inl f1)), (h2, .inl (cA2, n2, .inl f2)), (h3, .inl (cA3, n3, .inl f3))] H) (hD : va_D A [(h0, .inr (12, o_M I0 J0 a0_2 a0_4 a0_5 a0_6 a0_7 a0_8 a0_9 a0_10 a0_11 a0_22 h1 h2 a0_31 a0_32 h3)), (h1, .inl (cA1, n1, .inl f1)), (h2, .inl (cA2, n2, .inl f2)), (h3, .inl (cA3, n3, .inl f3))]) (hS : va_S A s.heap H locs) (hv : v_M_general_243 I0 J0 n1 f1 n2 f2 n3 f3 x1 k218 Z) : W p l e (headSpec (Cond.code (⟨"NumberDressModel", "general", "()V"⟩ : MethodName) prog_14_method_40_code 2 none :: zT) { frames := 2, cells := 0, slots := 0, locals := 47 }).room s m args below meth c H locs 0 0 (MQ below (va_Qv Z (zB (dC, dI) zCl [(cA1, .int), (cA2, .int), (cA3, .int)] A (fun u : (Nat → Int32) × (Nat → Int32) × (Nat → Int32) => [(h0, .inr (12, o_M u.1 J0 a0_2 a0_4 a0_5 a0_6 a0_7 a0_8 a0_9 a0_10 a0_11 a0_22 h1 h2 a0_31 a0_32 h3)), (h1, .inl (cA1, n1, .inl f1)), (h2, .inl (cA2, n2, .inl u.2.1)), (h3, .inl (cA3, n3, .inl u.2.2))])) A) args s 0 0 A) (F0 m 243 ls []) := by
  obtain ⟨hx, hb, hr, hml, hown, ht, hlocks⟩ := id hc
  unfold v_M_general_243 at hv
  refine lv_iinc (v := (x1 + (-1 : Int32))) (lv' := [(1, .int (x1 + (-1 : Int32))), (0, .ref h0)]) hx hb d_M_general_243 hl (k := 1) rfl rfl (by decide) rfl (fun ls hl => ?_)
  refine lv_goto (tgt := 218) hx hb d_M_general_246 (by decide) ?_
  exact hk218 I0 f3 (x1 + (-1 : Int32)) _ _ _ (lv_sub hl [1, 0] rfl) hK hP hD hS hv
set_option maxHeartbeats 4000000 in
set_option maxRecDepth 100000 in
theorem b_M_general_239 {h0 : Nat} {a0_2 : Nat} {a0_4 : Nat} {a0_5 : Nat} {a0_6 : Nat} {a0_7 : Nat} {a0_8 : Nat} {a0_9 : Nat} {a0_10 : Nat} {a0_11 : Nat} {a0_22 : Nat} {a0_31 : Nat} {a0_32 : Nat} {h1 : Nat} {cA1 : ClassId} {h2 : Nat} {cA2 : ClassId} {h3 : Nat} {cA3 : ClassId} {I0 : Nat → Int32} {J0 : Nat → Int64} {n1 : Nat} {f1 : Nat → Int32} {n2 : Nat} {f2 : Nat → Int32} {n3 : Nat} {f3 : Nat → Int32} {x1 : Int32} {s1 : Int32} {s2 : Int32} {k218 : (Nat → Int32) → (Nat → Int32) → Int32 → Prop} {Z : (Nat → Int32) × (Nat → Int32) × (Nat → Int32) → Prop} {H : Heap} {locs : List Loc} {ls : Array Slot} (hc : zC p s m args meth c prog_14_method_40_code none 2 "NumberDressModel") (hA : ∀ q : Nat, s.heap.size ≤ q → A q) (hE : zE gE A s) (hk218 : ∀ (I0 : Nat → Int32) (f3 : Nat → Int32) (x1 : Int32) (H : Heap) (locs : List Loc) (ls : Array Slot), lv_has ls 2 [(0, .ref h0), (1, .int x1)] → va_K (dC, dI) zCl [(cA1, .int), (cA2, .int), (cA3, .int)] s → va_P (dC, dI) zCl [(h0, .inr (12, o_M I0 J0 a0_2 a0_4 a0_5 a0_6 a0_7 a0_8 a0_9 a0_10 a0_11 a0_22 h1 h2 a0_31 a0_32 h3)), (h1, .inl (cA1, n1, .inl f1)), (h2, .inl (cA2, n2, .inl f2)), (h3, .inl (cA3, n3, .inl f3))] H → va_D A [(h0, .inr (12, o_M I0 J0 a0_2 a0_4 a0_5 a0_6 a0_7 a0_8 a0_9 a0_10 a0_11 a0_22 h1 h2 a0_31 a0_32 h3)), (h1, .inl (cA1, n1, .inl f1)), (h2, .inl (cA2, n2, .inl f2)), (h3, .inl (cA3, n3, .inl f3))] → va_S A s.heap H locs → k218 I0 f3 x1 → W p l e (headSpec (Cond.code (⟨"NumberDressModel", "general", "()V"⟩ : MethodName) prog_14_method_40_code 2 none :: zT) { frames := 2, cells := 0, slots := 0, locals := 47 }).room s m args below meth c H locs 0 0 (MQ below (va_Qv Z (zB (dC, dI) zCl [(cA1, .int), (cA2, .int), (cA3, .int)] A (fun u : (Nat → Int32) × (Nat → Int32) × (Nat → Int32) => [(h0, .inr (12, o_M u.1 J0 a0_2 a0_4 a0_5 a0_6 a0_7 a0_8 a0_9 a0_10 a0_11 a0_22 h1 h2 a0_31 a0_32 h3)), (h1, .inl (cA1, n1, .inl f1)), (h2, .inl (cA2, n2, .inl u.2.1)), (h3, .inl (cA3, n3, .inl u.2.2))])) A) args s 0 0 A) (F0 m 218 ls [])) (hl : lv_has ls 2 [(0, .ref h0), (1, .int x1)]) (hK : va_K (dC, dI) zCl [(cA1, .int), (cA2, .int), (cA3, .int)] s) (hP : va_P (dC, dI) zCl [(h0, .inr (12, o_M I0 J0 a0_2 a0_4 a0_5 a0_6 a0_7 a0_8 a0_9 a0_10 a0_11 a0_22 h1 h2 a0_31 a0_32 h3)), (h1, .inl (cA1, n1, .inl f1)), (h2, .inl (cA2, n2, .inl f2)), (h3, .inl (cA3, n3, .inl f3))] H) (hD : va_D A [(h0, .inr (12, o_M I0 J0 a0_2 a0_4 a0_5 a0_6 a0_7 a0_8 a0_9 a0_10 a0_11 a0_22 h1 h2 a0_31 a0_32 h3)), (h1, .inl (cA1, n1, .inl f1)), (h2, .inl (cA2, n2, .inl f2)), (h3, .inl (cA3, n3, .inl f3))]) (hS : va_S A s.heap H locs) (hv : v_M_general_239 I0 J0 n1 f1 n2 f2 n3 f3 x1 s1 s2 k218 Z) : W p l e (headSpec (Cond.code (⟨"NumberDressModel", "general", "()V"⟩ : MethodName) prog_14_method_40_code 2 none :: zT) { frames := 2, cells := 0, slots := 0, locals := 47 }).room s m args below meth c H locs 0 0 (MQ below (va_Qv Z (zB (dC, dI) zCl [(cA1, .int), (cA2, .int), (cA3, .int)] A (fun u : (Nat → Int32) × (Nat → Int32) × (Nat → Int32) => [(h0, .inr (12, o_M u.1 J0 a0_2 a0_4 a0_5 a0_6 a0_7 a0_8 a0_9 a0_10 a0_11 a0_22 h1 h2 a0_31 a0_32 h3)), (h1, .inl (cA1, n1, .inl f1)), (h2, .inl (cA2, n2, .inl u.2.1)), (h3, .inl (cA3, n3, .inl u.2.2))])) A) args s 0 0 A) (F0 m 239 ls [.int s2, .int s1, .ref h0]) := by
  obtain ⟨hx, hb, hr, hml, hown, ht, hlocks⟩ := id hc
  unfold v_M_general_239 at hv
  refine lv_iadd hx hb d_M_general_239 ?_
  refine z_callv (wc := [(h0, .inr (12, o_M I0 J0 a0_2 a0_4 a0_5 a0_6 a0_7 a0_8 a0_9 a0_10 a0_11 a0_22 h1 h2 a0_31 a0_32 h3)), (h3, .inl (cA3, n3, .inl f3))]) (wr := [(h1, .inl (cA1, n1, .inl f1)), (h2, .inl (cA2, n2, .inl f2))]) [0, 3] [1, 2] (va_runV (As := [.int (s1 + s2)]) (rest := []) ⟨hx, hb, hml, hown, ht⟩ (m_M_put l dC dI hv) ⟨(callB_of 1 ht (zG_in zi_M_put) rfl rfl rfl (ht _ zw_122) (ht _ zw_1529) zh_M_put ⟨Nat.le_of_ble_eq_true rfl, Nat.le_of_ble_eq_true rfl⟩), (ht _ zw_1531), (ht _ zw_83)⟩ ⟨zPc_blind, va_recv hK hP (ci := 12) (q0 := 0) rfl rfl, zPc_pre hP hK hD hS hA hE [0, 3] [2] rfl rfl (by decide) rfl⟩ rfl rfl hl.1 rfl (lv_room (Nat.le_of_ble_eq_true rfl)) d_M_general_240 ⟨Nat.le_of_ble_eq_true rfl, Nat.le_of_ble_eq_true rfl⟩) hP hD hS hA rfl rfl (by decide) (by decide) (fun u H locs hv hP hD hS => ?_)
  have hP : va_P (dC, dI) zCl [(h0, .inr (12, o_M u.1 J0 a0_2 a0_4 a0_5 a0_6 a0_7 a0_8 a0_9 a0_10 a0_11 a0_22 h1 h2 a0_31 a0_32 h3)), (h1, .inl (cA1, n1, .inl f1)), (h2, .inl (cA2, n2, .inl f2)), (h3, .inl (cA3, n3, .inl u.2))] H := hP.sub [2, 0, 1, 3] rfl
  have hD : va_D A [(h0, .inr (12, o_M u.1 J0 a0_2 a0_4 a0_5 a0_6 a0_7 a0_8 a0_9 a0_10 a0_11 a0_22 h1 h2 a0_31 a0_32 h3)), (h1, .inl (cA1, n1, .inl f1)), (h2, .inl (cA2, n2, .inl f2)), (h3, .inl (cA3, n3, .inl u.2))] := hD.sub [2, 0, 1, 3] (by decide) rfl
  exact b_M_general_243 hc hA hE hk218 (lv_sub hl [0, 1] rfl) hK hP hD hS hv
set_option maxHeartbeats 4000000 in
set_option maxRecDepth 100000 in
theorem b_M_general_218 {h0 : Nat} {a0_2 : Nat} {a0_4 : Nat} {a0_5 : Nat} {a0_6 : Nat} {a0_7 : Nat} {a0_8 : Nat} {a0_9 : Nat} {a0_10 : Nat} {a0_11 : Nat} {a0_22 : Nat} {a0_31 : Nat} {a0_32 : Nat} {h1 : Nat} {cA1 : ClassId} {h2 : Nat} {cA2 : ClassId} {h3 : Nat} {cA3 : ClassId} {J0 : Nat → Int64} {n1 : Nat} {f1 : Nat → Int32} {n2 : Nat} {f2 : Nat → Int32} {n3 : Nat}  {Z : (Nat → Int32) × (Nat → Int32) × (Nat → Int32) → Prop} (hc : zC p s m args meth c prog_14_method_40_code none 2 "NumberDressModel") (hA : ∀ q : Nat, s.heap.size ≤ q → A q) (hE : zE gE A s) : ∀ (N : Nat) (I0 : Nat → Int32) (f3 : Nat → Int32) (x1 : Int32) (H : Heap) (locs : List Loc) (ls : Array Slot), lv_has ls 2 [(0, .ref h0), (1, .int x1)] → va_K (dC, dI) zCl [(cA1, .int), (cA2, .int), (cA3, .int)] s → va_P (dC, dI) zCl [(h0, .inr (12, o_M I0 J0 a0_2 a0_4 a0_5 a0_6 a0_7 a0_8 a0_9 a0_10 a0_11 a0_22 h1 h2 a0_31 a0_32 h3)), (h1, .inl (cA1, n1, .inl f1)), (h2, .inl (cA2, n2, .inl f2)), (h3, .inl (cA3, n3, .inl f3))] H → va_D A [(h0, .inr (12, o_M I0 J0 a0_2 a0_4 a0_5 a0_6 a0_7 a0_8 a0_9 a0_10 a0_11 a0_22 h1 h2 a0_31 a0_32 h3)), (h1, .inl (cA1, n1, .inl f1)), (h2, .inl (cA2, n2, .inl f2)), (h3, .inl (cA3, n3, .inl f3))] → va_S A s.heap H locs → v_M_general_218 J0 n1 f1 n2 f2 n3  Z N I0 f3 x1 → W p l e (headSpec (Cond.code (⟨"NumberDressModel", "general", "()V"⟩ : MethodName) prog_14_method_40_code 2 none :: zT) { frames := 2, cells := 0, slots := 0, locals := 47 }).room s m args below meth c H locs 0 0 (MQ below (va_Qv Z (zB (dC, dI) zCl [(cA1, .int), (cA2, .int), (cA3, .int)] A (fun u : (Nat → Int32) × (Nat → Int32) × (Nat → Int32) => [(h0, .inr (12, o_M u.1 J0 a0_2 a0_4 a0_5 a0_6 a0_7 a0_8 a0_9 a0_10 a0_11 a0_22 h1 h2 a0_31 a0_32 h3)), (h1, .inl (cA1, n1, .inl f1)), (h2, .inl (cA2, n2, .inl u.2.1)), (h3, .inl (cA3, n3, .inl u.2.2))])) A) args s 0 0 A) (F0 m 218 ls []) := by
  obtain ⟨hx, hb, hr, hml, hown, ht, hlocks⟩ := id hc
  intro N
  induction N with
  | zero => intro I0 f3 x1 H locs ls hl hK hP hD hS hv; exact hv.elim
  | succ N hk218 =>
    intro I0 f3 x1 H locs ls hl hK hP hD hS hv
    unfold v_M_general_218 at hv
    refine lv_iload_n hx hb d_M_general_218 rfl (lv_at hl 1 rfl) ?_
    refine lv_aload_n hx hb d_M_general_219 rfl (lv_at hl 0 rfl) ?_
    refine va_get (D := (dC, dI)) (ci := 12) (v := .int (I0 28)) (C := "NumberDressModel") (T := T_M) (N := 41) hx hb ht zin_M hown hK hP 0 rfl rfl 28 (by decide) (ht _ zw_1289) (fun _ h9 => h9) rfl d_M_general_220 ?_
    refine lv_aload_n hx hb d_M_general_223 rfl (lv_at hl 0 rfl) ?_
    refine va_get (D := (dC, dI)) (ci := 12) (v := .int (I0 27)) (C := "NumberDressModel") (T := T_M) (N := 41) hx hb ht zin_M hown hK hP 0 rfl rfl 27 (by decide) (ht _ zw_1288) (fun _ h9 => h9) rfl d_M_general_224 ?_
    refine lv_isub hx hb d_M_general_227 ?_
    refine lv_icmp_lt (tgt := 249) hx hb d_M_general_228 (by decide) (fun c_1 => ?_) (fun c_1 => ?_)
    · have hv := hv.1 c_1
      exact W.vret hx hb hr (fun t ht hW => ⟨⟨(I0, f2, f3), rfl, hv, ⟨by rw [ht]; exact hP, va_K.moved hW.alike hK, hD⟩⟩, hS.F ht⟩) hS.2.2 d_M_general_249
    · have hv := hv.2 c_1
      refine lv_aload_n hx hb d_M_general_231 rfl (lv_at hl 0 rfl) ?_
      refine lv_bipush (v := (48 : Int32)) hx hb d_M_general_232 (by decide) ?_
      refine lv_aload_n hx hb d_M_general_234 rfl (lv_at hl 0 rfl) ?_
      refine lv_iload_n hx hb d_M_general_235 rfl (lv_at hl 1 rfl) ?_
      refine z_calli (wc := [(h0, .inr (12, o_M I0 J0 a0_2 a0_4 a0_5 a0_6 a0_7 a0_8 a0_9 a0_10 a0_11 a0_22 h1 h2 a0_31 a0_32 h3)), (h2, .inl (cA2, n2, .inl f2))]) (wr := [(h1, .inl (cA1, n1, .inl f1)), (h3, .inl (cA3, n3, .inl f3))]) [0, 2] [1, 3] (va_runV (As := [.int x1]) (rest := [.int (48 : Int32), .ref h0]) ⟨hx, hb, hml, hown, ht⟩ (m_M_digit l dC dI hv) ⟨(callB_of 1 ht (zG_in zi_M_digit) rfl rfl rfl (ht _ zw_122) (ht _ zw_1546) zh_M_digit ⟨Nat.le_of_ble_eq_true rfl, Nat.le_of_ble_eq_true rfl⟩), (ht _ zw_1548), (ht _ zw_87)⟩ ⟨zPc_blind, va_recv hK hP (ci := 12) (q0 := 0) rfl rfl, zPc_pre hP hK hD hS hA hE [0, 2] [1] rfl rfl (by decide) rfl⟩ rfl rfl hl.1 rfl (lv_room (Nat.le_of_ble_eq_true rfl)) d_M_general_236 ⟨Nat.le_of_ble_eq_true rfl, Nat.le_of_ble_eq_true rfl⟩) hP hD hS hA rfl rfl (by decide) (by decide) (fun r u H locs hv hP hD hS => ?_)
      have hP : va_P (dC, dI) zCl [(h0, .inr (12, o_M I0 J0 a0_2 a0_4 a0_5 a0_6 a0_7 a0_8 a0_9 a0_10 a0_11 a0_22 h1 h2 a0_31 a0_32 h3)), (h1, .inl (cA1, n1, .inl f1)), (h2, .inl (cA2, n2, .inl f2)), (h3, .inl (cA3, n3, .inl f3))] H := hP.sub [2, 0, 3, 1] rfl
      have hD : va_D A [(h0, .inr (12, o_M I0 J0 a0_2 a0_4 a0_5 a0_6 a0_7 a0_8 a0_9 a0_10 a0_11 a0_22 h1 h2 a0_31 a0_32 h3)), (h1, .inl (cA1, n1, .inl f1)), (h2, .inl (cA2, n2, .inl f2)), (h3, .inl (cA3, n3, .inl f3))] := hD.sub [2, 0, 3, 1] (by decide) rfl
      exact b_M_general_239 hc hA hE hk218 (lv_sub hl [0, 1] rfl) hK hP hD hS hv
set_option maxHeartbeats 4000000 in
set_option maxRecDepth 100000 in
theorem b_M_general_216 {h0 : Nat} {a0_2 : Nat} {a0_4 : Nat} {a0_5 : Nat} {a0_6 : Nat} {a0_7 : Nat} {a0_8 : Nat} {a0_9 : Nat} {a0_10 : Nat} {a0_11 : Nat} {a0_22 : Nat} {a0_31 : Nat} {a0_32 : Nat} {h1 : Nat} {cA1 : ClassId} {h2 : Nat} {cA2 : ClassId} {h3 : Nat} {cA3 : ClassId} {I0 : Nat → Int32} {J0 : Nat → Int64} {n1 : Nat} {f1 : Nat → Int32} {n2 : Nat} {f2 : Nat → Int32} {n3 : Nat} {f3 : Nat → Int32}  {Z : (Nat → Int32) × (Nat → Int32) × (Nat → Int32) → Prop} {H : Heap} {locs : List Loc} {ls : Array Slot} (hc : zC p s m args meth c prog_14_method_40_code none 2 "NumberDressModel") (hA : ∀ q : Nat, s.heap.size ≤ q → A q) (hE : zE gE A s) (hl : lv_has ls 2 [(0, .ref h0)]) (hK : va_K (dC, dI) zCl [(cA1, .int), (cA2, .int), (cA3, .int)] s) (hP : va_P (dC, dI) zCl [(h0, .inr (12, o_M I0 J0 a0_2 a0_4 a0_5 a0_6 a0_7 a0_8 a0_9 a0_10 a0_11 a0_22 h1 h2 a0_31 a0_32 h3)), (h1, .inl (cA1, n1, .inl f1)), (h2, .inl (cA2, n2, .inl f2)), (h3, .inl (cA3, n3, .inl f3))] H) (hD : va_D A [(h0, .inr (12, o_M I0 J0 a0_2 a0_4 a0_5 a0_6 a0_7 a0_8 a0_9 a0_10 a0_11 a0_22 h1 h2 a0_31 a0_32 h3)), (h1, .inl (cA1, n1, .inl f1)), (h2, .inl (cA2, n2, .inl f2)), (h3, .inl (cA3, n3, .inl f3))]) (hS : va_S A s.heap H locs) (hv : v_M_general_216 I0 J0 n1 f1 n2 f2 n3 f3  Z) : W p l e (headSpec (Cond.code (⟨"NumberDressModel", "general", "()V"⟩ : MethodName) prog_14_method_40_code 2 none :: zT) { frames := 2, cells := 0, slots := 0, locals := 47 }).room s m args below meth c H locs 0 0 (MQ below (va_Qv Z (zB (dC, dI) zCl [(cA1, .int), (cA2, .int), (cA3, .int)] A (fun u : (Nat → Int32) × (Nat → Int32) × (Nat → Int32) => [(h0, .inr (12, o_M u.1 J0 a0_2 a0_4 a0_5 a0_6 a0_7 a0_8 a0_9 a0_10 a0_11 a0_22 h1 h2 a0_31 a0_32 h3)), (h1, .inl (cA1, n1, .inl f1)), (h2, .inl (cA2, n2, .inl u.2.1)), (h3, .inl (cA3, n3, .inl u.2.2))])) A) args s 0 0 A) (F0 m 216 ls []) := by
  obtain ⟨hx, hb, hr, hml, hown, ht, hlocks⟩ := id hc
  unfold v_M_general_216 at hv
  refine lv_iconst (v := (-1 : Int32)) hx hb d_M_general_216 (by decide) ?_
  refine lv_istore_n (lv' := [(1, .int (-1 : Int32)), (0, .ref h0)]) hx hb d_M_general_217 rfl hl (by decide) rfl (fun ls hl => ?_)
  obtain ⟨Nx, hv⟩ := hv
  exact b_M_general_218 hc hA hE  Nx I0 f3 (-1 : Int32) _ _ _ (lv_sub hl [1, 0] rfl) hK hP hD hS hv
set_option maxHeartbeats 4000000 in
set_option maxRecDepth 100000 in
theorem b_M_general_177 {h0 : Nat} {a0_2 : Nat} {a0_4 : Nat} {a0_5 : Nat} {a0_6 : Nat} {a0_7 : Nat} {a0_8 : Nat} {a0_9 : Nat} {a0_10 : Nat} {a0_11 : Nat} {a0_22 : Nat} {a0_31 : Nat} {a0_32 : Nat} {h1 : Nat} {cA1 : ClassId} {h2 : Nat} {cA2 : ClassId} {h3 : Nat} {cA3 : ClassId} {J0 : Nat → Int64} {n1 : Nat} {f1 : Nat → Int32} {n2 : Nat} {f2 : Nat → Int32} {n3 : Nat}  {Z : (Nat → Int32) × (Nat → Int32) × (Nat → Int32) → Prop} (hc : zC p s m args meth c prog_14_method_40_code none 2 "NumberDressModel") (hA : ∀ q : Nat, s.heap.size ≤ q → A q) (hE : zE gE A s) : ∀ (N : Nat) (I0 : Nat → Int32) (f3 : Nat → Int32) (x1 : Int32) (H : Heap) (locs : List Loc) (ls : Array Slot), lv_has ls 2 [(0, .ref h0), (1, .int x1)] → va_K (dC, dI) zCl [(cA1, .int), (cA2, .int), (cA3, .int)] s → va_P (dC, dI) zCl [(h0, .inr (12, o_M I0 J0 a0_2 a0_4 a0_5 a0_6 a0_7 a0_8 a0_9 a0_10 a0_11 a0_22 h1 h2 a0_31 a0_32 h3)), (h1, .inl (cA1, n1, .inl f1)), (h2, .inl (cA2, n2, .inl f2)), (h3, .inl (cA3, n3, .inl f3))] H → va_D A [(h0, .inr (12, o_M I0 J0 a0_2 a0_4 a0_5 a0_6 a0_7 a0_8 a0_9 a0_10 a0_11 a0_22 h1 h2 a0_31 a0_32 h3)), (h1, .inl (cA1, n1, .inl f1)), (h2, .inl (cA2, n2, .inl f2)), (h3, .inl (cA3, n3, .inl f3))] → va_S A s.heap H locs → v_M_general_177 J0 n1 f1 n2 f2 n3  Z N I0 f3 x1 → W p l e (headSpec (Cond.code (⟨"NumberDressModel", "general", "()V"⟩ : MethodName) prog_14_method_40_code 2 none :: zT) { frames := 2, cells := 0, slots := 0, locals := 47 }).room s m args below meth c H locs 0 0 (MQ below (va_Qv Z (zB (dC, dI) zCl [(cA1, .int), (cA2, .int), (cA3, .int)] A (fun u : (Nat → Int32) × (Nat → Int32) × (Nat → Int32) => [(h0, .inr (12, o_M u.1 J0 a0_2 a0_4 a0_5 a0_6 a0_7 a0_8 a0_9 a0_10 a0_11 a0_22 h1 h2 a0_31 a0_32 h3)), (h1, .inl (cA1, n1, .inl f1)), (h2, .inl (cA2, n2, .inl u.2.1)), (h3, .inl (cA3, n3, .inl u.2.2))])) A) args s 0 0 A) (F0 m 177 ls []) := by
  obtain ⟨hx, hb, hr, hml, hown, ht, hlocks⟩ := id hc
  intro N
  induction N with
  | zero => intro I0 f3 x1 H locs ls hl hK hP hD hS hv; exact hv.elim
  | succ N hk177 =>
    intro I0 f3 x1 H locs ls hl hK hP hD hS hv
    unfold v_M_general_177 at hv
    refine lv_iload_n hx hb d_M_general_177 rfl (lv_at hl 1 rfl) ?_
    refine lv_if_lt (tgt := 199) hx hb d_M_general_178 (by decide) (fun c_1 => ?_) (fun c_1 => ?_)
    · have hv := hv.1 c_1
      refine lv_aload_n hx hb d_M_general_199 rfl (lv_at hl 0 rfl) ?_
      refine va_get (D := (dC, dI)) (ci := 12) (v := .int (I0 27)) (C := "NumberDressModel") (T := T_M) (N := 41) hx hb ht zin_M hown hK hP 0 rfl rfl 27 (by decide) (ht _ zw_1288) (fun _ h9 => h9) rfl d_M_general_200 ?_
      refine lv_aload_n hx hb d_M_general_203 rfl (lv_at hl 0 rfl) ?_
      refine va_get (D := (dC, dI)) (ci := 12) (v := .int (I0 28)) (C := "NumberDressModel") (T := T_M) (N := 41) hx hb ht zin_M hown hK hP 0 rfl rfl 28 (by decide) (ht _ zw_1289) (fun _ h9 => h9) rfl d_M_general_204 ?_
      refine lv_icmp_le (tgt := 216) hx hb d_M_general_207 (by decide) (fun c_2 => ?_) (fun c_2 => ?_)
      · have hv := hv.1 c_2
        exact b_M_general_216 hc hA hE  (lv_sub hl [0] rfl) hK hP hD hS hv
      · have hv := hv.2 c_2
        refine lv_aload_n hx hb d_M_general_210 rfl (lv_at hl 0 rfl) ?_
        refine lv_bipush (v := (46 : Int32)) hx hb d_M_general_211 (by decide) ?_
        refine z_callv (wc := [(h0, .inr (12, o_M I0 J0 a0_2 a0_4 a0_5 a0_6 a0_7 a0_8 a0_9 a0_10 a0_11 a0_22 h1 h2 a0_31 a0_32 h3)), (h3, .inl (cA3, n3, .inl f3))]) (wr := [(h1, .inl (cA1, n1, .inl f1)), (h2, .inl (cA2, n2, .inl f2))]) [0, 3] [1, 2] (va_runV (As := [.int (46 : Int32)]) (rest := []) ⟨hx, hb, hml, hown, ht⟩ (m_M_put l dC dI hv) ⟨(callB_of 1 ht (zG_in zi_M_put) rfl rfl rfl (ht _ zw_122) (ht _ zw_1529) zh_M_put ⟨Nat.le_of_ble_eq_true rfl, Nat.le_of_ble_eq_true rfl⟩), (ht _ zw_1531), (ht _ zw_83)⟩ ⟨zPc_blind, va_recv hK hP (ci := 12) (q0 := 0) rfl rfl, zPc_pre hP hK hD hS hA hE [0, 3] [2] rfl rfl (by decide) rfl⟩ rfl rfl hl.1 rfl (lv_room (Nat.le_of_ble_eq_true rfl)) d_M_general_213 ⟨Nat.le_of_ble_eq_true rfl, Nat.le_of_ble_eq_true rfl⟩) hP hD hS hA rfl rfl (by decide) (by decide) (fun u H locs hv hP hD hS => ?_)
        have hP : va_P (dC, dI) zCl [(h0, .inr (12, o_M u.1 J0 a0_2 a0_4 a0_5 a0_6 a0_7 a0_8 a0_9 a0_10 a0_11 a0_22 h1 h2 a0_31 a0_32 h3)), (h1, .inl (cA1, n1, .inl f1)), (h2, .inl (cA2, n2, .inl f2)), (h3, .inl (cA3, n3, .inl u.2))] H := hP.sub [2, 0, 1, 3] rfl
        have hD : va_D A [(h0, .inr (12, o_M u.1 J0 a0_2 a0_4 a0_5 a0_6 a0_7 a0_8 a0_9 a0_10 a0_11 a0_22 h1 h2 a0_31 a0_32 h3)), (h1, .inl (cA1, n1, .inl f1)), (h2, .inl (cA2, n2, .inl f2)), (h3, .inl (cA3, n3, .inl u.2))] := hD.sub [2, 0, 1, 3] (by decide) rfl
        exact b_M_general_216 hc hA hE  (lv_sub hl [0] rfl) hK hP hD hS hv
    · have hv := hv.2 c_1
      refine lv_aload_n hx hb d_M_general_181 rfl (lv_at hl 0 rfl) ?_
      refine lv_bipush (v := (48 : Int32)) hx hb d_M_general_182 (by decide) ?_
      refine lv_aload_n hx hb d_M_general_184 rfl (lv_at hl 0 rfl) ?_
      refine lv_iload_n hx hb d_M_general_185 rfl (lv_at hl 1 rfl) ?_
      refine z_calli (wc := [(h0, .inr (12, o_M I0 J0 a0_2 a0_4 a0_5 a0_6 a0_7 a0_8 a0_9 a0_10 a0_11 a0_22 h1 h2 a0_31 a0_32 h3)), (h2, .inl (cA2, n2, .inl f2))]) (wr := [(h1, .inl (cA1, n1, .inl f1)), (h3, .inl (cA3, n3, .inl f3))]) [0, 2] [1, 3] (va_runV (As := [.int x1]) (rest := [.int (48 : Int32), .ref h0]) ⟨hx, hb, hml, hown, ht⟩ (m_M_digit l dC dI hv) ⟨(callB_of 1 ht (zG_in zi_M_digit) rfl rfl rfl (ht _ zw_122) (ht _ zw_1546) zh_M_digit ⟨Nat.le_of_ble_eq_true rfl, Nat.le_of_ble_eq_true rfl⟩), (ht _ zw_1548), (ht _ zw_87)⟩ ⟨zPc_blind, va_recv hK hP (ci := 12) (q0 := 0) rfl rfl, zPc_pre hP hK hD hS hA hE [0, 2] [1] rfl rfl (by decide) rfl⟩ rfl rfl hl.1 rfl (lv_room (Nat.le_of_ble_eq_true rfl)) d_M_general_186 ⟨Nat.le_of_ble_eq_true rfl, Nat.le_of_ble_eq_true rfl⟩) hP hD hS hA rfl rfl (by decide) (by decide) (fun r u H locs hv hP hD hS => ?_)
      have hP : va_P (dC, dI) zCl [(h0, .inr (12, o_M I0 J0 a0_2 a0_4 a0_5 a0_6 a0_7 a0_8 a0_9 a0_10 a0_11 a0_22 h1 h2 a0_31 a0_32 h3)), (h1, .inl (cA1, n1, .inl f1)), (h2, .inl (cA2, n2, .inl f2)), (h3, .inl (cA3, n3, .inl f3))] H := hP.sub [2, 0, 3, 1] rfl
      have hD : va_D A [(h0, .inr (12, o_M I0 J0 a0_2 a0_4 a0_5 a0_6 a0_7 a0_8 a0_9 a0_10 a0_11 a0_22 h1 h2 a0_31 a0_32 h3)), (h1, .inl (cA1, n1, .inl f1)), (h2, .inl (cA2, n2, .inl f2)), (h3, .inl (cA3, n3, .inl f3))] := hD.sub [2, 0, 3, 1] (by decide) rfl
      exact b_M_general_189 hc hA hE hk177 (lv_sub hl [0, 1] rfl) hK hP hD hS hv
set_option maxHeartbeats 4000000 in
set_option maxRecDepth 100000 in
theorem b_M_general_170 {h0 : Nat} {a0_2 : Nat} {a0_4 : Nat} {a0_5 : Nat} {a0_6 : Nat} {a0_7 : Nat} {a0_8 : Nat} {a0_9 : Nat} {a0_10 : Nat} {a0_11 : Nat} {a0_22 : Nat} {a0_31 : Nat} {a0_32 : Nat} {h1 : Nat} {cA1 : ClassId} {h2 : Nat} {cA2 : ClassId} {h3 : Nat} {cA3 : ClassId} {I0 : Nat → Int32} {J0 : Nat → Int64} {n1 : Nat} {f1 : Nat → Int32} {n2 : Nat} {f2 : Nat → Int32} {n3 : Nat} {f3 : Nat → Int32}  {Z : (Nat → Int32) × (Nat → Int32) × (Nat → Int32) → Prop} {H : Heap} {locs : List Loc} {ls : Array Slot} (hc : zC p s m args meth c prog_14_method_40_code none 2 "NumberDressModel") (hA : ∀ q : Nat, s.heap.size ≤ q → A q) (hE : zE gE A s) (hl : lv_has ls 2 [(0, .ref h0)]) (hK : va_K (dC, dI) zCl [(cA1, .int), (cA2, .int), (cA3, .int)] s) (hP : va_P (dC, dI) zCl [(h0, .inr (12, o_M I0 J0 a0_2 a0_4 a0_5 a0_6 a0_7 a0_8 a0_9 a0_10 a0_11 a0_22 h1 h2 a0_31 a0_32 h3)), (h1, .inl (cA1, n1, .inl f1)), (h2, .inl (cA2, n2, .inl f2)), (h3, .inl (cA3, n3, .inl f3))] H) (hD : va_D A [(h0, .inr (12, o_M I0 J0 a0_2 a0_4 a0_5 a0_6 a0_7 a0_8 a0_9 a0_10 a0_11 a0_22 h1 h2 a0_31 a0_32 h3)), (h1, .inl (cA1, n1, .inl f1)), (h2, .inl (cA2, n2, .inl f2)), (h3, .inl (cA3, n3, .inl f3))]) (hS : va_S A s.heap H locs) (hv : v_M_general_170 I0 J0 n1 f1 n2 f2 n3 f3  Z) : W p l e (headSpec (Cond.code (⟨"NumberDressModel", "general", "()V"⟩ : MethodName) prog_14_method_40_code 2 none :: zT) { frames := 2, cells := 0, slots := 0, locals := 47 }).room s m args below meth c H locs 0 0 (MQ below (va_Qv Z (zB (dC, dI) zCl [(cA1, .int), (cA2, .int), (cA3, .int)] A (fun u : (Nat → Int32) × (Nat → Int32) × (Nat → Int32) => [(h0, .inr (12, o_M u.1 J0 a0_2 a0_4 a0_5 a0_6 a0_7 a0_8 a0_9 a0_10 a0_11 a0_22 h1 h2 a0_31 a0_32 h3)), (h1, .inl (cA1, n1, .inl f1)), (h2, .inl (cA2, n2, .inl u.2.1)), (h3, .inl (cA3, n3, .inl u.2.2))])) A) args s 0 0 A) (F0 m 170 ls []) := by
  obtain ⟨hx, hb, hr, hml, hown, ht, hlocks⟩ := id hc
  unfold v_M_general_170 at hv
  refine lv_aload_n hx hb d_M_general_170 rfl (lv_at hl 0 rfl) ?_
  refine va_get (D := (dC, dI)) (ci := 12) (v := .int (I0 28)) (C := "NumberDressModel") (T := T_M) (N := 41) hx hb ht zin_M hown hK hP 0 rfl rfl 28 (by decide) (ht _ zw_1289) (fun _ h9 => h9) rfl d_M_general_171 ?_
  refine lv_iconst (v := (1 : Int32)) hx hb d_M_general_174 (by decide) ?_
  refine lv_isub hx hb d_M_general_175 ?_
  refine lv_istore_n (lv' := [(1, .int ((I0 28) - (1 : Int32))), (0, .ref h0)]) hx hb d_M_general_176 rfl hl (by decide) rfl (fun ls hl => ?_)
  obtain ⟨Nx, hv⟩ := hv
  exact b_M_general_177 hc hA hE  Nx I0 f3 ((I0 28) - (1 : Int32)) _ _ _ (lv_sub hl [1, 0] rfl) hK hP hD hS hv
set_option maxHeartbeats 4000000 in
set_option maxRecDepth 100000 in
theorem b_M_general_100 {h0 : Nat} {a0_2 : Nat} {a0_4 : Nat} {a0_5 : Nat} {a0_6 : Nat} {a0_7 : Nat} {a0_8 : Nat} {a0_9 : Nat} {a0_10 : Nat} {a0_11 : Nat} {a0_22 : Nat} {a0_31 : Nat} {a0_32 : Nat} {h1 : Nat} {cA1 : ClassId} {h2 : Nat} {cA2 : ClassId} {h3 : Nat} {cA3 : ClassId} {I0 : Nat → Int32} {J0 : Nat → Int64} {n1 : Nat} {f1 : Nat → Int32} {n2 : Nat} {f2 : Nat → Int32} {n3 : Nat} {f3 : Nat → Int32} {x1 : Int32} {k79 : (Nat → Int32) → (Nat → Int32) → Int32 → Prop} {Z : (Nat → Int32) × (Nat → Int32) × (Nat → Int32) → Prop} {H : Heap} {locs : List Loc} {ls : Array Slot} (hc : zC p s m args meth c prog_14_method_40_code none 2 "NumberDressModel") (hA : ∀ q : Nat, s.heap.size ≤ q → A q) (hE : zE gE A s) (hk79 : ∀ (I0 : Nat → Int32) (f3 : Nat → Int32) (x1 : Int32) (H : Heap) (locs : List Loc) (ls : Array Slot), lv_has ls 2 [(0, .ref h0), (1, .int x1)] → va_K (dC, dI) zCl [(cA1, .int), (cA2, .int), (cA3, .int)] s → va_P (dC, dI) zCl [(h0, .inr (12, o_M I0 J0 a0_2 a0_4 a0_5 a0_6 a0_7 a0_8 a0_9 a0_10 a0_11 a0_22 h1 h2 a0_31 a0_32 h3)), (h1, .inl (cA1, n1, .inl f1)), (h2, .inl (cA2, n2, .inl f2)), (h3, .inl (cA3, n3, .inl f3))] H → va_D A [(h0, .inr (12, o_M I0 J0 a0_2 a0_4 a0_5 a0_6 a0_7 a0_8 a0_9 a0_10 a0_11 a0_22 h1 h2 a0_31 a0_32 h3)), (h1, .inl (cA1, n1, .inl f1)), (h2, .inl (cA2, n2, .inl f2)), (h3, .inl (cA3, n3, .inl f3))] → va_S A s.heap H locs → k79 I0 f3 x1 → W p l e (headSpec (Cond.code (⟨"NumberDressModel", "general", "()V"⟩ : MethodName) prog_14_method_40_code 2 none :: zT) { frames := 2, cells := 0, slots := 0, locals := 47 }).room s m args below meth c H locs 0 0 (MQ below (va_Qv Z (zB (dC, dI) zCl [(cA1, .int), (cA2, .int), (cA3, .int)] A (fun u : (Nat → Int32) × (Nat → Int32) × (Nat → Int32) => [(h0, .inr (12, o_M u.1 J0 a0_2 a0_4 a0_5 a0_6 a0_7 a0_8 a0_9 a0_10 a0_11 a0_22 h1 h2 a0_31 a0_32 h3)), (h1, .inl (cA1, n1, .inl f1)), (h2, .inl (cA2, n2, .inl u.2.1)), (h3, .inl (cA3, n3, .inl u.2.2))])) A) args s 0 0 A) (F0 m 79 ls [])) (hl : lv_has ls 2 [(0, .ref h0), (1, .int x1)]) (hK : va_K (dC, dI) zCl [(cA1, .int), (cA2, .int), (cA3, .int)] s) (hP : va_P (dC, dI) zCl [(h0, .inr (12, o_M I0 J0 a0_2 a0_4 a0_5 a0_6 a0_7 a0_8 a0_9 a0_10 a0_11 a0_22 h1 h2 a0_31 a0_32 h3)), (h1, .inl (cA1, n1, .inl f1)), (h2, .inl (cA2, n2, .inl f2)), (h3, .inl (cA3, n3, .inl f3))] H) (hD : va_D A [(h0, .inr (12, o_M I0 J0 a0_2 a0_4 a0_5 a0_6 a0_7 a0_8 a0_9 a0_10 a0_11 a0_22 h1 h2 a0_31 a0_32 h3)), (h1, .inl (cA1, n1, .inl f1)), (h2, .inl (cA2, n2, .inl f2)), (h3, .inl (cA3, n3, .inl f3))]) (hS : va_S A s.heap H locs) (hv : v_M_general_100 I0 J0 n1 f1 n2 f2 n3 f3 x1 k79 Z) : W p l e (headSpec (Cond.code (⟨"NumberDressModel", "general", "()V"⟩ : MethodName) prog_14_method_40_code 2 none :: zT) { frames := 2, cells := 0, slots := 0, locals := 47 }).room s m args below meth c H locs 0 0 (MQ below (va_Qv Z (zB (dC, dI) zCl [(cA1, .int), (cA2, .int), (cA3, .int)] A (fun u : (Nat → Int32) × (Nat → Int32) × (Nat → Int32) => [(h0, .inr (12, o_M u.1 J0 a0_2 a0_4 a0_5 a0_6 a0_7 a0_8 a0_9 a0_10 a0_11 a0_22 h1 h2 a0_31 a0_32 h3)), (h1, .inl (cA1, n1, .inl f1)), (h2, .inl (cA2, n2, .inl u.2.1)), (h3, .inl (cA3, n3, .inl u.2.2))])) A) args s 0 0 A) (F0 m 100 ls []) := by
  obtain ⟨hx, hb, hr, hml, hown, ht, hlocks⟩ := id hc
  unfold v_M_general_100 at hv
  refine lv_iinc (v := (x1 + (1 : Int32))) (lv' := [(1, .int (x1 + (1 : Int32))), (0, .ref h0)]) hx hb d_M_general_100 hl (k := 1) rfl rfl (by decide) rfl (fun ls hl => ?_)
  refine lv_goto (tgt := 79) hx hb d_M_general_103 (by decide) ?_
  exact hk79 I0 f3 (x1 + (1 : Int32)) _ _ _ (lv_sub hl [1, 0] rfl) hK hP hD hS hv
set_option maxHeartbeats 4000000 in
set_option maxRecDepth 100000 in
theorem b_M_general_156 {h0 : Nat} {a0_2 : Nat} {a0_4 : Nat} {a0_5 : Nat} {a0_6 : Nat} {a0_7 : Nat} {a0_8 : Nat} {a0_9 : Nat} {a0_10 : Nat} {a0_11 : Nat} {a0_22 : Nat} {a0_31 : Nat} {a0_32 : Nat} {h1 : Nat} {cA1 : ClassId} {h2 : Nat} {cA2 : ClassId} {h3 : Nat} {cA3 : ClassId} {I0 : Nat → Int32} {J0 : Nat → Int64} {n1 : Nat} {f1 : Nat → Int32} {n2 : Nat} {f2 : Nat → Int32} {n3 : Nat} {f3 : Nat → Int32}  {Z : (Nat → Int32) × (Nat → Int32) × (Nat → Int32) → Prop} {H : Heap} {locs : List Loc} {ls : Array Slot} (hc : zC p s m args meth c prog_14_method_40_code none 2 "NumberDressModel") (hA : ∀ q : Nat, s.heap.size ≤ q → A q) (hE : zE gE A s) (hl : lv_has ls 2 []) (hK : va_K (dC, dI) zCl [(cA1, .int), (cA2, .int), (cA3, .int)] s) (hP : va_P (dC, dI) zCl [(h0, .inr (12, o_M I0 J0 a0_2 a0_4 a0_5 a0_6 a0_7 a0_8 a0_9 a0_10 a0_11 a0_22 h1 h2 a0_31 a0_32 h3)), (h1, .inl (cA1, n1, .inl f1)), (h2, .inl (cA2, n2, .inl f2)), (h3, .inl (cA3, n3, .inl f3))] H) (hD : va_D A [(h0, .inr (12, o_M I0 J0 a0_2 a0_4 a0_5 a0_6 a0_7 a0_8 a0_9 a0_10 a0_11 a0_22 h1 h2 a0_31 a0_32 h3)), (h1, .inl (cA1, n1, .inl f1)), (h2, .inl (cA2, n2, .inl f2)), (h3, .inl (cA3, n3, .inl f3))]) (hS : va_S A s.heap H locs) (hv : v_M_general_156 I0 J0 n1 f1 n2 f2 n3 f3  Z) : W p l e (headSpec (Cond.code (⟨"NumberDressModel", "general", "()V"⟩ : MethodName) prog_14_method_40_code 2 none :: zT) { frames := 2, cells := 0, slots := 0, locals := 47 }).room s m args below meth c H locs 0 0 (MQ below (va_Qv Z (zB (dC, dI) zCl [(cA1, .int), (cA2, .int), (cA3, .int)] A (fun u : (Nat → Int32) × (Nat → Int32) × (Nat → Int32) => [(h0, .inr (12, o_M u.1 J0 a0_2 a0_4 a0_5 a0_6 a0_7 a0_8 a0_9 a0_10 a0_11 a0_22 h1 h2 a0_31 a0_32 h3)), (h1, .inl (cA1, n1, .inl f1)), (h2, .inl (cA2, n2, .inl u.2.1)), (h3, .inl (cA3, n3, .inl u.2.2))])) A) args s 0 0 A) (F0 m 156 ls []) := by
  obtain ⟨hx, hb, hr, hml, hown, ht, hlocks⟩ := id hc
  unfold v_M_general_156 at hv
  exact W.vret hx hb hr (fun t ht hW => ⟨⟨(I0, f2, f3), rfl, hv, ⟨by rw [ht]; exact hP, va_K.moved hW.alike hK, hD⟩⟩, hS.F ht⟩) hS.2.2 d_M_general_156
set_option maxHeartbeats 4000000 in
set_option maxRecDepth 100000 in
theorem b_M_general_152 {h0 : Nat} {a0_2 : Nat} {a0_4 : Nat} {a0_5 : Nat} {a0_6 : Nat} {a0_7 : Nat} {a0_8 : Nat} {a0_9 : Nat} {a0_10 : Nat} {a0_11 : Nat} {a0_22 : Nat} {a0_31 : Nat} {a0_32 : Nat} {h1 : Nat} {cA1 : ClassId} {h2 : Nat} {cA2 : ClassId} {h3 : Nat} {cA3 : ClassId} {I0 : Nat → Int32} {J0 : Nat → Int64} {n1 : Nat} {f1 : Nat → Int32} {n2 : Nat} {f2 : Nat → Int32} {n3 : Nat} {f3 : Nat → Int32} {s1 : Int64}  {Z : (Nat → Int32) × (Nat → Int32) × (Nat → Int32) → Prop} {H : Heap} {locs : List Loc} {ls : Array Slot} (hc : zC p s m args meth c prog_14_method_40_code none 2 "NumberDressModel") (hA : ∀ q : Nat, s.heap.size ≤ q → A q) (hE : zE gE A s) (hl : lv_has ls 2 []) (hK : va_K (dC, dI) zCl [(cA1, .int), (cA2, .int), (cA3, .int)] s) (hP : va_P (dC, dI) zCl [(h0, .inr (12, o_M I0 J0 a0_2 a0_4 a0_5 a0_6 a0_7 a0_8 a0_9 a0_10 a0_11 a0_22 h1 h2 a0_31 a0_32 h3)), (h1, .inl (cA1, n1, .inl f1)), (h2, .inl (cA2, n2, .inl f2)), (h3, .inl (cA3, n3, .inl f3))] H) (hD : va_D A [(h0, .inr (12, o_M I0 J0 a0_2 a0_4 a0_5 a0_6 a0_7 a0_8 a0_9 a0_10 a0_11 a0_22 h1 h2 a0_31 a0_32 h3)), (h1, .inl (cA1, n1, .inl f1)), (h2, .inl (cA2, n2, .inl f2)), (h3, .inl (cA3, n3, .inl f3))]) (hS : va_S A s.heap H locs) (hv : v_M_general_152 I0 J0 n1 f1 n2 f2 n3 f3 s1  Z) : W p l e (headSpec (Cond.code (⟨"NumberDressModel", "general", "()V"⟩ : MethodName) prog_14_method_40_code 2 none :: zT) { frames := 2, cells := 0, slots := 0, locals := 47 }).room s m args below meth c H locs 0 0 (MQ below (va_Qv Z (zB (dC, dI) zCl [(cA1, .int), (cA2, .int), (cA3, .int)] A (fun u : (Nat → Int32) × (Nat → Int32) × (Nat → Int32) => [(h0, .inr (12, o_M u.1 J0 a0_2 a0_4 a0_5 a0_6 a0_7 a0_8 a0_9 a0_10 a0_11 a0_22 h1 h2 a0_31 a0_32 h3)), (h1, .inl (cA1, n1, .inl f1)), (h2, .inl (cA2, n2, .inl u.2.1)), (h3, .inl (cA3, n3, .inl u.2.2))])) A) args s 0 0 A) (F0 m 152 ls [.long s1, .ref h0]) := by
  obtain ⟨hx, hb, hr, hml, hown, ht, hlocks⟩ := id hc
  unfold v_M_general_152 at hv
  refine lv_iconst (v := (1 : Int32)) hx hb d_M_general_152 (by decide) ?_
  refine z_callv (wc := [(h0, .inr (12, o_M I0 J0 a0_2 a0_4 a0_5 a0_6 a0_7 a0_8 a0_9 a0_10 a0_11 a0_22 h1 h2 a0_31 a0_32 h3)), (h3, .inl (cA3, n3, .inl f3))]) (wr := [(h1, .inl (cA1, n1, .inl f1)), (h2, .inl (cA2, n2, .inl f2))]) [0, 3] [1, 2] (va_runV (As := [.long s1, .int (1 : Int32)]) (rest := []) ⟨hx, hb, hml, hown, ht⟩ (m_M_figures l dC dI hv) ⟨(callB_of 2 ht (zG_in zi_M_figures) rfl rfl rfl (ht _ zw_122) (ht _ zw_1541) zh_M_figures ⟨Nat.le_of_ble_eq_true rfl, Nat.le_of_ble_eq_true rfl⟩), (ht _ zw_1543), (ht _ zw_86)⟩ ⟨zPc_blind, va_recv hK hP (ci := 12) (q0 := 0) rfl rfl, zPc_pre hP hK hD hS hA hE [0, 3] [2] rfl rfl (by decide) rfl⟩ rfl rfl hl.1 rfl (lv_room (Nat.le_of_ble_eq_true rfl)) d_M_general_153 ⟨Nat.le_of_ble_eq_true rfl, Nat.le_of_ble_eq_true rfl⟩) hP hD hS hA rfl rfl (by decide) (by decide) (fun u H locs hv hP hD hS => ?_)
  have hP : va_P (dC, dI) zCl [(h0, .inr (12, o_M u.1 J0 a0_2 a0_4 a0_5 a0_6 a0_7 a0_8 a0_9 a0_10 a0_11 a0_22 h1 h2 a0_31 a0_32 h3)), (h1, .inl (cA1, n1, .inl f1)), (h2, .inl (cA2, n2, .inl f2)), (h3, .inl (cA3, n3, .inl u.2))] H := hP.sub [2, 0, 1, 3] rfl
  have hD : va_D A [(h0, .inr (12, o_M u.1 J0 a0_2 a0_4 a0_5 a0_6 a0_7 a0_8 a0_9 a0_10 a0_11 a0_22 h1 h2 a0_31 a0_32 h3)), (h1, .inl (cA1, n1, .inl f1)), (h2, .inl (cA2, n2, .inl f2)), (h3, .inl (cA3, n3, .inl u.2))] := hD.sub [2, 0, 1, 3] (by decide) rfl
  exact b_M_general_156 hc hA hE  (lv_sub hl [] rfl) hK hP hD hS hv
set_option maxHeartbeats 4000000 in
set_option maxRecDepth 100000 in
theorem b_M_general_126 {h0 : Nat} {a0_2 : Nat} {a0_4 : Nat} {a0_5 : Nat} {a0_6 : Nat} {a0_7 : Nat} {a0_8 : Nat} {a0_9 : Nat} {a0_10 : Nat} {a0_11 : Nat} {a0_22 : Nat} {a0_31 : Nat} {a0_32 : Nat} {h1 : Nat} {cA1 : ClassId} {h2 : Nat} {cA2 : ClassId} {h3 : Nat} {cA3 : ClassId} {I0 : Nat → Int32} {J0 : Nat → Int64} {n1 : Nat} {f1 : Nat → Int32} {n2 : Nat} {f2 : Nat → Int32} {n3 : Nat} {f3 : Nat → Int32}  {Z : (Nat → Int32) × (Nat → Int32) × (Nat → Int32) → Prop} {H : Heap} {locs : List Loc} {ls : Array Slot} (hc : zC p s m args meth c prog_14_method_40_code none 2 "NumberDressModel") (hA : ∀ q : Nat, s.heap.size ≤ q → A q) (hE : zE gE A s) (hl : lv_has ls 2 [(0, .ref h0)]) (hK : va_K (dC, dI) zCl [(cA1, .int), (cA2, .int), (cA3, .int)] s) (hP : va_P (dC, dI) zCl [(h0, .inr (12, o_M I0 J0 a0_2 a0_4 a0_5 a0_6 a0_7 a0_8 a0_9 a0_10 a0_11 a0_22 h1 h2 a0_31 a0_32 h3)), (h1, .inl (cA1, n1, .inl f1)), (h2, .inl (cA2, n2, .inl f2)), (h3, .inl (cA3, n3, .inl f3))] H) (hD : va_D A [(h0, .inr (12, o_M I0 J0 a0_2 a0_4 a0_5 a0_6 a0_7 a0_8 a0_9 a0_10 a0_11 a0_22 h1 h2 a0_31 a0_32 h3)), (h1, .inl (cA1, n1, .inl f1)), (h2, .inl (cA2, n2, .inl f2)), (h3, .inl (cA3, n3, .inl f3))]) (hS : va_S A s.heap H locs) (hv : v_M_general_126 I0 J0 n1 f1 n2 f2 n3 f3  Z) : W p l e (headSpec (Cond.code (⟨"NumberDressModel", "general", "()V"⟩ : MethodName) prog_14_method_40_code 2 none :: zT) { frames := 2, cells := 0, slots := 0, locals := 47 }).room s m args below meth c H locs 0 0 (MQ below (va_Qv Z (zB (dC, dI) zCl [(cA1, .int), (cA2, .int), (cA3, .int)] A (fun u : (Nat → Int32) × (Nat → Int32) × (Nat → Int32) => [(h0, .inr (12, o_M u.1 J0 a0_2 a0_4 a0_5 a0_6 a0_7 a0_8 a0_9 a0_10 a0_11 a0_22 h1 h2 a0_31 a0_32 h3)), (h1, .inl (cA1, n1, .inl f1)), (h2, .inl (cA2, n2, .inl u.2.1)), (h3, .inl (cA3, n3, .inl u.2.2))])) A) args s 0 0 A) (F0 m 126 ls []) := by
  obtain ⟨hx, hb, hr, hml, hown, ht, hlocks⟩ := id hc
  unfold v_M_general_126 at hv
  refine lv_aload_n hx hb d_M_general_126 rfl (lv_at hl 0 rfl) ?_
  refine lv_aload_n hx hb d_M_general_127 rfl (lv_at hl 0 rfl) ?_
  refine va_get (D := (dC, dI)) (ci := 12) (v := .int (I0 28)) (C := "NumberDressModel") (T := T_M) (N := 41) hx hb ht zin_M hown hK hP 0 rfl rfl 28 (by decide) (ht _ zw_1289) (fun _ h9 => h9) rfl d_M_general_128 ?_
  refine lv_iconst (v := (1 : Int32)) hx hb d_M_general_131 (by decide) ?_
  refine lv_icmp_ge (tgt := 145) hx hb d_M_general_132 (by decide) (fun c_1 => ?_) (fun c_1 => ?_)
  · have hv := hv.1 c_1
    refine lv_aload_n hx hb d_M_general_145 rfl (lv_at hl 0 rfl) ?_
    refine va_get (D := (dC, dI)) (ci := 12) (v := .int (I0 28)) (C := "NumberDressModel") (T := T_M) (N := 41) hx hb ht zin_M hown hK hP 0 rfl rfl 28 (by decide) (ht _ zw_1289) (fun _ h9 => h9) rfl d_M_general_146 ?_
    refine lv_iconst (v := (1 : Int32)) hx hb d_M_general_149 (by decide) ?_
    refine lv_isub hx hb d_M_general_150 ?_
    refine lv_i2l (v := ((I0 28) - (1 : Int32)).toInt64) hx hb d_M_general_151 rfl ?_
    exact b_M_general_152 hc hA hE  (lv_sub hl [] rfl) hK hP hD hS hv
  · have hv := hv.2 c_1
    refine lv_iconst (v := (1 : Int32)) hx hb d_M_general_135 (by decide) ?_
    refine lv_aload_n hx hb d_M_general_136 rfl (lv_at hl 0 rfl) ?_
    refine va_get (D := (dC, dI)) (ci := 12) (v := .int (I0 28)) (C := "NumberDressModel") (T := T_M) (N := 41) hx hb ht zin_M hown hK hP 0 rfl rfl 28 (by decide) (ht _ zw_1289) (fun _ h9 => h9) rfl d_M_general_137 ?_
    refine lv_isub hx hb d_M_general_140 ?_
    refine lv_i2l (v := ((1 : Int32) - (I0 28)).toInt64) hx hb d_M_general_141 rfl ?_
    refine lv_goto (tgt := 152) hx hb d_M_general_142 (by decide) ?_
    exact b_M_general_152 hc hA hE  (lv_sub hl [] rfl) hK hP hD hS hv
set_option maxHeartbeats 4000000 in
set_option maxRecDepth 100000 in
theorem b_M_general_112 {h0 : Nat} {a0_2 : Nat} {a0_4 : Nat} {a0_5 : Nat} {a0_6 : Nat} {a0_7 : Nat} {a0_8 : Nat} {a0_9 : Nat} {a0_10 : Nat} {a0_11 : Nat} {a0_22 : Nat} {a0_31 : Nat} {a0_32 : Nat} {h1 : Nat} {cA1 : ClassId} {h2 : Nat} {cA2 : ClassId} {h3 : Nat} {cA3 : ClassId} {I0 : Nat → Int32} {J0 : Nat → Int64} {n1 : Nat} {f1 : Nat → Int32} {n2 : Nat} {f2 : Nat → Int32} {n3 : Nat} {f3 : Nat → Int32}  {Z : (Nat → Int32) × (Nat → Int32) × (Nat → Int32) → Prop} {H : Heap} {locs : List Loc} {ls : Array Slot} (hc : zC p s m args meth c prog_14_method_40_code none 2 "NumberDressModel") (hA : ∀ q : Nat, s.heap.size ≤ q → A q) (hE : zE gE A s) (hl : lv_has ls 2 [(0, .ref h0)]) (hK : va_K (dC, dI) zCl [(cA1, .int), (cA2, .int), (cA3, .int)] s) (hP : va_P (dC, dI) zCl [(h0, .inr (12, o_M I0 J0 a0_2 a0_4 a0_5 a0_6 a0_7 a0_8 a0_9 a0_10 a0_11 a0_22 h1 h2 a0_31 a0_32 h3)), (h1, .inl (cA1, n1, .inl f1)), (h2, .inl (cA2, n2, .inl f2)), (h3, .inl (cA3, n3, .inl f3))] H) (hD : va_D A [(h0, .inr (12, o_M I0 J0 a0_2 a0_4 a0_5 a0_6 a0_7 a0_8 a0_9 a0_10 a0_11 a0_22 h1 h2 a0_31 a0_32 h3)), (h1, .inl (cA1, n1, .inl f1)), (h2, .inl (cA2, n2, .inl f2)), (h3, .inl (cA3, n3, .inl f3))]) (hS : va_S A s.heap H locs) (hv : v_M_general_112 I0 J0 n1 f1 n2 f2 n3 f3  Z) : W p l e (headSpec (Cond.code (⟨"NumberDressModel", "general", "()V"⟩ : MethodName) prog_14_method_40_code 2 none :: zT) { frames := 2, cells := 0, slots := 0, locals := 47 }).room s m args below meth c H locs 0 0 (MQ below (va_Qv Z (zB (dC, dI) zCl [(cA1, .int), (cA2, .int), (cA3, .int)] A (fun u : (Nat → Int32) × (Nat → Int32) × (Nat → Int32) => [(h0, .inr (12, o_M u.1 J0 a0_2 a0_4 a0_5 a0_6 a0_7 a0_8 a0_9 a0_10 a0_11 a0_22 h1 h2 a0_31 a0_32 h3)), (h1, .inl (cA1, n1, .inl f1)), (h2, .inl (cA2, n2, .inl u.2.1)), (h3, .inl (cA3, n3, .inl u.2.2))])) A) args s 0 0 A) (F0 m 112 ls []) := by
  obtain ⟨hx, hb, hr, hml, hown, ht, hlocks⟩ := id hc
  unfold v_M_general_112 at hv
  refine lv_aload_n hx hb d_M_general_112 rfl (lv_at hl 0 rfl) ?_
  refine va_get (D := (dC, dI)) (ci := 12) (v := .int (I0 28)) (C := "NumberDressModel") (T := T_M) (N := 41) hx hb ht zin_M hown hK hP 0 rfl rfl 28 (by decide) (ht _ zw_1289) (fun _ h9 => h9) rfl d_M_general_113 ?_
  refine lv_iconst (v := (1 : Int32)) hx hb d_M_general_116 (by decide) ?_
  refine lv_icmp_ge (tgt := 126) hx hb d_M_general_117 (by decide) (fun c_1 => ?_) (fun c_1 => ?_)
  · have hv := hv.1 c_1
    exact b_M_general_126 hc hA hE  (lv_sub hl [0] rfl) hK hP hD hS hv
  · have hv := hv.2 c_1
    refine lv_aload_n hx hb d_M_general_120 rfl (lv_at hl 0 rfl) ?_
    refine lv_bipush (v := (45 : Int32)) hx hb d_M_general_121 (by decide) ?_
    refine z_callv (wc := [(h0, .inr (12, o_M I0 J0 a0_2 a0_4 a0_5 a0_6 a0_7 a0_8 a0_9 a0_10 a0_11 a0_22 h1 h2 a0_31 a0_32 h3)), (h3, .inl (cA3, n3, .inl f3))]) (wr := [(h1, .inl (cA1, n1, .inl f1)), (h2, .inl (cA2, n2, .inl f2))]) [0, 3] [1, 2] (va_runV (As := [.int (45 : Int32)]) (rest := []) ⟨hx, hb, hml, hown, ht⟩ (m_M_put l dC dI hv) ⟨(callB_of 1 ht (zG_in zi_M_put) rfl rfl rfl (ht _ zw_122) (ht _ zw_1529) zh_M_put ⟨Nat.le_of_ble_eq_true rfl, Nat.le_of_ble_eq_true rfl⟩), (ht _ zw_1531), (ht _ zw_83)⟩ ⟨zPc_blind, va_recv hK hP (ci := 12) (q0 := 0) rfl rfl, zPc_pre hP hK hD hS hA hE [0, 3] [2] rfl rfl (by decide) rfl⟩ rfl rfl hl.1 rfl (lv_room (Nat.le_of_ble_eq_true rfl)) d_M_general_123 ⟨Nat.le_of_ble_eq_true rfl, Nat.le_of_ble_eq_true rfl⟩) hP hD hS hA rfl rfl (by decide) (by decide) (fun u H locs hv hP hD hS => ?_)
    have hP : va_P (dC, dI) zCl [(h0, .inr (12, o_M u.1 J0 a0_2 a0_4 a0_5 a0_6 a0_7 a0_8 a0_9 a0_10 a0_11 a0_22 h1 h2 a0_31 a0_32 h3)), (h1, .inl (cA1, n1, .inl f1)), (h2, .inl (cA2, n2, .inl f2)), (h3, .inl (cA3, n3, .inl u.2))] H := hP.sub [2, 0, 1, 3] rfl
    have hD : va_D A [(h0, .inr (12, o_M u.1 J0 a0_2 a0_4 a0_5 a0_6 a0_7 a0_8 a0_9 a0_10 a0_11 a0_22 h1 h2 a0_31 a0_32 h3)), (h1, .inl (cA1, n1, .inl f1)), (h2, .inl (cA2, n2, .inl f2)), (h3, .inl (cA3, n3, .inl u.2))] := hD.sub [2, 0, 1, 3] (by decide) rfl
    exact b_M_general_126 hc hA hE  (lv_sub hl [0] rfl) hK hP hD hS hv
set_option maxHeartbeats 4000000 in
set_option maxRecDepth 100000 in
theorem b_M_general_79 {h0 : Nat} {a0_2 : Nat} {a0_4 : Nat} {a0_5 : Nat} {a0_6 : Nat} {a0_7 : Nat} {a0_8 : Nat} {a0_9 : Nat} {a0_10 : Nat} {a0_11 : Nat} {a0_22 : Nat} {a0_31 : Nat} {a0_32 : Nat} {h1 : Nat} {cA1 : ClassId} {h2 : Nat} {cA2 : ClassId} {h3 : Nat} {cA3 : ClassId} {J0 : Nat → Int64} {n1 : Nat} {f1 : Nat → Int32} {n2 : Nat} {f2 : Nat → Int32} {n3 : Nat}  {Z : (Nat → Int32) × (Nat → Int32) × (Nat → Int32) → Prop} (hc : zC p s m args meth c prog_14_method_40_code none 2 "NumberDressModel") (hA : ∀ q : Nat, s.heap.size ≤ q → A q) (hE : zE gE A s) : ∀ (N : Nat) (I0 : Nat → Int32) (f3 : Nat → Int32) (x1 : Int32) (H : Heap) (locs : List Loc) (ls : Array Slot), lv_has ls 2 [(0, .ref h0), (1, .int x1)] → va_K (dC, dI) zCl [(cA1, .int), (cA2, .int), (cA3, .int)] s → va_P (dC, dI) zCl [(h0, .inr (12, o_M I0 J0 a0_2 a0_4 a0_5 a0_6 a0_7 a0_8 a0_9 a0_10 a0_11 a0_22 h1 h2 a0_31 a0_32 h3)), (h1, .inl (cA1, n1, .inl f1)), (h2, .inl (cA2, n2, .inl f2)), (h3, .inl (cA3, n3, .inl f3))] H → va_D A [(h0, .inr (12, o_M I0 J0 a0_2 a0_4 a0_5 a0_6 a0_7 a0_8 a0_9 a0_10 a0_11 a0_22 h1 h2 a0_31 a0_32 h3)), (h1, .inl (cA1, n1, .inl f1)), (h2, .inl (cA2, n2, .inl f2)), (h3, .inl (cA3, n3, .inl f3))] → va_S A s.heap H locs → v_M_general_79 J0 n1 f1 n2 f2 n3  Z N I0 f3 x1 → W p l e (headSpec (Cond.code (⟨"NumberDressModel", "general", "()V"⟩ : MethodName) prog_14_method_40_code 2 none :: zT) { frames := 2, cells := 0, slots := 0, locals := 47 }).room s m args below meth c H locs 0 0 (MQ below (va_Qv Z (zB (dC, dI) zCl [(cA1, .int), (cA2, .int), (cA3, .int)] A (fun u : (Nat → Int32) × (Nat → Int32) × (Nat → Int32) => [(h0, .inr (12, o_M u.1 J0 a0_2 a0_4 a0_5 a0_6 a0_7 a0_8 a0_9 a0_10 a0_11 a0_22 h1 h2 a0_31 a0_32 h3)), (h1, .inl (cA1, n1, .inl f1)), (h2, .inl (cA2, n2, .inl u.2.1)), (h3, .inl (cA3, n3, .inl u.2.2))])) A) args s 0 0 A) (F0 m 79 ls []) := by
  obtain ⟨hx, hb, hr, hml, hown, ht, hlocks⟩ := id hc
  intro N
  induction N with
  | zero => intro I0 f3 x1 H locs ls hl hK hP hD hS hv; exact hv.elim
  | succ N hk79 =>
    intro I0 f3 x1 H locs ls hl hK hP hD hS hv
    unfold v_M_general_79 at hv
    refine lv_iload_n hx hb d_M_general_79 rfl (lv_at hl 1 rfl) ?_
    refine lv_aload_n hx hb d_M_general_80 rfl (lv_at hl 0 rfl) ?_
    refine va_get (D := (dC, dI)) (ci := 12) (v := .int (I0 27)) (C := "NumberDressModel") (T := T_M) (N := 41) hx hb ht zin_M hown hK hP 0 rfl rfl 27 (by decide) (ht _ zw_1288) (fun _ h9 => h9) rfl d_M_general_81 ?_
    refine lv_icmp_ge (tgt := 106) hx hb d_M_general_84 (by decide) (fun c_1 => ?_) (fun c_1 => ?_)
    · have hv := hv.1 c_1
      refine lv_aload_n hx hb d_M_general_106 rfl (lv_at hl 0 rfl) ?_
      refine lv_bipush (v := (69 : Int32)) hx hb d_M_general_107 (by decide) ?_
      refine z_callv (wc := [(h0, .inr (12, o_M I0 J0 a0_2 a0_4 a0_5 a0_6 a0_7 a0_8 a0_9 a0_10 a0_11 a0_22 h1 h2 a0_31 a0_32 h3)), (h3, .inl (cA3, n3, .inl f3))]) (wr := [(h1, .inl (cA1, n1, .inl f1)), (h2, .inl (cA2, n2, .inl f2))]) [0, 3] [1, 2] (va_runV (As := [.int (69 : Int32)]) (rest := []) ⟨hx, hb, hml, hown, ht⟩ (m_M_put l dC dI hv) ⟨(callB_of 1 ht (zG_in zi_M_put) rfl rfl rfl (ht _ zw_122) (ht _ zw_1529) zh_M_put ⟨Nat.le_of_ble_eq_true rfl, Nat.le_of_ble_eq_true rfl⟩), (ht _ zw_1531), (ht _ zw_83)⟩ ⟨zPc_blind, va_recv hK hP (ci := 12) (q0 := 0) rfl rfl, zPc_pre hP hK hD hS hA hE [0, 3] [2] rfl rfl (by decide) rfl⟩ rfl rfl hl.1 rfl (lv_room (Nat.le_of_ble_eq_true rfl)) d_M_general_109 ⟨Nat.le_of_ble_eq_true rfl, Nat.le_of_ble_eq_true rfl⟩) hP hD hS hA rfl rfl (by decide) (by decide) (fun u H locs hv hP hD hS => ?_)
      have hP : va_P (dC, dI) zCl [(h0, .inr (12, o_M u.1 J0 a0_2 a0_4 a0_5 a0_6 a0_7 a0_8 a0_9 a0_10 a0_11 a0_22 h1 h2 a0_31 a0_32 h3)), (h1, .inl (cA1, n1, .inl f1)), (h2, .inl (cA2, n2, .inl f2)), (h3, .inl (cA3, n3, .inl u.2))] H := hP.sub [2, 0, 1, 3] rfl
      have hD : va_D A [(h0, .inr (12, o_M u.1 J0 a0_2 a0_4 a0_5 a0_6 a0_7 a0_8 a0_9 a0_10 a0_11 a0_22 h1 h2 a0_31 a0_32 h3)), (h1, .inl (cA1, n1, .inl f1)), (h2, .inl (cA2, n2, .inl f2)), (h3, .inl (cA3, n3, .inl u.2))] := hD.sub [2, 0, 1, 3] (by decide) rfl
      exact b_M_general_112 hc hA hE  (lv_sub hl [0] rfl) hK hP hD hS hv
    · have hv := hv.2 c_1
      refine lv_aload_n hx hb d_M_general_87 rfl (lv_at hl 0 rfl) ?_
      refine lv_bipush (v := (48 : Int32)) hx hb d_M_general_88 (by decide) ?_
      refine lv_aload_n hx hb d_M_general_90 rfl (lv_at hl 0 rfl) ?_
      refine va_get (D := (dC, dI)) (ci := 12) (v := .ref h2) (C := "NumberDressModel") (T := T_M) (N := 41) hx hb ht zin_M hown hK hP 0 rfl rfl 29 (by decide) (ht _ zw_1290) (fun _ h9 => h9) rfl d_M_general_91 ?_
      refine lv_iload_n hx hb d_M_general_94 rfl (lv_at hl 1 rfl) ?_
      obtain ⟨q_2, hv⟩ := hv
      refine va_iald hx hb hK hP 2 1 rfl rfl q_2 d_M_general_95 ?_
      refine lv_iadd hx hb d_M_general_96 ?_
      refine z_callv (wc := [(h0, .inr (12, o_M I0 J0 a0_2 a0_4 a0_5 a0_6 a0_7 a0_8 a0_9 a0_10 a0_11 a0_22 h1 h2 a0_31 a0_32 h3)), (h3, .inl (cA3, n3, .inl f3))]) (wr := [(h1, .inl (cA1, n1, .inl f1)), (h2, .inl (cA2, n2, .inl f2))]) [0, 3] [1, 2] (va_runV (As := [.int ((48 : Int32) + (f2 x1.toNatClampNeg))]) (rest := []) ⟨hx, hb, hml, hown, ht⟩ (m_M_put l dC dI hv) ⟨(callB_of 1 ht (zG_in zi_M_put) rfl rfl rfl (ht _ zw_122) (ht _ zw_1529) zh_M_put ⟨Nat.le_of_ble_eq_true rfl, Nat.le_of_ble_eq_true rfl⟩), (ht _ zw_1531), (ht _ zw_83)⟩ ⟨zPc_blind, va_recv hK hP (ci := 12) (q0 := 0) rfl rfl, zPc_pre hP hK hD hS hA hE [0, 3] [2] rfl rfl (by decide) rfl⟩ rfl rfl hl.1 rfl (lv_room (Nat.le_of_ble_eq_true rfl)) d_M_general_97 ⟨Nat.le_of_ble_eq_true rfl, Nat.le_of_ble_eq_true rfl⟩) hP hD hS hA rfl rfl (by decide) (by decide) (fun u H locs hv hP hD hS => ?_)
      have hP : va_P (dC, dI) zCl [(h0, .inr (12, o_M u.1 J0 a0_2 a0_4 a0_5 a0_6 a0_7 a0_8 a0_9 a0_10 a0_11 a0_22 h1 h2 a0_31 a0_32 h3)), (h1, .inl (cA1, n1, .inl f1)), (h2, .inl (cA2, n2, .inl f2)), (h3, .inl (cA3, n3, .inl u.2))] H := hP.sub [2, 0, 1, 3] rfl
      have hD : va_D A [(h0, .inr (12, o_M u.1 J0 a0_2 a0_4 a0_5 a0_6 a0_7 a0_8 a0_9 a0_10 a0_11 a0_22 h1 h2 a0_31 a0_32 h3)), (h1, .inl (cA1, n1, .inl f1)), (h2, .inl (cA2, n2, .inl f2)), (h3, .inl (cA3, n3, .inl u.2))] := hD.sub [2, 0, 1, 3] (by decide) rfl
      exact b_M_general_100 hc hA hE hk79 (lv_sub hl [0, 1] rfl) hK hP hD hS hv
set_option maxHeartbeats 4000000 in
set_option maxRecDepth 100000 in
theorem b_M_general_77 {h0 : Nat} {a0_2 : Nat} {a0_4 : Nat} {a0_5 : Nat} {a0_6 : Nat} {a0_7 : Nat} {a0_8 : Nat} {a0_9 : Nat} {a0_10 : Nat} {a0_11 : Nat} {a0_22 : Nat} {a0_31 : Nat} {a0_32 : Nat} {h1 : Nat} {cA1 : ClassId} {h2 : Nat} {cA2 : ClassId} {h3 : Nat} {cA3 : ClassId} {I0 : Nat → Int32} {J0 : Nat → Int64} {n1 : Nat} {f1 : Nat → Int32} {n2 : Nat} {f2 : Nat → Int32} {n3 : Nat} {f3 : Nat → Int32}  {Z : (Nat → Int32) × (Nat → Int32) × (Nat → Int32) → Prop} {H : Heap} {locs : List Loc} {ls : Array Slot} (hc : zC p s m args meth c prog_14_method_40_code none 2 "NumberDressModel") (hA : ∀ q : Nat, s.heap.size ≤ q → A q) (hE : zE gE A s) (hl : lv_has ls 2 [(0, .ref h0)]) (hK : va_K (dC, dI) zCl [(cA1, .int), (cA2, .int), (cA3, .int)] s) (hP : va_P (dC, dI) zCl [(h0, .inr (12, o_M I0 J0 a0_2 a0_4 a0_5 a0_6 a0_7 a0_8 a0_9 a0_10 a0_11 a0_22 h1 h2 a0_31 a0_32 h3)), (h1, .inl (cA1, n1, .inl f1)), (h2, .inl (cA2, n2, .inl f2)), (h3, .inl (cA3, n3, .inl f3))] H) (hD : va_D A [(h0, .inr (12, o_M I0 J0 a0_2 a0_4 a0_5 a0_6 a0_7 a0_8 a0_9 a0_10 a0_11 a0_22 h1 h2 a0_31 a0_32 h3)), (h1, .inl (cA1, n1, .inl f1)), (h2, .inl (cA2, n2, .inl f2)), (h3, .inl (cA3, n3, .inl f3))]) (hS : va_S A s.heap H locs) (hv : v_M_general_77 I0 J0 n1 f1 n2 f2 n3 f3  Z) : W p l e (headSpec (Cond.code (⟨"NumberDressModel", "general", "()V"⟩ : MethodName) prog_14_method_40_code 2 none :: zT) { frames := 2, cells := 0, slots := 0, locals := 47 }).room s m args below meth c H locs 0 0 (MQ below (va_Qv Z (zB (dC, dI) zCl [(cA1, .int), (cA2, .int), (cA3, .int)] A (fun u : (Nat → Int32) × (Nat → Int32) × (Nat → Int32) => [(h0, .inr (12, o_M u.1 J0 a0_2 a0_4 a0_5 a0_6 a0_7 a0_8 a0_9 a0_10 a0_11 a0_22 h1 h2 a0_31 a0_32 h3)), (h1, .inl (cA1, n1, .inl f1)), (h2, .inl (cA2, n2, .inl u.2.1)), (h3, .inl (cA3, n3, .inl u.2.2))])) A) args s 0 0 A) (F0 m 77 ls []) := by
  obtain ⟨hx, hb, hr, hml, hown, ht, hlocks⟩ := id hc
  unfold v_M_general_77 at hv
  refine lv_iconst (v := (1 : Int32)) hx hb d_M_general_77 (by decide) ?_
  refine lv_istore_n (lv' := [(1, .int (1 : Int32)), (0, .ref h0)]) hx hb d_M_general_78 rfl hl (by decide) rfl (fun ls hl => ?_)
  obtain ⟨Nx, hv⟩ := hv
  exact b_M_general_79 hc hA hE  Nx I0 f3 (1 : Int32) _ _ _ (lv_sub hl [1, 0] rfl) hK hP hD hS hv
set_option maxHeartbeats 4000000 in
set_option maxRecDepth 100000 in
theorem b_M_general_63 {h0 : Nat} {a0_2 : Nat} {a0_4 : Nat} {a0_5 : Nat} {a0_6 : Nat} {a0_7 : Nat} {a0_8 : Nat} {a0_9 : Nat} {a0_10 : Nat} {a0_11 : Nat} {a0_22 : Nat} {a0_31 : Nat} {a0_32 : Nat} {h1 : Nat} {cA1 : ClassId} {h2 : Nat} {cA2 : ClassId} {h3 : Nat} {cA3 : ClassId} {I0 : Nat → Int32} {J0 : Nat → Int64} {n1 : Nat} {f1 : Nat → Int32} {n2 : Nat} {f2 : Nat → Int32} {n3 : Nat} {f3 : Nat → Int32}  {Z : (Nat → Int32) × (Nat → Int32) × (Nat → Int32) → Prop} {H : Heap} {locs : List Loc} {ls : Array Slot} (hc : zC p s m args meth c prog_14_method_40_code none 2 "NumberDressModel") (hA : ∀ q : Nat, s.heap.size ≤ q → A q) (hE : zE gE A s) (hl : lv_has ls 2 [(0, .ref h0)]) (hK : va_K (dC, dI) zCl [(cA1, .int), (cA2, .int), (cA3, .int)] s) (hP : va_P (dC, dI) zCl [(h0, .inr (12, o_M I0 J0 a0_2 a0_4 a0_5 a0_6 a0_7 a0_8 a0_9 a0_10 a0_11 a0_22 h1 h2 a0_31 a0_32 h3)), (h1, .inl (cA1, n1, .inl f1)), (h2, .inl (cA2, n2, .inl f2)), (h3, .inl (cA3, n3, .inl f3))] H) (hD : va_D A [(h0, .inr (12, o_M I0 J0 a0_2 a0_4 a0_5 a0_6 a0_7 a0_8 a0_9 a0_10 a0_11 a0_22 h1 h2 a0_31 a0_32 h3)), (h1, .inl (cA1, n1, .inl f1)), (h2, .inl (cA2, n2, .inl f2)), (h3, .inl (cA3, n3, .inl f3))]) (hS : va_S A s.heap H locs) (hv : v_M_general_63 I0 J0 n1 f1 n2 f2 n3 f3  Z) : W p l e (headSpec (Cond.code (⟨"NumberDressModel", "general", "()V"⟩ : MethodName) prog_14_method_40_code 2 none :: zT) { frames := 2, cells := 0, slots := 0, locals := 47 }).room s m args below meth c H locs 0 0 (MQ below (va_Qv Z (zB (dC, dI) zCl [(cA1, .int), (cA2, .int), (cA3, .int)] A (fun u : (Nat → Int32) × (Nat → Int32) × (Nat → Int32) => [(h0, .inr (12, o_M u.1 J0 a0_2 a0_4 a0_5 a0_6 a0_7 a0_8 a0_9 a0_10 a0_11 a0_22 h1 h2 a0_31 a0_32 h3)), (h1, .inl (cA1, n1, .inl f1)), (h2, .inl (cA2, n2, .inl u.2.1)), (h3, .inl (cA3, n3, .inl u.2.2))])) A) args s 0 0 A) (F0 m 63 ls []) := by
  obtain ⟨hx, hb, hr, hml, hown, ht, hlocks⟩ := id hc
  unfold v_M_general_63 at hv
  refine lv_aload_n hx hb d_M_general_63 rfl (lv_at hl 0 rfl) ?_
  refine va_get (D := (dC, dI)) (ci := 12) (v := .int (I0 27)) (C := "NumberDressModel") (T := T_M) (N := 41) hx hb ht zin_M hown hK hP 0 rfl rfl 27 (by decide) (ht _ zw_1288) (fun _ h9 => h9) rfl d_M_general_64 ?_
  refine lv_iconst (v := (1 : Int32)) hx hb d_M_general_67 (by decide) ?_
  refine lv_icmp_le (tgt := 77) hx hb d_M_general_68 (by decide) (fun c_1 => ?_) (fun c_1 => ?_)
  · have hv := hv.1 c_1
    exact b_M_general_77 hc hA hE  (lv_sub hl [0] rfl) hK hP hD hS hv
  · have hv := hv.2 c_1
    refine lv_aload_n hx hb d_M_general_71 rfl (lv_at hl 0 rfl) ?_
    refine lv_bipush (v := (46 : Int32)) hx hb d_M_general_72 (by decide) ?_
    refine z_callv (wc := [(h0, .inr (12, o_M I0 J0 a0_2 a0_4 a0_5 a0_6 a0_7 a0_8 a0_9 a0_10 a0_11 a0_22 h1 h2 a0_31 a0_32 h3)), (h3, .inl (cA3, n3, .inl f3))]) (wr := [(h1, .inl (cA1, n1, .inl f1)), (h2, .inl (cA2, n2, .inl f2))]) [0, 3] [1, 2] (va_runV (As := [.int (46 : Int32)]) (rest := []) ⟨hx, hb, hml, hown, ht⟩ (m_M_put l dC dI hv) ⟨(callB_of 1 ht (zG_in zi_M_put) rfl rfl rfl (ht _ zw_122) (ht _ zw_1529) zh_M_put ⟨Nat.le_of_ble_eq_true rfl, Nat.le_of_ble_eq_true rfl⟩), (ht _ zw_1531), (ht _ zw_83)⟩ ⟨zPc_blind, va_recv hK hP (ci := 12) (q0 := 0) rfl rfl, zPc_pre hP hK hD hS hA hE [0, 3] [2] rfl rfl (by decide) rfl⟩ rfl rfl hl.1 rfl (lv_room (Nat.le_of_ble_eq_true rfl)) d_M_general_74 ⟨Nat.le_of_ble_eq_true rfl, Nat.le_of_ble_eq_true rfl⟩) hP hD hS hA rfl rfl (by decide) (by decide) (fun u H locs hv hP hD hS => ?_)
    have hP : va_P (dC, dI) zCl [(h0, .inr (12, o_M u.1 J0 a0_2 a0_4 a0_5 a0_6 a0_7 a0_8 a0_9 a0_10 a0_11 a0_22 h1 h2 a0_31 a0_32 h3)), (h1, .inl (cA1, n1, .inl f1)), (h2, .inl (cA2, n2, .inl f2)), (h3, .inl (cA3, n3, .inl u.2))] H := hP.sub [2, 0, 1, 3] rfl
    have hD : va_D A [(h0, .inr (12, o_M u.1 J0 a0_2 a0_4 a0_5 a0_6 a0_7 a0_8 a0_9 a0_10 a0_11 a0_22 h1 h2 a0_31 a0_32 h3)), (h1, .inl (cA1, n1, .inl f1)), (h2, .inl (cA2, n2, .inl f2)), (h3, .inl (cA3, n3, .inl u.2))] := hD.sub [2, 0, 1, 3] (by decide) rfl
    exact b_M_general_77 hc hA hE  (lv_sub hl [0] rfl) hK hP hD hS hv
set_option maxHeartbeats 4000000 in
set_option maxRecDepth 100000 in
theorem b_M_general_50 {h0 : Nat} {a0_2 : Nat} {a0_4 : Nat} {a0_5 : Nat} {a0_6 : Nat} {a0_7 : Nat} {a0_8 : Nat} {a0_9 : Nat} {a0_10 : Nat} {a0_11 : Nat} {a0_22 : Nat} {a0_31 : Nat} {a0_32 : Nat} {h1 : Nat} {cA1 : ClassId} {h2 : Nat} {cA2 : ClassId} {h3 : Nat} {cA3 : ClassId} {I0 : Nat → Int32} {J0 : Nat → Int64} {n1 : Nat} {f1 : Nat → Int32} {n2 : Nat} {f2 : Nat → Int32} {n3 : Nat} {f3 : Nat → Int32}  {Z : (Nat → Int32) × (Nat → Int32) × (Nat → Int32) → Prop} {H : Heap} {locs : List Loc} {ls : Array Slot} (hc : zC p s m args meth c prog_14_method_40_code none 2 "NumberDressModel") (hA : ∀ q : Nat, s.heap.size ≤ q → A q) (hE : zE gE A s) (hl : lv_has ls 2 [(0, .ref h0)]) (hK : va_K (dC, dI) zCl [(cA1, .int), (cA2, .int), (cA3, .int)] s) (hP : va_P (dC, dI) zCl [(h0, .inr (12, o_M I0 J0 a0_2 a0_4 a0_5 a0_6 a0_7 a0_8 a0_9 a0_10 a0_11 a0_22 h1 h2 a0_31 a0_32 h3)), (h1, .inl (cA1, n1, .inl f1)), (h2, .inl (cA2, n2, .inl f2)), (h3, .inl (cA3, n3, .inl f3))] H) (hD : va_D A [(h0, .inr (12, o_M I0 J0 a0_2 a0_4 a0_5 a0_6 a0_7 a0_8 a0_9 a0_10 a0_11 a0_22 h1 h2 a0_31 a0_32 h3)), (h1, .inl (cA1, n1, .inl f1)), (h2, .inl (cA2, n2, .inl f2)), (h3, .inl (cA3, n3, .inl f3))]) (hS : va_S A s.heap H locs) (hv : v_M_general_50 I0 J0 n1 f1 n2 f2 n3 f3  Z) : W p l e (headSpec (Cond.code (⟨"NumberDressModel", "general", "()V"⟩ : MethodName) prog_14_method_40_code 2 none :: zT) { frames := 2, cells := 0, slots := 0, locals := 47 }).room s m args below meth c H locs 0 0 (MQ below (va_Qv Z (zB (dC, dI) zCl [(cA1, .int), (cA2, .int), (cA3, .int)] A (fun u : (Nat → Int32) × (Nat → Int32) × (Nat → Int32) => [(h0, .inr (12, o_M u.1 J0 a0_2 a0_4 a0_5 a0_6 a0_7 a0_8 a0_9 a0_10 a0_11 a0_22 h1 h2 a0_31 a0_32 h3)), (h1, .inl (cA1, n1, .inl f1)), (h2, .inl (cA2, n2, .inl u.2.1)), (h3, .inl (cA3, n3, .inl u.2.2))])) A) args s 0 0 A) (F0 m 50 ls []) := by
  obtain ⟨hx, hb, hr, hml, hown, ht, hlocks⟩ := id hc
  unfold v_M_general_50 at hv
  refine lv_aload_n hx hb d_M_general_50 rfl (lv_at hl 0 rfl) ?_
  refine lv_bipush (v := (48 : Int32)) hx hb d_M_general_51 (by decide) ?_
  refine lv_aload_n hx hb d_M_general_53 rfl (lv_at hl 0 rfl) ?_
  refine va_get (D := (dC, dI)) (ci := 12) (v := .ref h2) (C := "NumberDressModel") (T := T_M) (N := 41) hx hb ht zin_M hown hK hP 0 rfl rfl 29 (by decide) (ht _ zw_1290) (fun _ h9 => h9) rfl d_M_general_54 ?_
  refine lv_iconst (v := (0 : Int32)) hx hb d_M_general_57 (by decide) ?_
  obtain ⟨q_1, hv⟩ := hv
  refine va_iald hx hb hK hP 2 1 rfl rfl q_1 d_M_general_58 ?_
  refine lv_iadd hx hb d_M_general_59 ?_
  refine z_callv (wc := [(h0, .inr (12, o_M I0 J0 a0_2 a0_4 a0_5 a0_6 a0_7 a0_8 a0_9 a0_10 a0_11 a0_22 h1 h2 a0_31 a0_32 h3)), (h3, .inl (cA3, n3, .inl f3))]) (wr := [(h1, .inl (cA1, n1, .inl f1)), (h2, .inl (cA2, n2, .inl f2))]) [0, 3] [1, 2] (va_runV (As := [.int ((48 : Int32) + (f2 (0 : Int32).toNatClampNeg))]) (rest := []) ⟨hx, hb, hml, hown, ht⟩ (m_M_put l dC dI hv) ⟨(callB_of 1 ht (zG_in zi_M_put) rfl rfl rfl (ht _ zw_122) (ht _ zw_1529) zh_M_put ⟨Nat.le_of_ble_eq_true rfl, Nat.le_of_ble_eq_true rfl⟩), (ht _ zw_1531), (ht _ zw_83)⟩ ⟨zPc_blind, va_recv hK hP (ci := 12) (q0 := 0) rfl rfl, zPc_pre hP hK hD hS hA hE [0, 3] [2] rfl rfl (by decide) rfl⟩ rfl rfl hl.1 rfl (lv_room (Nat.le_of_ble_eq_true rfl)) d_M_general_60 ⟨Nat.le_of_ble_eq_true rfl, Nat.le_of_ble_eq_true rfl⟩) hP hD hS hA rfl rfl (by decide) (by decide) (fun u H locs hv hP hD hS => ?_)
  have hP : va_P (dC, dI) zCl [(h0, .inr (12, o_M u.1 J0 a0_2 a0_4 a0_5 a0_6 a0_7 a0_8 a0_9 a0_10 a0_11 a0_22 h1 h2 a0_31 a0_32 h3)), (h1, .inl (cA1, n1, .inl f1)), (h2, .inl (cA2, n2, .inl f2)), (h3, .inl (cA3, n3, .inl u.2))] H := hP.sub [2, 0, 1, 3] rfl
  have hD : va_D A [(h0, .inr (12, o_M u.1 J0 a0_2 a0_4 a0_5 a0_6 a0_7 a0_8 a0_9 a0_10 a0_11 a0_22 h1 h2 a0_31 a0_32 h3)), (h1, .inl (cA1, n1, .inl f1)), (h2, .inl (cA2, n2, .inl f2)), (h3, .inl (cA3, n3, .inl u.2))] := hD.sub [2, 0, 1, 3] (by decide) rfl
  exact b_M_general_63 hc hA hE  (lv_sub hl [0] rfl) hK hP hD hS hv
set_option maxHeartbeats 4000000 in
set_option maxRecDepth 100000 in
theorem b_M_general_32 {h0 : Nat} {a0_2 : Nat} {a0_4 : Nat} {a0_5 : Nat} {a0_6 : Nat} {a0_7 : Nat} {a0_8 : Nat} {a0_9 : Nat} {a0_10 : Nat} {a0_11 : Nat} {a0_22 : Nat} {a0_31 : Nat} {a0_32 : Nat} {h1 : Nat} {cA1 : ClassId} {h2 : Nat} {cA2 : ClassId} {h3 : Nat} {cA3 : ClassId} {I0 : Nat → Int32} {J0 : Nat → Int64} {n1 : Nat} {f1 : Nat → Int32} {n2 : Nat} {f2 : Nat → Int32} {n3 : Nat} {f3 : Nat → Int32}  {Z : (Nat → Int32) × (Nat → Int32) × (Nat → Int32) → Prop} {H : Heap} {locs : List Loc} {ls : Array Slot} (hc : zC p s m args meth c prog_14_method_40_code none 2 "NumberDressModel") (hA : ∀ q : Nat, s.heap.size ≤ q → A q) (hE : zE gE A s) (hl : lv_has ls 2 [(0, .ref h0)]) (hK : va_K (dC, dI) zCl [(cA1, .int), (cA2, .int), (cA3, .int)] s) (hP : va_P (dC, dI) zCl [(h0, .inr (12, o_M I0 J0 a0_2 a0_4 a0_5 a0_6 a0_7 a0_8 a0_9 a0_10 a0_11 a0_22 h1 h2 a0_31 a0_32 h3)), (h1, .inl (cA1, n1, .inl f1)), (h2, .inl (cA2, n2, .inl f2)), (h3, .inl (cA3, n3, .inl f3))] H) (hD : va_D A [(h0, .inr (12, o_M I0 J0 a0_2 a0_4 a0_5 a0_6 a0_7 a0_8 a0_9 a0_10 a0_11 a0_22 h1 h2 a0_31 a0_32 h3)), (h1, .inl (cA1, n1, .inl f1)), (h2, .inl (cA2, n2, .inl f2)), (h3, .inl (cA3, n3, .inl f3))]) (hS : va_S A s.heap H locs) (hv : v_M_general_32 I0 J0 n1 f1 n2 f2 n3 f3  Z) : W p l e (headSpec (Cond.code (⟨"NumberDressModel", "general", "()V"⟩ : MethodName) prog_14_method_40_code 2 none :: zT) { frames := 2, cells := 0, slots := 0, locals := 47 }).room s m args below meth c H locs 0 0 (MQ below (va_Qv Z (zB (dC, dI) zCl [(cA1, .int), (cA2, .int), (cA3, .int)] A (fun u : (Nat → Int32) × (Nat → Int32) × (Nat → Int32) => [(h0, .inr (12, o_M u.1 J0 a0_2 a0_4 a0_5 a0_6 a0_7 a0_8 a0_9 a0_10 a0_11 a0_22 h1 h2 a0_31 a0_32 h3)), (h1, .inl (cA1, n1, .inl f1)), (h2, .inl (cA2, n2, .inl u.2.1)), (h3, .inl (cA3, n3, .inl u.2.2))])) A) args s 0 0 A) (F0 m 32 ls []) := by
  obtain ⟨hx, hb, hr, hml, hown, ht, hlocks⟩ := id hc
  unfold v_M_general_32 at hv
  refine lv_aload_n hx hb d_M_general_32 rfl (lv_at hl 0 rfl) ?_
  refine va_get (D := (dC, dI)) (ci := 12) (v := .int (I0 28)) (C := "NumberDressModel") (T := T_M) (N := 41) hx hb ht zin_M hown hK hP 0 rfl rfl 28 (by decide) (ht _ zw_1289) (fun _ h9 => h9) rfl d_M_general_33 ?_
  refine lv_bipush (v := (-5 : Int32)) hx hb d_M_general_36 (by decide) ?_
  refine lv_icmp_lt (tgt := 50) hx hb d_M_general_38 (by decide) (fun c_1 => ?_) (fun c_1 => ?_)
  · have hv := hv.1 c_1
    exact b_M_general_50 hc hA hE  (lv_sub hl [0] rfl) hK hP hD hS hv
  · have hv := hv.2 c_1
    refine lv_aload_n hx hb d_M_general_41 rfl (lv_at hl 0 rfl) ?_
    refine va_get (D := (dC, dI)) (ci := 12) (v := .int (I0 28)) (C := "NumberDressModel") (T := T_M) (N := 41) hx hb ht zin_M hown hK hP 0 rfl rfl 28 (by decide) (ht _ zw_1289) (fun _ h9 => h9) rfl d_M_general_42 ?_
    refine lv_bipush (v := (21 : Int32)) hx hb d_M_general_45 (by decide) ?_
    refine lv_icmp_le (tgt := 157) hx hb d_M_general_47 (by decide) (fun c_2 => ?_) (fun c_2 => ?_)
    · have hv := hv.1 c_2
      refine lv_aload_n hx hb d_M_general_157 rfl (lv_at hl 0 rfl) ?_
      refine va_get (D := (dC, dI)) (ci := 12) (v := .int (I0 28)) (C := "NumberDressModel") (T := T_M) (N := 41) hx hb ht zin_M hown hK hP 0 rfl rfl 28 (by decide) (ht _ zw_1289) (fun _ h9 => h9) rfl d_M_general_158 ?_
      refine lv_if_gt (tgt := 170) hx hb d_M_general_161 (by decide) (fun c_3 => ?_) (fun c_3 => ?_)
      · have hv := hv.1 c_3
        exact b_M_general_170 hc hA hE  (lv_sub hl [0] rfl) hK hP hD hS hv
      · have hv := hv.2 c_3
        refine lv_aload_n hx hb d_M_general_164 rfl (lv_at hl 0 rfl) ?_
        refine lv_bipush (v := (48 : Int32)) hx hb d_M_general_165 (by decide) ?_
        refine z_callv (wc := [(h0, .inr (12, o_M I0 J0 a0_2 a0_4 a0_5 a0_6 a0_7 a0_8 a0_9 a0_10 a0_11 a0_22 h1 h2 a0_31 a0_32 h3)), (h3, .inl (cA3, n3, .inl f3))]) (wr := [(h1, .inl (cA1, n1, .inl f1)), (h2, .inl (cA2, n2, .inl f2))]) [0, 3] [1, 2] (va_runV (As := [.int (48 : Int32)]) (rest := []) ⟨hx, hb, hml, hown, ht⟩ (m_M_put l dC dI hv) ⟨(callB_of 1 ht (zG_in zi_M_put) rfl rfl rfl (ht _ zw_122) (ht _ zw_1529) zh_M_put ⟨Nat.le_of_ble_eq_true rfl, Nat.le_of_ble_eq_true rfl⟩), (ht _ zw_1531), (ht _ zw_83)⟩ ⟨zPc_blind, va_recv hK hP (ci := 12) (q0 := 0) rfl rfl, zPc_pre hP hK hD hS hA hE [0, 3] [2] rfl rfl (by decide) rfl⟩ rfl rfl hl.1 rfl (lv_room (Nat.le_of_ble_eq_true rfl)) d_M_general_167 ⟨Nat.le_of_ble_eq_true rfl, Nat.le_of_ble_eq_true rfl⟩) hP hD hS hA rfl rfl (by decide) (by decide) (fun u H locs hv hP hD hS => ?_)
        have hP : va_P (dC, dI) zCl [(h0, .inr (12, o_M u.1 J0 a0_2 a0_4 a0_5 a0_6 a0_7 a0_8 a0_9 a0_10 a0_11 a0_22 h1 h2 a0_31 a0_32 h3)), (h1, .inl (cA1, n1, .inl f1)), (h2, .inl (cA2, n2, .inl f2)), (h3, .inl (cA3, n3, .inl u.2))] H := hP.sub [2, 0, 1, 3] rfl
        have hD : va_D A [(h0, .inr (12, o_M u.1 J0 a0_2 a0_4 a0_5 a0_6 a0_7 a0_8 a0_9 a0_10 a0_11 a0_22 h1 h2 a0_31 a0_32 h3)), (h1, .inl (cA1, n1, .inl f1)), (h2, .inl (cA2, n2, .inl f2)), (h3, .inl (cA3, n3, .inl u.2))] := hD.sub [2, 0, 1, 3] (by decide) rfl
        exact b_M_general_170 hc hA hE  (lv_sub hl [0] rfl) hK hP hD hS hv
    · have hv := hv.2 c_2
      exact b_M_general_50 hc hA hE  (lv_sub hl [0] rfl) hK hP hD hS hv
set_option maxHeartbeats 4000000 in
set_option maxRecDepth 100000 in
theorem b_M_general_5 {h0 : Nat} {a0_2 : Nat} {a0_4 : Nat} {a0_5 : Nat} {a0_6 : Nat} {a0_7 : Nat} {a0_8 : Nat} {a0_9 : Nat} {a0_10 : Nat} {a0_11 : Nat} {a0_22 : Nat} {a0_31 : Nat} {a0_32 : Nat} {h1 : Nat} {cA1 : ClassId} {h2 : Nat} {cA2 : ClassId} {h3 : Nat} {cA3 : ClassId} {I0 : Nat → Int32} {J0 : Nat → Int64} {n1 : Nat} {f1 : Nat → Int32} {n2 : Nat} {f2 : Nat → Int32} {n3 : Nat} {f3 : Nat → Int32}  {Z : (Nat → Int32) × (Nat → Int32) × (Nat → Int32) → Prop} {H : Heap} {locs : List Loc} {ls : Array Slot} (hc : zC p s m args meth c prog_14_method_40_code none 2 "NumberDressModel") (hA : ∀ q : Nat, s.heap.size ≤ q → A q) (hE : zE gE A s) (hl : lv_has ls 2 [(0, .ref h0)]) (hK : va_K (dC, dI) zCl [(cA1, .int), (cA2, .int), (cA3, .int)] s) (hP : va_P (dC, dI) zCl [(h0, .inr (12, o_M I0 J0 a0_2 a0_4 a0_5 a0_6 a0_7 a0_8 a0_9 a0_10 a0_11 a0_22 h1 h2 a0_31 a0_32 h3)), (h1, .inl (cA1, n1, .inl f1)), (h2, .inl (cA2, n2, .inl f2)), (h3, .inl (cA3, n3, .inl f3))] H) (hD : va_D A [(h0, .inr (12, o_M I0 J0 a0_2 a0_4 a0_5 a0_6 a0_7 a0_8 a0_9 a0_10 a0_11 a0_22 h1 h2 a0_31 a0_32 h3)), (h1, .inl (cA1, n1, .inl f1)), (h2, .inl (cA2, n2, .inl f2)), (h3, .inl (cA3, n3, .inl f3))]) (hS : va_S A s.heap H locs) (hv : v_M_general_5 I0 J0 n1 f1 n2 f2 n3 f3  Z) : W p l e (headSpec (Cond.code (⟨"NumberDressModel", "general", "()V"⟩ : MethodName) prog_14_method_40_code 2 none :: zT) { frames := 2, cells := 0, slots := 0, locals := 47 }).room s m args below meth c H locs 0 0 (MQ below (va_Qv Z (zB (dC, dI) zCl [(cA1, .int), (cA2, .int), (cA3, .int)] A (fun u : (Nat → Int32) × (Nat → Int32) × (Nat → Int32) => [(h0, .inr (12, o_M u.1 J0 a0_2 a0_4 a0_5 a0_6 a0_7 a0_8 a0_9 a0_10 a0_11 a0_22 h1 h2 a0_31 a0_32 h3)), (h1, .inl (cA1, n1, .inl f1)), (h2, .inl (cA2, n2, .inl u.2.1)), (h3, .inl (cA3, n3, .inl u.2.2))])) A) args s 0 0 A) (F0 m 5 ls []) := by
  obtain ⟨hx, hb, hr, hml, hown, ht, hlocks⟩ := id hc
  unfold v_M_general_5 at hv
  refine lv_aload_n hx hb d_M_general_5 rfl (lv_at hl 0 rfl) ?_
  refine va_get (D := (dC, dI)) (ci := 12) (v := .int (I0 27)) (C := "NumberDressModel") (T := T_M) (N := 41) hx hb ht zin_M hown hK hP 0 rfl rfl 27 (by decide) (ht _ zw_1288) (fun _ h9 => h9) rfl d_M_general_6 ?_
  refine lv_if_ne (tgt := 19) hx hb d_M_general_9 (by decide) (fun c_1 => ?_) (fun c_1 => ?_)
  · have hv := hv.1 c_1
    refine lv_aload_n hx hb d_M_general_19 rfl (lv_at hl 0 rfl) ?_
    refine va_get (D := (dC, dI)) (ci := 12) (v := .int (I0 23)) (C := "NumberDressModel") (T := T_M) (N := 41) hx hb ht zin_M hown hK hP 0 rfl rfl 23 (by decide) (ht _ zw_1284) (fun _ h9 => h9) rfl d_M_general_20 ?_
    refine lv_if_eq (tgt := 32) hx hb d_M_general_23 (by decide) (fun c_2 => ?_) (fun c_2 => ?_)
    · have hv := hv.1 c_2
      exact b_M_general_32 hc hA hE  (lv_sub hl [0] rfl) hK hP hD hS hv
    · have hv := hv.2 c_2
      refine lv_aload_n hx hb d_M_general_26 rfl (lv_at hl 0 rfl) ?_
      refine lv_bipush (v := (45 : Int32)) hx hb d_M_general_27 (by decide) ?_
      refine z_callv (wc := [(h0, .inr (12, o_M I0 J0 a0_2 a0_4 a0_5 a0_6 a0_7 a0_8 a0_9 a0_10 a0_11 a0_22 h1 h2 a0_31 a0_32 h3)), (h3, .inl (cA3, n3, .inl f3))]) (wr := [(h1, .inl (cA1, n1, .inl f1)), (h2, .inl (cA2, n2, .inl f2))]) [0, 3] [1, 2] (va_runV (As := [.int (45 : Int32)]) (rest := []) ⟨hx, hb, hml, hown, ht⟩ (m_M_put l dC dI hv) ⟨(callB_of 1 ht (zG_in zi_M_put) rfl rfl rfl (ht _ zw_122) (ht _ zw_1529) zh_M_put ⟨Nat.le_of_ble_eq_true rfl, Nat.le_of_ble_eq_true rfl⟩), (ht _ zw_1531), (ht _ zw_83)⟩ ⟨zPc_blind, va_recv hK hP (ci := 12) (q0 := 0) rfl rfl, zPc_pre hP hK hD hS hA hE [0, 3] [2] rfl rfl (by decide) rfl⟩ rfl rfl hl.1 rfl (lv_room (Nat.le_of_ble_eq_true rfl)) d_M_general_29 ⟨Nat.le_of_ble_eq_true rfl, Nat.le_of_ble_eq_true rfl⟩) hP hD hS hA rfl rfl (by decide) (by decide) (fun u H locs hv hP hD hS => ?_)
      have hP : va_P (dC, dI) zCl [(h0, .inr (12, o_M u.1 J0 a0_2 a0_4 a0_5 a0_6 a0_7 a0_8 a0_9 a0_10 a0_11 a0_22 h1 h2 a0_31 a0_32 h3)), (h1, .inl (cA1, n1, .inl f1)), (h2, .inl (cA2, n2, .inl f2)), (h3, .inl (cA3, n3, .inl u.2))] H := hP.sub [2, 0, 1, 3] rfl
      have hD : va_D A [(h0, .inr (12, o_M u.1 J0 a0_2 a0_4 a0_5 a0_6 a0_7 a0_8 a0_9 a0_10 a0_11 a0_22 h1 h2 a0_31 a0_32 h3)), (h1, .inl (cA1, n1, .inl f1)), (h2, .inl (cA2, n2, .inl f2)), (h3, .inl (cA3, n3, .inl u.2))] := hD.sub [2, 0, 1, 3] (by decide) rfl
      exact b_M_general_32 hc hA hE  (lv_sub hl [0] rfl) hK hP hD hS hv
  · have hv := hv.2 c_1
    refine lv_aload_n hx hb d_M_general_12 rfl (lv_at hl 0 rfl) ?_
    refine lv_bipush (v := (48 : Int32)) hx hb d_M_general_13 (by decide) ?_
    refine z_callv (wc := [(h0, .inr (12, o_M I0 J0 a0_2 a0_4 a0_5 a0_6 a0_7 a0_8 a0_9 a0_10 a0_11 a0_22 h1 h2 a0_31 a0_32 h3)), (h3, .inl (cA3, n3, .inl f3))]) (wr := [(h1, .inl (cA1, n1, .inl f1)), (h2, .inl (cA2, n2, .inl f2))]) [0, 3] [1, 2] (va_runV (As := [.int (48 : Int32)]) (rest := []) ⟨hx, hb, hml, hown, ht⟩ (m_M_put l dC dI hv) ⟨(callB_of 1 ht (zG_in zi_M_put) rfl rfl rfl (ht _ zw_122) (ht _ zw_1529) zh_M_put ⟨Nat.le_of_ble_eq_true rfl, Nat.le_of_ble_eq_true rfl⟩), (ht _ zw_1531), (ht _ zw_83)⟩ ⟨zPc_blind, va_recv hK hP (ci := 12) (q0 := 0) rfl rfl, zPc_pre hP hK hD hS hA hE [0, 3] [2] rfl rfl (by decide) rfl⟩ rfl rfl hl.1 rfl (lv_room (Nat.le_of_ble_eq_true rfl)) d_M_general_15 ⟨Nat.le_of_ble_eq_true rfl, Nat.le_of_ble_eq_true rfl⟩) hP hD hS hA rfl rfl (by decide) (by decide) (fun u H locs hv hP hD hS => ?_)
    have hP : va_P (dC, dI) zCl [(h0, .inr (12, o_M u.1 J0 a0_2 a0_4 a0_5 a0_6 a0_7 a0_8 a0_9 a0_10 a0_11 a0_22 h1 h2 a0_31 a0_32 h3)), (h1, .inl (cA1, n1, .inl f1)), (h2, .inl (cA2, n2, .inl f2)), (h3, .inl (cA3, n3, .inl u.2))] H := hP.sub [2, 0, 1, 3] rfl
    have hD : va_D A [(h0, .inr (12, o_M u.1 J0 a0_2 a0_4 a0_5 a0_6 a0_7 a0_8 a0_9 a0_10 a0_11 a0_22 h1 h2 a0_31 a0_32 h3)), (h1, .inl (cA1, n1, .inl f1)), (h2, .inl (cA2, n2, .inl f2)), (h3, .inl (cA3, n3, .inl u.2))] := hD.sub [2, 0, 1, 3] (by decide) rfl
    exact b_M_general_18 hc hA hE  (lv_sub hl [] rfl) hK hP hD hS hv
set_option maxHeartbeats 4000000 in
set_option maxRecDepth 100000 in
theorem b_M_general_0 {h0 : Nat} {a0_2 : Nat} {a0_4 : Nat} {a0_5 : Nat} {a0_6 : Nat} {a0_7 : Nat} {a0_8 : Nat} {a0_9 : Nat} {a0_10 : Nat} {a0_11 : Nat} {a0_22 : Nat} {a0_31 : Nat} {a0_32 : Nat} {h1 : Nat} {cA1 : ClassId} {h2 : Nat} {cA2 : ClassId} {h3 : Nat} {cA3 : ClassId} {I0 : Nat → Int32} {J0 : Nat → Int64} {n1 : Nat} {f1 : Nat → Int32} {n2 : Nat} {f2 : Nat → Int32} {n3 : Nat} {f3 : Nat → Int32}  {Z : (Nat → Int32) × (Nat → Int32) × (Nat → Int32) → Prop} {H : Heap} {locs : List Loc} {ls : Array Slot} (hc : zC p s m args meth c prog_14_method_40_code none 2 "NumberDressModel") (hA : ∀ q : Nat, s.heap.size ≤ q → A q) (hE : zE gE A s) (hl : lv_has ls 2 [(0, .ref h0)]) (hK : va_K (dC, dI) zCl [(cA1, .int), (cA2, .int), (cA3, .int)] s) (hP : va_P (dC, dI) zCl [(h0, .inr (12, o_M I0 J0 a0_2 a0_4 a0_5 a0_6 a0_7 a0_8 a0_9 a0_10 a0_11 a0_22 h1 h2 a0_31 a0_32 h3)), (h1, .inl (cA1, n1, .inl f1)), (h2, .inl (cA2, n2, .inl f2)), (h3, .inl (cA3, n3, .inl f3))] H) (hD : va_D A [(h0, .inr (12, o_M I0 J0 a0_2 a0_4 a0_5 a0_6 a0_7 a0_8 a0_9 a0_10 a0_11 a0_22 h1 h2 a0_31 a0_32 h3)), (h1, .inl (cA1, n1, .inl f1)), (h2, .inl (cA2, n2, .inl f2)), (h3, .inl (cA3, n3, .inl f3))]) (hS : va_S A s.heap H locs) (hv : v_M_general_0 I0 J0 n1 f1 n2 f2 n3 f3  Z) : W p l e (headSpec (Cond.code (⟨"NumberDressModel", "general", "()V"⟩ : MethodName) prog_14_method_40_code 2 none :: zT) { frames := 2, cells := 0, slots := 0, locals := 47 }).room s m args below meth c H locs 0 0 (MQ below (va_Qv Z (zB (dC, dI) zCl [(cA1, .int), (cA2, .int), (cA3, .int)] A (fun u : (Nat → Int32) × (Nat → Int32) × (Nat → Int32) => [(h0, .inr (12, o_M u.1 J0 a0_2 a0_4 a0_5 a0_6 a0_7 a0_8 a0_9 a0_10 a0_11 a0_22 h1 h2 a0_31 a0_32 h3)), (h1, .inl (cA1, n1, .inl f1)), (h2, .inl (cA2, n2, .inl u.2.1)), (h3, .inl (cA3, n3, .inl u.2.2))])) A) args s 0 0 A) (F0 m 0 ls []) := by
  obtain ⟨hx, hb, hr, hml, hown, ht, hlocks⟩ := id hc
  unfold v_M_general_0 at hv
  refine lv_aload_n hx hb d_M_general_0 rfl (lv_at hl 0 rfl) ?_
  refine lv_iconst (v := (0 : Int32)) hx hb d_M_general_1 (by decide) ?_
  refine z_callv (wc := [(h0, .inr (12, o_M I0 J0 a0_2 a0_4 a0_5 a0_6 a0_7 a0_8 a0_9 a0_10 a0_11 a0_22 h1 h2 a0_31 a0_32 h3)), (h1, .inl (cA1, n1, .inl f1)), (h2, .inl (cA2, n2, .inl f2))]) (wr := [(h3, .inl (cA3, n3, .inl f3))]) [0, 1, 2] [3] (va_runV (As := [.int (0 : Int32)]) (rest := []) ⟨hx, hb, hml, hown, ht⟩ (m_M_take l dC dI hv) ⟨(callB_of 1 ht (zG_in zi_M_take) rfl rfl rfl (ht _ zw_122) (ht _ zw_1537) zh_M_take ⟨Nat.le_of_ble_eq_true rfl, Nat.le_of_ble_eq_true rfl⟩), (ht _ zw_1539), (ht _ zw_85)⟩ ⟨zPc_blind, va_recv hK hP (ci := 12) (q0 := 0) rfl rfl, zPc_pre hP hK hD hS hA hE [0, 1, 2] [0, 1] rfl rfl (by decide) rfl⟩ rfl rfl hl.1 rfl (lv_room (Nat.le_of_ble_eq_true rfl)) d_M_general_2 ⟨Nat.le_of_ble_eq_true rfl, Nat.le_of_ble_eq_true rfl⟩) hP hD hS hA rfl rfl (by decide) (by decide) (fun u H locs hv hP hD hS => ?_)
  have hP : va_P (dC, dI) zCl [(h0, .inr (12, o_M u.1 J0 a0_2 a0_4 a0_5 a0_6 a0_7 a0_8 a0_9 a0_10 a0_11 a0_22 h1 h2 a0_31 a0_32 h3)), (h1, .inl (cA1, n1, .inl f1)), (h2, .inl (cA2, n2, .inl u.2)), (h3, .inl (cA3, n3, .inl f3))] H := hP.sub [1, 2, 3, 0] rfl
  have hD : va_D A [(h0, .inr (12, o_M u.1 J0 a0_2 a0_4 a0_5 a0_6 a0_7 a0_8 a0_9 a0_10 a0_11 a0_22 h1 h2 a0_31 a0_32 h3)), (h1, .inl (cA1, n1, .inl f1)), (h2, .inl (cA2, n2, .inl u.2)), (h3, .inl (cA3, n3, .inl f3))] := hD.sub [1, 2, 3, 0] (by decide) rfl
  exact b_M_general_5 hc hA hE  (lv_sub hl [0] rfl) hK hP hD hS hv
theorem zi_M_general : Cond.code (⟨"NumberDressModel", "general", "()V"⟩ : MethodName) prog_14_method_40_code 2 none ∈ zT := zw_1536
theorem zh_M_general : (((⟨"NumberDressModel", "general", "()V"⟩ : MethodName)).cls ≠ "java/lang/invoke/MethodHandle" ∧ ((⟨"NumberDressModel", "general", "()V"⟩ : MethodName)).cls ≠ "java/lang/invoke/VarHandle" ∧ (parseMethodDescriptor ((⟨"NumberDressModel", "general", "()V"⟩ : MethodName)).desc).map (fun d => d.parameters.length) = some 0) := by decide +kernel
set_option maxHeartbeats 4000000 in
set_option maxRecDepth 100000 in
theorem m_M_general (l : Launch) (dC : Nat → ClassId) (dI : Nat → Nat → Nat) {gE : zG} {h0 : Nat} {a0_2 : Nat} {a0_4 : Nat} {a0_5 : Nat} {a0_6 : Nat} {a0_7 : Nat} {a0_8 : Nat} {a0_9 : Nat} {a0_10 : Nat} {a0_11 : Nat} {a0_22 : Nat} {a0_31 : Nat} {a0_32 : Nat} {h1 : Nat} {cA1 : ClassId} {h2 : Nat} {cA2 : ClassId} {h3 : Nat} {cA3 : ClassId} {I0 : Nat → Int32} {J0 : Nat → Int64} {n1 : Nat} {f1 : Nat → Int32} {n2 : Nat} {f2 : Nat → Int32} {n3 : Nat} {f3 : Nat → Int32} {sz : Nat} {Z : (Nat → Int32) × (Nat → Int32) × (Nat → Int32) → Prop} (hv : v_M_general_0 I0 J0 n1 f1 n2 f2 n3 f3 Z) : Met l (⟨"NumberDressModel", "general", "()V"⟩ : MethodName) (Cond.code (⟨"NumberDressModel", "general", "()V"⟩ : MethodName) prog_14_method_40_code 2 none :: zT) { frames := 2, cells := 0, slots := 0, locals := 47 } (zPc gE (dC, dI) zCl [(cA1, .int), (cA2, .int), (cA3, .int)] [.ref h0] sz [(h0, .inr (12, o_M I0 J0 a0_2 a0_4 a0_5 a0_6 a0_7 a0_8 a0_9 a0_10 a0_11 a0_22 h1 h2 a0_31 a0_32 h3)), (h1, .inl (cA1, n1, .inl f1)), (h2, .inl (cA2, n2, .inl f2)), (h3, .inl (cA3, n3, .inl f3))]) (va_Qv Z (zB (dC, dI) zCl [(cA1, .int), (cA2, .int), (cA3, .int)] (va_A [(h0, .inr (12, o_M I0 J0 a0_2 a0_4 a0_5 a0_6 a0_7 a0_8 a0_9 a0_10 a0_11 a0_22 h1 h2 a0_31 a0_32 h3)), (h1, .inl (cA1, n1, .inl f1)), (h2, .inl (cA2, n2, .inl f2)), (h3, .inl (cA3, n3, .inl f3))] sz) (fun u : (Nat → Int32) × (Nat → Int32) × (Nat → Int32) => [(h0, .inr (12, o_M u.1 J0 a0_2 a0_4 a0_5 a0_6 a0_7 a0_8 a0_9 a0_10 a0_11 a0_22 h1 h2 a0_31 a0_32 h3)), (h1, .inl (cA1, n1, .inl f1)), (h2, .inl (cA2, n2, .inl u.2.1)), (h3, .inl (cA3, n3, .inl u.2.2))])) (va_A [(h0, .inr (12, o_M I0 J0 a0_2 a0_4 a0_5 a0_6 a0_7 a0_8 a0_9 a0_10 a0_11 a0_22 h1 h2 a0_31 a0_32 h3)), (h1, .inl (cA1, n1, .inl f1)), (h2, .inl (cA2, n2, .inl f2)), (h3, .inl (cA3, n3, .inl f3))] sz)) 0 0 (va_A [(h0, .inr (12, o_M I0 J0 a0_2 a0_4 a0_5 a0_6 a0_7 a0_8 a0_9 a0_10 a0_11 a0_22 h1 h2 a0_31 a0_32 h3)), (h1, .inl (cA1, n1, .inl f1)), (h2, .inl (cA2, n2, .inl f2)), (h3, .inl (cA3, n3, .inl f3))] sz) := by
  refine Met.ofW (cc := prog_14_method_40_code) (maxL := 2) (ret := none) (by decide +kernel) rfl ?_
  intro p e s m args below meth c s₁ B hml hp
  obtain ⟨rfl, hsz, hP, hK, hD0, hE⟩ := hp
  have hts := atoms_spec (ws := (Cond.code (⟨"NumberDressModel", "general", "()V"⟩ : MethodName) prog_14_method_40_code 2 none :: zT)) B.pre
  have hown : s.vm.findClass "NumberDressModel" = some m.cls := findClass_of_methodNamed B.named
  have hc : zC p s m _ meth c prog_14_method_40_code none 2 "NumberDressModel" := ⟨B.exec, B.bytes, B.returns, hml, hown, fun w h => hts w (List.mem_cons_of_mem _ h), B.notSynchronized⟩
  subst hsz
  have hD := hD0.self (sz := s.heap.size)
  generalize hAe : va_A [(h0, .inr (12, o_M I0 J0 a0_2 a0_4 a0_5 a0_6 a0_7 a0_8 a0_9 a0_10 a0_11 a0_22 h1 h2 a0_31 a0_32 h3)), (h1, .inl (cA1, n1, .inl f1)), (h2, .inl (cA2, n2, .inl f2)), (h3, .inl (cA3, n3, .inl f3))] s.heap.size = A at hD hE ⊢
  have hA : ∀ q : Nat, s.heap.size ≤ q → A q := fun q h => by rw [← hAe]; exact Or.inr h
  have hl := lv_entry ([.ref h0]) (n := 2) (Nat.le_of_ble_eq_true rfl)
  rw [lg_entry_eq]
  exact b_M_general_0 hc hA hE hl hK hP hD va_S.rf hv
end
